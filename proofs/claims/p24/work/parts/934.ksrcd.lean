section
/-! the class: what is set, its code while it is under way -/
def rgT (t : Option Nat) (tk : Nat) : gRg := match t with
  | none => ([], [], 0, false, none, tk)
  | some _ => rg0
def tkB (t : Option Nat) (tk : Nat) : Nat := match t with
  | none => tk
  | some t0 => t0
/-- the events N, from x to y: no step yet, the sums Su written (where, what), a place told -/
def PD (sN : Nat → Nat → Bool) (V K : Nat → Int32) (Ev : gV) (x y : gd) (t : Option Nat) (N : gU) (Su : List (Int32 × gU)) (pl : Nat) (ro : Bool) : Prop := still N ∧ (∀ d, ces K V N d = d) ∧ (∀ q ∈ Su, sEv false q.2) ∧ (∀ (Ec : gV) (S : List gSt) (k : List Nat) (w : List (Nat × Nat) × List (Nat × gU)) (tk : Nat), ¬ Ec.2.1 = [] → cds sN K N (Ec, S, k, rgT t tk, w) = (Ec, S, k, ([], Su.map Prod.snd, pl, ro, t, tkB t tk), w)) ∧ ∀ c d P, eqE c.1 Ev → CCp sN V K x c d P → CCp sN V K y c d (P ++ tPs sN V K N Ev) ∧ ∀ q ∈ Su, SUc (P ++ tPs sN V K N Ev) q.1 (sPs sN V K Ev q.2)
/-- all of it, with its step -/
def CGs (sN : Nat → Nat → Bool) (V K : Nat → Int32) (Ev : gV) (x z : gd) (t : Option Nat) (N : gU) : Prop := ∀ tk c d P, eqE c.1 Ev → c.2.2.2.1 = rgT t tk → CCp sN V K x c d P → CCp sN V K z (cds sN K N c) (ces K V N d) (P ++ tPs sN V K N Ev) ∧ eqE (cds sN K N c).1 (exs N Ev) ∧ (cds sN K N c).2.2.2.1 = rg0
/-- where it goes: a local by its number, or a cell by its name's token -/
def TGc (sN : Nat → Nat → Bool) (Ev : gV) (t : Option Nat) (a b : Int32) : Prop := (toL sN Ev.1 t = none ∧ a = -1 ∧ ∃ t0, t = some t0 ∧ b.toInt = (t0 : Nat)) ∨ ∃ p, toL sN Ev.1 t = some p ∧ ¬ a = -1 ∧ a.toInt = (p : Nat)
def inS (Su : List (Int32 × gU)) (v : Int32) (o : Option gU) : Prop := match o with
  | none => v = -1
  | some N => (v, N) ∈ Su
/-- behind a place: its index's sum, and the sums Q -/
def PDp (sN : Nat → Nat → Bool) (V K : Nat → Int32) (Ev : gV) (x y : gd) (t : Option Nat) (N : gU) (b2 i2 : Int32) (Q : List (Int32 × gU)) : Prop := ∃ pl ro Si, b2.toInt = ((pl : Nat) : Int) ∧ ((ro = false ∧ i2 = -1 ∧ Si = []) ∨ (ro = true ∧ ∃ N1, Si = [(i2, N1)])) ∧ PD sN V K Ev x y t N (Si ++ Q) pl ro
section KPD
variable {sN : Nat → Nat → Bool} {V K : Nat → Int32} {Ev : gV} {x y z w : gd} {N N' : gU} {v : Nat × Nat × Nat} {e i j pl : Nat} {o a b ob b2 i2 f2 e2 ix e9 f9 r : Int32} {t : Option Nat} {Su Q : List (Int32 × gU)} {ro : Bool}
theorem PD_0 (fr : ∀ c k, ccS c k → y.1 c k = x.1 c k) (hN : N = pme t ∨ N = pma t) : PD sN V K Ev x y t N [] 0 false := by
  have go : ∀ N0 : gU, tPs sN V K N0 Ev = [] → ∀ c d P, eqE c.1 Ev → CCp sN V K x c d P → CCp sN V K y c d (P ++ tPs sN V K N0 Ev) ∧ ∀ q ∈ ([] : List (Int32 × gU)), SUc (P ++ tPs sN V K N0 Ev) q.1 (sPs sN V K Ev q.2) := fun N0 e c d P he hc => by
    rw [e, List.append_nil]
    exact ⟨CCp_eq fr hc, fun q hq => by cases hq⟩
  cases t with
  | none =>
    have e : N = [] := by rcases hN with e | e <;> exact e
    rw [e]
    exact ⟨still_nil, fun d => rfl, fun q hq => (by cases hq), fun Ec S k w tk _ => rfl, go [] rfl⟩
  | some t0 =>
    rcases hN with e | e
    · have e : N = [(26, t0, 0)] := e
      rw [e]
      exact ⟨stl_k (by decide), fun d => rfl, fun q hq => (by cases hq), fun Ec S k w tk _ => rfl, go _ rfl⟩
    · have e : N = [(25, t0, 0)] := e
      rw [e]
      exact ⟨stl_k (by decide), fun d => rfl, fun q hq => (by cases hq), fun Ec S k w tk _ => rfl, go _ rfl⟩
theorem PD_fr (h : PD sN V K Ev x y t N Su pl ro) (fr : ∀ c k, ccS c k → z.1 c k = y.1 c k) : PD sN V K Ev x z t N Su pl ro := ⟨h.1, h.2.1, h.2.2.1, h.2.2.2.1, fun c d P he hc => ⟨CCp_eq fr (h.2.2.2.2 c d P he hc).1, (h.2.2.2.2 c d P he hc).2⟩⟩
theorem PD_6 (h : PD sN V K Ev x y t N Su pl ro) (hEv : ¬ Ev.2.1 = []) : PD sN V K Ev x y t (N ++ [(6, i, 0)]) Su i false := by
  obtain ⟨h1, h2, h3, h4, h5⟩ := h
  have ep : tPs sN V K (N ++ [(6, i, 0)]) Ev = tPs sN V K N Ev := by
    rw [tPs_app, exs_still h1]
    have : tPs sN V K [(6, i, 0)] Ev = [] := by
      show (if Ev.2.1 = [] then some ((6 : Int32), Int32.ofNat i) else none).toList ++ [] = []
      rw [if_neg hEv]; rfl
    rw [this, List.append_nil]
  refine ⟨still_app h1 (stl_k (by decide)), fun d => by rw [ces_app, h2]; rfl, h3, fun Ec S k w tk hE => ?_, fun c d P he hc => by rw [ep]; exact h5 c d P he hc⟩
  rw [cds_app, h4 _ _ _ _ _ hE, cds_one, cd_6 hE]
theorem PD_7 (h : PD sN V K Ev x y t N Su pl ro) (hEv : ¬ Ev.2.1 = []) : PD sN V K Ev x y t (N ++ [(7, i, 0)]) Su i true := by
  obtain ⟨h1, h2, h3, h4, h5⟩ := h
  have ep : tPs sN V K (N ++ [(7, i, 0)]) Ev = tPs sN V K N Ev := by
    rw [tPs_app, exs_still h1]
    have : tPs sN V K [(7, i, 0)] Ev = [] := by
      show (if Ev.2.1 = [] then some ((6 : Int32), Int32.ofNat i) else none).toList ++ [] = []
      rw [if_neg hEv]; rfl
    rw [this, List.append_nil]
  refine ⟨still_app h1 (stl_k (by decide)), fun d => by rw [ces_app, h2]; rfl, h3, fun Ec S k w tk hE => ?_, fun c d P he hc => by rw [ep]; exact h5 c d P he hc⟩
  rw [cds_app, h4 _ _ _ _ _ hE, cds_one, cd_7 hE]
/-- one more sum is written -/
theorem PD_x (h : PD sN V K Ev x y t N Su pl ro) (hs : sEv false N') (hp : CPl y z (sPs sN V K Ev (N' ++ [(54, 0, 0)]))) (fr : ∀ c k, ccS c k → ¬ (c = 60 ∧ k = 3) → ¬ c = 62 → ¬ c = 63 → z.1 c k = y.1 c k) (hr : r = y.1 60 3) : PD sN V K Ev x z t (N ++ (N' ++ [(54, 0, 0)])) (Su ++ [(r, N')]) pl ro := by
  obtain ⟨h1, h2, h3, h4, h5⟩ := h
  have ep : tPs sN V K (N ++ (N' ++ [(54, 0, 0)])) Ev = tPs sN V K N Ev ++ sPs sN V K Ev (N' ++ [(54, 0, 0)]) := by
    rw [tPs_app, exs_still h1, tPs_x hs]
  refine ⟨still_app h1 (still_54 (sEv_still hs)), fun d => by rw [ces_app, h2, ces_app, sEv_ce hs]; rfl, fun q hq => ?_, fun Ec S k w tk hE => ?_, fun c d P he hc => ?_⟩
  · rcases List.mem_append.mp hq with q1 | q1
    · exact h3 q q1
    · rw [List.mem_singleton.mp q1]; exact hs
  · rw [cds_app, h4 _ _ _ _ _ hE, cds_x hs hE, List.map_append]; rfl
  · obtain ⟨g1, g2⟩ := h5 c d P he hc
    obtain ⟨Ec, S, k, rr, ww⟩ := c
    rw [ep, ← List.append_assoc]
    refine ⟨CCp_sum (r' := rr) g1 hp fr, fun q hq => ?_⟩
    rcases List.mem_append.mp hq with q1 | q1
    · exact SUc_mono (g2 q q1) _
    · rw [List.mem_singleton.mp q1, sPs_54]
      exact SUc_next g1.1 hr _
theorem toL_eq {E E' : gV} (h : eqE E E') : toL sN E.1 t = toL sN E'.1 t := by
  cases t with
  | none => exact congrArg some (eqE_len h)
  | some t0 => exact kfi_len h.1
/-- the step -/
theorem PD_endt {op : Nat} {tf : Nat → Nat} {to obj : Option Nat} {fl : Bool} {ixs es fs : Option gU} (h : PD sN V K Ev x y t N Su pl ro) (hEv : ¬ Ev.2.1 = []) (hE : KV' K e y Ev) (ha : stK y z o (y.1 100 9) a ob ix e9 f9) (hcd : ∀ (Ec : gV) S k w tk, eqE Ec Ev → cdV sN K (Ec, S, k, ([], Su.map Prod.snd, pl, ro, t, tk), w) v = (Ec, S ++ [(op, tf tk, knw Ec, to, obj, fl, ixs, es, fs)], k, rg0, w)) (ho : o = Int32.ofNat op) (h8 : ¬ op = 8) (h13 : ¬ op = 13) (hto : (op = 0 ∨ (2 ≤ op ∧ op ≤ 4) ∨ op = 16 ∨ op = 17 ∨ op = 20) → tgI a to) (hob : ¬ op = 16 → tgI ob obj) (hix : inS Su ix ixs) (hes : inS Su e9 es) (hfs : inS Su f9 fs) (hv1 : still [v]) (hv2 : ∀ d, ces K V [v] d = d) (hv3 : tPs sN V K [v] Ev = []) : CGs sN V K Ev x z t (N ++ [v]) := by
  obtain ⟨h1, h2, h3, h4, h5⟩ := h
  intro tk c d P he hr hc
  obtain ⟨Ec, S, k, rr, ww⟩ := c
  have hr : rr = rgT t tk := hr
  have he : eqE Ec Ev := he
  obtain ⟨g1, g2⟩ := h5 _ d P he hc
  have hEc : ¬ Ec.2.1 = [] := by rw [he.2]; exact hEv
  have kl : (y.1 100 9).toInt = (Ec.1.length : Nat) := by rw [hE.1, eqE_len he]
  have su : ∀ (v9 : Int32) (o9 : Option gU), inS Su v9 o9 → cSu sN V K (P ++ tPs sN V K N Ev) Ec.1 v9 o9 := by
    intro v9 o9 hi
    cases o9 with
    | none => exact hi
    | some N9 =>
      have hi : (v9, N9) ∈ Su := hi
      have q1 := g2 _ hi
      have q2 : sPs sN V K Ev N9 = sPs sN V K (Ec.1, [0], 0) N9 := sPs_E (h3 _ hi) (fun t => kfi_len he.1.symm)
      show SUc _ _ (sPs sN V K (Ec.1, [0], 0) N9)
      rw [← q2]
      exact q1
  have q := CCp_add (st := (op, tf (tkB t tk), knw Ec, to, obj, fl, ixs, es, fs)) (r' := rg0) g1 ha ho kl hto (fun q => absurd q h8) (fun q => by
    have q : ¬ op = 16 := q
    have hob := hob q
    cases obj with
    | none => exact hob
    | some n =>
      show if op = 13 then ob = V n else ob.toInt = (n : Nat)
      rw [if_neg h13]
      exact hob) (su _ _ hix) (su _ _ hes) (su _ _ hfs)
  have ec : cds sN K (N ++ [v]) (Ec, S, k, rr, ww) = (Ec, S ++ [(op, tf (tkB t tk), knw Ec, to, obj, fl, ixs, es, fs)], k, rg0, ww) := by
    rw [hr, cds_app, h4 _ _ _ _ _ hEc, cds_one, hcd _ _ _ _ _ he]
  have ee : ces K V (N ++ [v]) d = d := by rw [ces_app, h2, hv2]
  have ep : tPs sN V K (N ++ [v]) Ev = tPs sN V K N Ev := by rw [tPs_app, exs_still h1, hv3, List.append_nil]
  rw [ec, ee, ep, exs_still (still_app h1 hv1)]
  exact ⟨q, he, rfl⟩
theorem PD_end {op : Nat} {to obj : Option Nat} {fl : Bool} {ixs es fs : Option gU} (h : PD sN V K Ev x y t N Su pl ro) (hEv : ¬ Ev.2.1 = []) (hE : KV' K e y Ev) (ha : stK y z o (y.1 100 9) a ob ix e9 f9) (hcd : ∀ (Ec : gV) S k w tk, eqE Ec Ev → cdV sN K (Ec, S, k, ([], Su.map Prod.snd, pl, ro, t, tk), w) v = (Ec, S ++ [(op, tk, knw Ec, to, obj, fl, ixs, es, fs)], k, rg0, w)) (ho : o = Int32.ofNat op) (h8 : ¬ op = 8) (h13 : ¬ op = 13) (hto : (op = 0 ∨ (2 ≤ op ∧ op ≤ 4) ∨ op = 16 ∨ op = 17 ∨ op = 20) → tgI a to) (hob : ¬ op = 16 → tgI ob obj) (hix : inS Su ix ixs) (hes : inS Su e9 es) (hfs : inS Su f9 fs) (hv1 : still [v]) (hv2 : ∀ d, ces K V [v] d = d) (hv3 : tPs sN V K [v] Ev = []) : CGs sN V K Ev x z t (N ++ [v]) := PD_endt (tf := fun n => n) h hEv hE ha hcd ho h8 h13 hto hob hix hes hfs hv1 hv2 hv3
theorem TGc_a (h : TGc sN Ev t a b) : tgI a (toL sN Ev.1 t) := by
  rcases h with ⟨e1, e2, -⟩ | ⟨p, e1, -, e2⟩
  · rw [e1]; exact e2
  · rw [e1]; exact e2
theorem opX_c (k : Int32) : 2 ≤ opX k ∧ opX k ≤ 4 := by
  unfold opX
  split
  · decide
  · split <;> decide
/-- reading -/
theorem PD_75 (h : PDp sN V K Ev x y t N b2 i2 []) (hEv : ¬ Ev.2.1 = []) (hE : KV' K e y Ev) (hT : TGc sN Ev t a b) (ha : stK y z 0 (y.1 100 9) a b2 i2 (-1) (-1)) : CGs sN V K Ev x z t (N ++ [(75, i, 0)]) := by
  obtain ⟨pl, ro, Si, eb, hS, h⟩ := h
  rw [List.append_nil] at h
  refine PD_end (op := 0) (to := toL sN Ev.1 t) (obj := some pl) (fl := ro) (ixs := if ro = true then some ((Si.map Prod.snd).getD 0 []) else none) (es := none) (fs := none) h hEv hE ha (fun Ec S k w tk he => ?_) rfl (by decide) (by decide) (fun _ => TGc_a hT) (fun _ => eb) ?_ rfl rfl (stl_k (by decide)) (fun d => rfl) rfl
  · rw [cd_75, toL_eq he]
  · rcases hS with ⟨e1, e2, e3⟩ | ⟨e1, N1, e3⟩
    · rw [e1]; exact e2
    · rw [e1, e3]
      exact List.mem_singleton.mpr rfl
/-- exchange, add -/
theorem PD_74 {N2 : gU} (h : PDp sN V K Ev x y t N b2 i2 [(f2, N2)]) (hEv : ¬ Ev.2.1 = []) (hE : KV' K e y Ev) (hT : TGc sN Ev t a b) (hK : ¬ K i = 16) (ho : o = Int32.ofNat (opX (K i))) (ha : stK y z o (y.1 100 9) a b2 i2 f2 (-1)) : CGs sN V K Ev x z t (N ++ [(74, i, 0)]) := by
  obtain ⟨pl, ro, Si, eb, hS, h⟩ := h
  have op := opX_c (K i)
  rcases hS with ⟨e1, e2, e3⟩ | ⟨e1, N1, e3⟩
  · rw [e1, e3] at h
    refine PD_end (op := opX (K i)) (to := toL sN Ev.1 t) (obj := some pl) (fl := false) (ixs := none) (es := some N2) (fs := none) h hEv hE ha (fun Ec S k w tk he => ?_) ho (by omega) (by omega) (fun _ => TGc_a hT) (fun _ => eb) e2 (List.mem_singleton.mpr rfl) rfl (stl_k (by decide)) (fun d => rfl) rfl
    rw [cd_74, ← toL_eq he]
    unfold cXc
    rw [if_neg (show ¬ false = true by decide), if_neg hK]
    rfl
  · rw [e1, e3] at h
    refine PD_end (op := opX (K i)) (to := toL sN Ev.1 t) (obj := some pl) (fl := true) (ixs := some N1) (es := some N2) (fs := none) h hEv hE ha (fun Ec S k w tk he => ?_) ho (by omega) (by omega) (fun _ => TGc_a hT) (fun _ => eb) List.mem_cons_self (List.mem_cons_of_mem _ (List.mem_singleton.mpr rfl)) rfl (stl_k (by decide)) (fun d => rfl) rfl
    rw [cd_74, ← toL_eq he]
    unfold cXc
    rw [if_pos rfl, if_neg hK]
    rfl
theorem PD_74c {N2 N3 : gU} (h : PDp sN V K Ev x y t N b2 i2 [(f2, N2), (e2, N3)]) (hEv : ¬ Ev.2.1 = []) (hE : KV' K e y Ev) (hT : TGc sN Ev t a b) (hK : K i = 16) (ha : stK y z 4 (y.1 100 9) a b2 i2 f2 e2) : CGs sN V K Ev x z t (N ++ [(74, i, 0)]) := by
  obtain ⟨pl, ro, Si, eb, hS, h⟩ := h
  rcases hS with ⟨e1, e3, e4⟩ | ⟨e1, N1, e4⟩
  · rw [e1, e4] at h
    refine PD_end (op := 4) (to := toL sN Ev.1 t) (obj := some pl) (fl := false) (ixs := none) (es := some N2) (fs := some N3) h hEv hE ha (fun Ec S k w tk he => ?_) rfl (by omega) (by omega) (fun _ => TGc_a hT) (fun _ => eb) e3 List.mem_cons_self (List.mem_cons_of_mem _ (List.mem_singleton.mpr rfl)) (stl_k (by decide)) (fun d => rfl) rfl
    rw [cd_74, ← toL_eq he]
    unfold cXc
    rw [if_neg (show ¬ false = true by decide), if_pos hK, hK]
    rfl
  · rw [e1, e4] at h
    refine PD_end (op := 4) (to := toL sN Ev.1 t) (obj := some pl) (fl := true) (ixs := some N1) (es := some N2) (fs := some N3) h hEv hE ha (fun Ec S k w tk he => ?_) rfl (by omega) (by omega) (fun _ => TGc_a hT) (fun _ => eb) List.mem_cons_self (List.mem_cons_of_mem _ List.mem_cons_self) (List.mem_cons_of_mem _ (List.mem_cons_of_mem _ (List.mem_singleton.mpr rfl))) (stl_k (by decide)) (fun d => rfl) rfl
    rw [cd_74, ← toL_eq he]
    unfold cXc
    rw [if_pos rfl, if_pos hK, hK]
    rfl
/-- a sum is set -/
theorem cSe_c {Ec : gV} {S : List gSt} {k : List Nat} {rr : gRg} {w : List (Nat × Nat) × List (Nat × gU)} {tk : Nat} {M : gU} (he : eqE Ec Ev) : cSe sN (Ec, S, k, rr, w) t tk M = (Ec, S ++ [((if toL sN Ev.1 t = none then 1 else 16 : Nat), tk, knw Ec, toL sN Ev.1 t, (if toL sN Ev.1 t = none then t else none), false, none, some M, none)], k, rg0, w) := by
  show (match toL sN Ec.1 t with | some p => cEm (Ec, S, k, rr, w) (16, tk, knw Ec, some p, none, false, none, some M, none) | none => cEm (Ec, S, k, rr, w) (1, tk, knw Ec, none, t, false, none, some M, none)) = _
  rw [toL_eq he]
  cases toL sN Ev.1 t <;> rfl
theorem PD_se {fl : Bool} (h : PD sN V K Ev x y t N Su pl ro) (hEv : ¬ Ev.2.1 = []) (hE : KV' K e y Ev) (hT : TGc sN Ev t a b) {N2 : gU} (hSu : (f2, N2) ∈ Su) (ha : stK y z (if a = -1 then 1 else 16) (y.1 100 9) a b (-1) f2 (-1)) (hcd : ∀ (Ec : gV) S k w tk, cdV sN K (Ec, S, k, ([], Su.map Prod.snd, pl, ro, t, tk), w) v = cSe sN (Ec, S, k, ([], Su.map Prod.snd, pl, ro, t, tk), w) t tk N2) (hv1 : still [v]) (hv2 : ∀ d, ces K V [v] d = d) (hv3 : tPs sN V K [v] Ev = []) : CGs sN V K Ev x z t (N ++ [v]) := by
  refine PD_end (op := if toL sN Ev.1 t = none then 1 else 16) (to := toL sN Ev.1 t) (obj := if toL sN Ev.1 t = none then t else none) (fl := false) (ixs := none) (es := some N2) (fs := none) h hEv hE ha (fun Ec S k w tk he => by rw [hcd, cSe_c he]) ?_ ?_ ?_ (fun _ => TGc_a hT) (fun q => ?_) rfl hSu rfl hv1 hv2 hv3
  · rcases hT with ⟨e1, e2, -⟩ | ⟨p, e1, e2, -⟩
    · rw [e1, if_pos rfl, if_pos e2]; rfl
    · rw [if_neg e2, e1]; rfl
  · split <;> decide
  · split <;> decide
  · rcases hT with ⟨e1, e2, t0, e3, e4⟩ | ⟨p, e1, e2, -⟩
    · rw [e1, if_pos rfl, e3]; exact e4
    · rw [e1, if_neg (by simp)] at q; exact absurd rfl q
theorem PD_76 {N2 : gU} (h : PD sN V K Ev x y t N [(f2, N2)] pl ro) (hEv : ¬ Ev.2.1 = []) (hE : KV' K e y Ev) (hT : TGc sN Ev t a b) (ha : stK y z (if a = -1 then 1 else 16) (y.1 100 9) a b (-1) f2 (-1)) : CGs sN V K Ev x z t (N ++ [(76, i, 0)]) :=
  PD_se (fl := false) h hEv hE hT (List.mem_singleton.mpr rfl) ha (fun Ec S k w tk => cd_76) (stl_k (by decide)) (fun d => rfl) rfl
/-- a row's cell is set -/
theorem PD_78 {N1 N2 : gU} (h : PD sN V K Ev x y none N [(ix, N1), (f2, N2)] pl true) (hEv : ¬ Ev.2.1 = []) (hE : KV' K e y Ev) (eb : b2.toInt = (pl : Nat)) (ha : stK y z 1 (y.1 100 9) a b2 ix f2 (-1)) : CG sN V K Ev x z (N ++ [(78, i, 0)]) := fun c d P he hr hc => PD_endt (tf := fun _ => i) (op := 1) (to := none) (obj := some pl) (fl := true) (ixs := some N1) (es := some N2) (fs := none) h hEv hE ha (fun Ec S k w tk he => cd_78) rfl (by decide) (by decide) (fun q => absurd q (by decide)) (fun _ => eb) List.mem_cons_self (List.mem_cons_of_mem _ (List.mem_singleton.mpr rfl)) rfl (stl_k (by decide)) (fun d => rfl) rfl 0 c d P he hr hc
/-- a name alone -/
theorem cds_al {Ec : gV} {S : List gSt} {k : List Nat} {w : List (Nat × Nat) × List (Nat × gU)} {tk : Nat} : cds sN K [pal t i] (Ec, S, k, rgT t tk, w) = cAl sN (Ec, S, k, rgT t tk, w) t (tkB t tk) i := by
  cases t with
  | none => rfl
  | some t0 => rfl
theorem tPs_al : tPs sN V K [pal t i] Ev = alP sN Ev i := by
  cases t with
  | none => exact List.append_nil _
  | some t0 => exact List.append_nil _
theorem ces_al {d : Nat × Int32 × List (Int32 × Bool)} : ces K V [pal t i] d = d := by
  cases t with
  | none => rfl
  | some t0 => rfl
theorem stl_al : still [pal t i] := by
  cases t with
  | none => exact stl_k (by decide)
  | some t0 => exact stl_k (by decide)
/-- of a cell -/
theorem PD_al (fr : ∀ c k, ccS c k → y.1 c k = x.1 c k) (hE : KV' K e y Ev) (hT : TGc sN Ev t a b) (hk : kfi sN Ev.1 i = none) (hoi : ob.toInt = (i : Nat)) (ha : stK y z 0 (y.1 100 9) a ob (-1) (-1) (-1)) : CGs sN V K Ev x z t [pal t i] := by
  intro tk c d P he hr hc
  obtain ⟨Ec, S, k, rr, ww⟩ := c
  have hr : rr = rgT t tk := hr
  have he : eqE Ec Ev := he
  have kl : (y.1 100 9).toInt = (Ec.1.length : Nat) := by rw [hE.1, eqE_len he]
  have q := CCp_add (st := (0, tkB t tk, knw Ec, toL sN Ev.1 t, some i, false, none, none, none)) (r' := rg0) (CCp_eq fr hc) ha rfl kl (fun _ => TGc_a hT) (fun q => absurd q (show ¬ 0 = 8 by decide)) (fun _ => hoi) rfl rfl rfl
  have ec : cds sN K [pal t i] (Ec, S, k, rr, ww) = (Ec, S ++ [(0, tkB t tk, knw Ec, toL sN Ev.1 t, some i, false, none, none, none)], k, rg0, ww) := by
    rw [hr, cds_al]
    show (match kfi sN Ec.1 i with | some _ => cSe sN (Ec, S, k, rgT t tk, ww) t (tkB t tk) [(3, i, 0)] | none => cEm (Ec, S, k, rgT t tk, ww) (0, tkB t tk, knw Ec, toL sN Ec.1 t, some i, false, none, none, none)) = _
    rw [kfi_len he.1, hk, toL_eq he]
    rfl
  have ep : tPs sN V K [pal t i] Ev = [] := by
    rw [tPs_al]; unfold alP; rw [hk]
  rw [ec, ces_al, ep, exs_still stl_al, List.append_nil]
  exact ⟨q, he, rfl⟩
/-- of a local: a sum -/
theorem PD_als (h : PD sN V K Ev x y t (pma t ++ ([(3, i, 0)] ++ [(54, 0, 0)])) [(f2, [(3, i, 0)])] 0 false) (hEv : ¬ Ev.2.1 = []) (hE : KV' K e y Ev) (hT : TGc sN Ev t a b) (hk : ¬ kfi sN Ev.1 i = none) (ha : stK y z (if a = -1 then 1 else 16) (y.1 100 9) a b (-1) f2 (-1)) : CGs sN V K Ev x z t [pal t i] := by
  have q := PD_76 (i := 0) h hEv hE hT ha
  obtain ⟨p, hp⟩ : ∃ p, kfi sN Ev.1 i = some p := by
    cases h9 : kfi sN Ev.1 i with
    | none => exact absurd h9 hk
    | some p => exact ⟨p, rfl⟩
  have hs : sEv false [(3, i, 0)] := sEv_one (Or.inr (Or.inr (Or.inr (Or.inr (Or.inl ⟨rfl, rfl⟩)))))
  intro tk c d P he hr hc
  obtain ⟨q1, q2, q3⟩ := q tk c d P he hr hc
  obtain ⟨Ec, S, k, rr, ww⟩ := c
  have hr : rr = rgT t tk := hr
  have he : eqE Ec Ev := he
  have hEc : ¬ Ec.2.1 = [] := by rw [he.2]; exact hEv
  have ec : cds sN K [pal t i] (Ec, S, k, rr, ww) = cds sN K (pma t ++ ([(3, i, 0)] ++ [(54, 0, 0)]) ++ [(76, 0, 0)]) (Ec, S, k, rr, ww) := by
    rw [hr, cds_al, cds_app, h.2.2.2.1 _ _ _ _ _ hEc, cds_one, cd_76]
    show (match kfi sN Ec.1 i with | some _ => cSe sN (Ec, S, k, rgT t tk, ww) t (tkB t tk) [(3, i, 0)] | none => cEm (Ec, S, k, rgT t tk, ww) (0, tkB t tk, knw Ec, toL sN Ec.1 t, some i, false, none, none, none)) = _
    rw [kfi_len he.1, hp]
    show cSe sN (Ec, S, k, rgT t tk, ww) t (tkB t tk) [(3, i, 0)] = _
    rw [cSe_c he, cSe_c he]
    rfl
  have ee : ces K V (pma t ++ ([(3, i, 0)] ++ [(54, 0, 0)]) ++ [(76, 0, 0)]) d = d := by
    rw [ces_app, h.2.1]; rfl
  have pm : tPs sN V K (pma t) Ev = [] ∧ still (pma t) := by
    cases t with
    | none => exact ⟨rfl, still_nil⟩
    | some t0 => exact ⟨rfl, stl_k (by decide)⟩
  have ep : tPs sN V K (pma t ++ ([(3, i, 0)] ++ [(54, 0, 0)]) ++ [(76, 0, 0)]) Ev = alP sN Ev i := by
    have e1 : tPs sN V K [(76, 0, 0)] Ev = [] := rfl
    rw [tPs_app, exs_still h.1, e1, List.append_nil, tPs_app, exs_still pm.2, pm.1, List.nil_append, tPs_x hs]
    show (some ((2 : Int32), match kfi sN Ev.1 i with | some p => Int32.ofNat p | none => -1)).toList ++ [(0, 0)] = _
    unfold alP
    rw [hp]
    rfl
  have ex : exs (pma t ++ ([(3, i, 0)] ++ [(54, 0, 0)]) ++ [(76, 0, 0)]) Ev = Ev := exs_still (still_app h.1 (stl_k (by decide)))
  rw [ee, ep] at q1
  rw [ex] at q2
  rw [ec, ces_al, tPs_al, exs_still stl_al]
  exact ⟨q1, q2, q3⟩
end KPD
section KPE
variable {G : kG} {q : kP} {d : Nat} {x x0 y z xs : gd} {F : Int32 → gd → Prop} {Fv : gd → Prop} {X : String → gd → Prop} {M : Int} {E : Nat → Prop}
/-- the step is added, with all its fields -/
theorem kf_233 (hq : kV q) (hB : BB x0 y M E0) (ha : 2 * ssm y ≤ nx y + 2) (o l a b i2 e1 f1 : Int32) (ho : o = 0 ∨ o = 1 ∨ o = 2 ∨ o = 3 ∨ o = 4 ∨ o = 16) (hb : o.toInt ≤ 4 → PLc y b) (ht : ¬ o = 1 → (0 ≤ a.toInt ∧ a.toInt < M) ∨ BU y) (h : ∀ z, BB x0 z M E0 → nx z = nx y → om z = om y → ssm z = ssm y + 1 → (∀ c k, c < 80 ∨ 89 < c → z.1 c k = y.1 c k) → stK y z o (y.1 100 9) a b i2 f1 e1 → Fv z) : KE G q (d + 7) zk_X7_source 233 [(0, vr 100), (1, vi l), (2, vi a), (6, vi b), (7, vi i2), (8, vi e1), (9, vi f1)] [vi o, vr 80] y (rv Fv) X := by
  obtain ⟨a1, a2, a3, a4, a5⟩ := BB_400 hB ha
  refine kg_X7_source_233 hq _ _ _ _ _ _ _ (kf_add hq _ _ _ a1 a2 (fun w hA vin hF9 => ⟨vin, fun x4 e4 => ⟨vin, fun x6 e6 => ⟨vin, fun x8 e8 => ⟨vin, fun x10 e10 => ⟨vin, fun z ez => rv_i ?_⟩⟩⟩⟩⟩))
  obtain ⟨g1, f2, f3, f4, f5⟩ := hA
  have fz : fm (fun c k => (81 ≤ c ∧ c ≤ 89 ∧ k = (y.1 80 9).toNatClampNeg) ∨ (c = 80 ∧ k = 9)) y z := by
    rw [ez, e10, e8, e6, e4]
    exact fm_si (fm_si (fm_si (fm_si (fm_si g1 (Or.inl ⟨by omega, by omega, rfl⟩)) (Or.inl ⟨by omega, by omega, rfl⟩)) (Or.inl ⟨by omega, by omega, rfl⟩)) (Or.inl ⟨by omega, by omega, rfl⟩)) (Or.inl ⟨by omega, by omega, rfl⟩)
  have es : ssm z = ssm y + 1 := by
    have : z.1 80 9 = w.1 80 9 := by rw [ez, e10, e8, e6, e4]; (simp only [si_get, sfl_get, Nat.reduceEqDiff, eq_self, and_false, false_and, and_true, true_and, if_true, if_false, reduceIte, reduceCtorEq])
    unfold ssm at *; rw [this]; exact f2
  have z81 : z.1 81 (y.1 80 9).toNatClampNeg = o := by rw [ez, e10, e8, e6, e4]; (simp only [si_get, sfl_get, Nat.reduceEqDiff, eq_self, and_false, false_and, and_true, true_and, if_true, if_false, reduceIte, reduceCtorEq]); exact f3
  have z83 : z.1 83 (y.1 80 9).toNatClampNeg = y.1 100 9 := by rw [ez, e10, e8, e6, e4]; (simp only [si_get, sfl_get, Nat.reduceEqDiff, eq_self, and_false, false_and, and_true, true_and, if_true, if_false, reduceIte, reduceCtorEq]); exact f4
  have z84 : z.1 84 (y.1 80 9).toNatClampNeg = a := by rw [ez, e10, e8, e6, e4]; (simp only [si_get, sfl_get, Nat.reduceEqDiff, eq_self, and_false, false_and, and_true, true_and, if_true, if_false, reduceIte, reduceCtorEq])
  have z85 : z.1 85 (y.1 80 9).toNatClampNeg = b := by rw [ez, e10, e8, e6, e4]; (simp only [si_get, sfl_get, Nat.reduceEqDiff, eq_self, and_false, false_and, and_true, true_and, if_true, if_false, reduceIte, reduceCtorEq])
  have e9 : nx z = nx y := by unfold nx; rw [fz 100 4 (by omega)]
  have e13 : om z = om y := by unfold om; rw [fz 100 13 (by omega)]
  have hoi : (0 ≤ o.toInt ∧ ¬ o.toInt = 15) ∧ ¬ o.toInt = 17 ∧ ¬ o.toInt = 20 ∧ (o.toInt ≤ 10 → o.toInt ≤ 4) := by rcases ho with rfl | rfl | rfl | rfl | rfl | rfl <;> decide
  have hSA : SA z M (y.1 80 9).toNatClampNeg := by
    unfold SA sop stg
    rw [z81, z83, z84, z85]
    refine ⟨hoi.1, ⟨a4, a5⟩, fun c => ?_, fun c => ?_⟩
    · obtain ⟨t, t1, t2, t3⟩ := hb (hoi.2.2.2 c)
      have := hoi.2.2.2 c
      exact ⟨t, t1, by omega, fun _ => by rw [fz 42 t (by omega)]; exact t3, fun c1 c2 => by omega, fun c1 => by omega⟩
    · have k1 : (1 : Int32).toInt = 1 := rfl
      rcases ht (fun e => by rw [e, k1] at c; omega) with g | g
      · exact Or.inl g
      · exact Or.inr (La_BU ⟨fun c k q1 q2 => fz c k (by omega), by omega, fun j _ => fz 42 j (by omega)⟩ g)
  have hBz := BB_add hB (n := (y.1 80 9).toNatClampNeg) (by omega) fz es hSA
  refine h z (BB_E hBz (fun e => e.elim id (fun e => by omega)) (fun i hi he hne => ?_)) e9 e13 es (fun c k hc => fz c k (by omega)) ⟨fun c k q q1 q2 => fz c k (fun w => w.elim q1 q2), es, z81, z83, z84, z85, by rw [ez, e10, e8, e6, e4]; (simp only [si_get, sfl_get, Nat.reduceEqDiff, eq_self, and_false, false_and, and_true, true_and, if_true, if_false, reduceIte, reduceCtorEq]), by rw [ez, e10, e8, e6, e4]; (simp only [si_get, sfl_get, Nat.reduceEqDiff, eq_self, and_false, false_and, and_true, true_and, if_true, if_false, reduceIte, reduceCtorEq]), by rw [ez, e10, e8, e6, e4]; (simp only [si_get, sfl_get, Nat.reduceEqDiff, eq_self, and_false, false_and, and_true, true_and, if_true, if_false, reduceIte, reduceCtorEq])⟩
  rcases he with he | he
  · exact absurd he hne
  · rw [he]
    refine SC_no ?_ ?_ <;> (unfold sop; rw [z81]; omega)
end KPE
end
section
/-! the class: what is set, as the grammar says -/
theorem pX_7 {K : Nat → Int32} {o : Bool} {f i : Nat} {L : gU} (h : 700 ≤ i) : pX K o f i L = none := by
  unfold pX
  rw [← dAk_1 (v := (50, 0, 0)), dA_7 h]
  rfl
theorem pR_7 {K : Nat → Int32} {f i : Nat} {t : Option Nat} {L : gU} (h : 700 ≤ i) : pR K f t i L = none := by
  unfold pR
  by_cases c1 : K i = 35 ∨ K i = 10 ∨ K i = 16
  · rw [if_pos c1, if_neg (by omega)]
  rw [if_neg c1, if_neg (fun q => absurd q.2.1 (by omega))]
  by_cases c2 : K i = 1 ∧ K (i + 1) = 67
  · rw [if_pos c2, if_neg (fun q => absurd q.1 (by omega))]
  rw [if_neg c2, pX_7 h]
  rfl
/-- a name alone is a sum -/
theorem pX_name {K : Nat → Int32} {f i : Nat} {L : gU} (h : K i = 1) (h2 : K (i + 1) = 67) (hi : i < 700) : pX K false (f + 1) i L = some (i + 1, L ++ [(3, i, 0)] ++ [(54, 0, 0)]) := by
  have e : pO (pE K false f) K false i L = some (i + 1, L ++ [(3, i, 0)]) := by
    unfold pO
    rw [if_neg (by omega), if_neg (by rw [h]; decide), if_neg (by rw [h]; decide), if_neg (by rw [h]; decide), if_pos h, if_neg (by decide)]
  unfold pX
  rw [← dAk_1 (v := (50, 0, 0)), dA_leaf (Or.inr (Or.inr (Or.inl h))) (by rw [h]; decide) e, dW_end (by show pst (K (i + 1)) ≤ 0; rw [h2]; decide)]
  rfl
theorem pX_f0 {K : Nat → Int32} {o : Bool} {i : Nat} {L : gU} : pX K o 0 i L = none := rfl
section KSRF
variable {G : kG} {q : kP} {d : Nat} {x x0 y z xs : gd} {F : Int32 → gd → Prop} {Fv : gd → Prop} {X : String → gd → Prop} {P : Option gv → gd → Prop} {M : Int} {E : Nat → Prop} {K V : Nat → Int32} {sN : Nat → Nat → Bool} {e : Nat} {Ev : gV} {Ml N : gU}
/-- what stands behind = -/
def SOP (K : Nat → Int32) (sN : Nat → Nat → Bool) (Ev : gV) (i : Nat) (r : Int32) : Prop := (r = 2 ∧ K i = 35) ∨ (r = 3 ∧ K i = 10) ∨ (r = 4 ∧ K i = 16) ∨ (r = 0 ∧ K i = 1 ∧ (i < 700 → K (i + 1) = 65 ∨ (K (i + 1) = 67 ∧ kfi sN Ev.1 i = none))) ∨ (r = 16 ∧ ¬ (K i = 35 ∨ K i = 10 ∨ K i = 16) ∧ (K i = 1 → i < 700 → ¬ K (i + 1) = 65 ∧ (K (i + 1) = 67 → ¬ kfi sN Ev.1 i = none)))
theorem kd_sourceOp (hq : kV q) (hB : BB x0 x M E) (hA : KA K V sN e x) (hn : nn x ≤ e) (hE : KV' K e x Ev) (h : ∀ r : Int32, SOP K sN Ev (nn x) r → F r x) : KT G q (d + 2) zk_X7_sourceOp 0 [(0, vr 100)] [] x (ri F) := by
  have hK := (hB.2.2.1.1 hB.2.2.2.2.1).1
  have kk : ∀ c : Int32, ¬ kc c = -1 → (x.1 23 (x.1 100 4).toNatClampNeg = c ↔ K (nn x) = kc c) := fun c hc => KA_k hA hn c hc
  have k65 := kk 65 (by decide)
  have k40 := kk 40 (by decide)
  have k46 := kk 46 (by decide)
  have k2 := kk 2 (by decide)
  have behind : K (nn x) = 1 → nn x < 700 → ∀ c : Int32, ¬ kc c = -1 → (x.1 23 ((x.1 100 4).toNatClampNeg + 1) = c ↔ K (nn x + 1) = kc c) := fun h1 h7 c hc => KA_k hA (KA_on hA hn h7 (by rw [h1]; decide) (by rw [h1]; decide)) c hc
  have p81 : K (nn x) = 1 → ∀ s : Int32, ((¬ s = 0 ∧ (nn x < 700 → K (nn x + 1) = 67 ∧ kfi sN Ev.1 (nn x) = none)) ∨ (s = 0 ∧ (nn x < 700 → K (nn x + 1) = 67 → ¬ kfi sN Ev.1 (nn x) = none))) → KT G q (d + 2) zk_X7_sourceOp 81 [(0, vr 100)] [vi s] x (ri F) := by
    intro c s hs
    have n35 : ¬ (K (nn x) = 35 ∨ K (nn x) = 10 ∨ K (nn x) = 16) := by rw [c]; decide
    refine kg_X7_sourceOp_81 hq _ ⟨fun c0 => ri_i (h _ (Or.inr (Or.inr (Or.inr (Or.inl ⟨rfl, c, fun h7 => ?_⟩))))), fun c0 => kp_sortBehind hq hB.1.1 ⟨fun c25 => ri_i (h _ (Or.inr (Or.inr (Or.inr (Or.inr ⟨rfl, n35, fun _ h7 => ⟨fun z => ?_, fun z => ?_⟩⟩))))), fun c25 => ri_i (h _ (Or.inr (Or.inr (Or.inr (Or.inl ⟨rfl, c, fun h7 => Or.inl ?_⟩)))))⟩⟩
    · rcases hs with ⟨-, e⟩ | ⟨e, -⟩
      · exact Or.inr (e h7)
      · exact absurd e c0
    · exact c25 ((behind c h7 25 (by decide)).mpr z)
    · rcases hs with ⟨e, -⟩ | ⟨-, e⟩
      · exact absurd c0 e
      · exact e h7 z
    · exact (behind c h7 25 (by decide)).mp c25
  refine kg_X7_sourceOp_0 hq (kp_sort hq hB.1.1 ⟨fun c => ri_i (h _ (Or.inl ⟨rfl, k65.mp c⟩)), fun c => ri_i (h _ (Or.inr (Or.inl ⟨rfl, k40.mp c⟩))), fun c => ri_i (h _ (Or.inr (Or.inr (Or.inl ⟨rfl, k46.mp c⟩)))), fun c => ?_, fun c => ri_i (h _ (Or.inr (Or.inr (Or.inr (Or.inr ⟨rfl, ?_, fun z => ?_⟩)))))⟩)
  · have c1 : K (nn x) = 1 := k2.mp c
    refine kp_sortBehind hq hB.1.1 ⟨fun c27 => p81 c1 _ (Or.inr ⟨rfl, fun h7 z => absurd ((behind c1 h7 27 (by decide)).mpr z) c27⟩), fun c27 => kf_knownFrom hq hB.1.1.1 hK hA hE _ _ (by decide) ⟨hB.1.1.2.1, RB_lt hB.1.1 (by rw [c]; decide)⟩ hn c1 (fun r hr => ⟨fun c9 => p81 c1 _ (Or.inr ⟨rfl, fun h7 z => ?_⟩), fun c9 => p81 c1 _ (Or.inl ⟨by decide, fun h7 => ⟨(behind c1 h7 27 (by decide)).mp c27, ?_⟩⟩)⟩)⟩
    · rcases hr with ⟨e, -⟩ | ⟨n, e1, e2, e3, e4, -⟩
      · exact absurd e c9
      · rw [show nn x = (x.1 100 4).toNatClampNeg from rfl, e4]; simp
    · rcases hr with ⟨-, e⟩ | ⟨n, e1, e2, e3, e4, -⟩
      · exact kfi_of e
      · exfalso
        rw [c9, tm1] at e1
        omega
  · rintro (z | z | z)
    · exact c 65 (by decide) (k65.mpr z)
    · exact c 40 (by decide) (k40.mpr z)
    · exact c 46 (by decide) (k46.mpr z)
  · exact absurd (k2.mpr z) (c 2 (by decide))
end KSRF
end
section
/-! the class: what is set, from the first sum on -/
def SFin (K V : Nat → Int32) (sN : Nat → Nat → Bool) (e : Nat) (Ev : gV) (x : gd) (t : Option Nat) (L : gU) (W : gOp) (y : gd) : Prop := KV' K e y Ev ∧ ∃ N, RIw K V sN e Ev x y N ∧ still N ∧ (∀ t0, t = some t0 → kfi sN Ev.1 t0 = none → HBs sN N Ev t0 6) ∧ W = some (nn y, L ++ N) ∧ CGs sN V K Ev x y t N
/-- all but the step o -/
def SFp (K V : Nat → Int32) (sN : Nat → Nat → Bool) (e : Nat) (Ev : gV) (x : gd) (t : Option Nat) (L : gU) (W : gOp) (o a b2 i2 e2 f2 : Int32) (y : gd) : Prop := KV' K e y Ev ∧ ∃ N, RIw K V sN e Ev x y N ∧ still N ∧ (∀ t0, t = some t0 → kfi sN Ev.1 t0 = none → HBs sN N Ev t0 6) ∧ W = some (nn y, L ++ N) ∧ ∀ z, stK y z o (y.1 100 9) a b2 i2 f2 e2 → CGs sN V K Ev x z t N
def sOp (o a : Int32) : Int32 := if o = 16 ∧ a = -1 then 1 else o
/-- before the second sum -/
def S189 (K V : Nat → Int32) (sN : Nat → Nat → Bool) (e : Nat) (Ev : gV) (x : gd) (t : Option Nat) (L : gU) (W : gOp) (f : Nat) (o a b2 i2 e2 f2 : Int32) (y : gd) : Prop := (¬ o = 4 ∧ SFp K V sN e Ev x t L W (sOp o a) a b2 i2 e2 f2 y) ∨ (o = 4 ∧ KV' K e y Ev ∧ ∃ N, RIw K V sN e Ev x y N ∧ still N ∧ (∀ t0, t = some t0 → kfi sN Ev.1 t0 = none → HBs sN N Ev t0 6) ∧ W = ((pt K 68 (nn y, L ++ N)).bind (pXq K f)).bind (pan (74, nn x, 0)) ∧ K (nn x) = 16 ∧ ∃ N2, PDp sN V K Ev x y t N b2 i2 [(f2, N2)])
/-- before the first -/
def S174 (K V : Nat → Int32) (sN : Nat → Nat → Bool) (e : Nat) (Ev : gV) (x : gd) (t : Option Nat) (L : gU) (W : gOp) (f : Nat) (o a b2 i2 e2 : Int32) (y : gd) : Prop := (o = 0 ∧ SFp K V sN e Ev x t L W (sOp o a) a b2 i2 e2 (-1) y) ∨ (¬ o = 0 ∧ KA K V sN e y ∧ nn y ≤ e ∧ KV' K e y Ev ∧ ∃ L1, (pX K false f (nn y) L1 = none → W = none) ∧ ∀ w N2 r, GS y w → RIw K V sN e Ev y w N2 → still N2 → KV' K e w Ev → pX K false f (nn y) L1 = some (nn w, L1 ++ N2) → CPl y w (sPs sN V K Ev N2) → r = y.1 60 3 → S189 K V sN e Ev x t L W f o a b2 i2 e2 r w)
/-- behind the place -/
def S163 (K V : Nat → Int32) (sN : Nat → Nat → Bool) (e : Nat) (Ev : gV) (x : gd) (t : Option Nat) (L : gU) (W : gOp) (f : Nat) (o a b2 i2 e2 : Int32) (y : gd) : Prop := (o = 0 ∧ SFp K V sN e Ev x t L W (sOp o a) a b2 i2 e2 (-1) y) ∨ (¬ o = 0 ∧ (o = 4 ↔ K (nn x) = 16) ∧ KV' K e y Ev ∧ ∃ N, RIw K V sN e Ev x y N ∧ still N ∧ (∀ t0, t = some t0 → kfi sN Ev.1 t0 = none → HBs sN N Ev t0 6) ∧ W = ((pt K 68 (nn y, L ++ N)).bind (pXq K f)).bind (fun q => (if K (nn x) = 16 then (pt K 68 q).bind (pXq K f) else some q).bind (pan (74, nn x, 0))) ∧ o = Int32.ofNat (opX (K (nn x))) ∧ e2 = -1 ∧ PDp sN V K Ev x y t N b2 i2 [])
section KSRG
variable {G : kG} {q : kP} {d : Nat} {x x0 y z xs : gd} {F : Int32 → gd → Prop} {Fv : gd → Prop} {X : String → gd → Prop} {P : Option gv → gd → Prop} {M : Int} {E : Nat → Prop} {K V : Nat → Int32} {sN : Nat → Nat → Bool} {e : Nat} {Ev : gV} {Ml N : gU} {t : Option Nat} {L : gU} {W : gOp} {f : Nat}
theorem OPe_89 (f : ∀ c k, c < 80 ∨ 89 < c → y.1 c k = x.1 c k) : OPe x y := ⟨⟨⟨fun c k q1 q2 => f c k (by omega), by unfold nx; rw [f 100 4 (by omega)]; exact Int.le_refl _, fun j _ => f 42 j (by omega)⟩, fun c k q => f c k (by unfold Tc at q; omega)⟩, fun c k q1 q2 => f c k (by omega), f 100 7 (by omega)⟩
theorem SF_st {o a b2 i2 e2 f2 : Int32} (h : SFp K V sN e Ev x t L W o a b2 i2 e2 f2 y) (hk : stK y z o (y.1 100 9) a b2 i2 f2 e2) (e4 : z.1 100 4 = y.1 100 4) (eu : ∀ j, z.1 42 j = y.1 42 j) (g : ∀ c k, 20 ≤ c → c < 40 → z.1 c k = y.1 c k) (e9 : z.1 100 9 = y.1 100 9) (e109 : ∀ k, z.1 109 k = y.1 109 k) : SFin K V sN e Ev x t L W z := by
  obtain ⟨h1, N, h2, h3, h4, h5, h6⟩ := h
  have en : nn z = nn y := by unfold nn; rw [e4]
  exact ⟨KV_fm h1 e9 e109, N, RI_st h2 e4 eu g, h3, h4, by rw [en]; exact h5, h6 z hk⟩
theorem GS_su (g : GS y z) : ∀ c k, ccS c k → ¬ (c = 60 ∧ k = 3) → ¬ c = 62 → ¬ c = 63 → z.1 c k = y.1 c k := fun c k q q1 q2 q3 => GS_at g c k (by unfold ccS at q; unfold sSum; omega)
/-- a sum that was read -/
theorem PD_xp {N N2 L1 : gU} {Su : List (Int32 × gU)} {pl i j : Nat} {ro : Bool} {r : Int32} (h : PD sN V K Ev x y t N Su pl ro) (hpX : pX K false f i L1 = some (j, L1 ++ N2)) (hp : CPl y z (sPs sN V K Ev N2)) (g : GS y z) (hr : r = y.1 60 3) : ∃ N', N2 = N' ++ [(54, 0, 0)] ∧ PD sN V K Ev x z t (N ++ N2) (Su ++ [(r, N')]) pl ro := by
  obtain ⟨N', e1, e2⟩ := pX_sE hpX
  refine ⟨N', e1, ?_⟩
  rw [e1] at hp ⊢
  exact PD_x h e2 hp (GS_su g) hr
theorem PDp_xp {N N2 L1 : gU} {Q : List (Int32 × gU)} {i j : Nat} {r b2 i2 : Int32} (h : PDp sN V K Ev x y t N b2 i2 Q) (hpX : pX K false f i L1 = some (j, L1 ++ N2)) (hp : CPl y z (sPs sN V K Ev N2)) (g : GS y z) (hr : r = y.1 60 3) : ∃ N', PDp sN V K Ev x z t (N ++ N2) b2 i2 (Q ++ [(r, N')]) := by
  obtain ⟨pl, ro, Si, h1, h2, h3⟩ := h
  obtain ⟨N', _, h4⟩ := PD_xp h3 hpX hp g hr
  exact ⟨N', pl, ro, Si, h1, h2, by rw [← List.append_assoc]; exact h4⟩
theorem PDp_fr {N : gU} {Q : List (Int32 × gU)} {b2 i2 : Int32} (h : PDp sN V K Ev x y t N b2 i2 Q) (fr : ∀ c k, ccS c k → z.1 c k = y.1 c k) : PDp sN V K Ev x z t N b2 i2 Q := by
  obtain ⟨pl, ro, Si, h1, h2, h3⟩ := h
  exact ⟨pl, ro, Si, h1, h2, PD_fr h3 fr⟩
theorem pt_yes {w : Int32} {j : Nat} (h : K j = w) (h7 : j < 700) : pt K w (j, L) = some (j + 1, L) := by unfold pt; rw [if_pos ⟨h, h7⟩]
theorem pt_no {w : Int32} {j : Nat} (h : ¬ (K j = w ∧ j < 700)) : pt K w (j, L) = none := by unfold pt; rw [if_neg h]
theorem kd_src174 (hq : kV q) (hx : W = none → RX x0 X) (hB : BB x0 x M E0) (hf : (f : Int) + om x = 16) (ha : 2 * ssm x ≤ nx x + 1) (l a b : Int32) (hl : (a = -1 ∧ PLc x b) ∨ (¬ a = -1 ∧ 0 ≤ a.toInt ∧ a.toInt < M)) (hEv : ¬ Ev.2.1 = []) (hTc : TGc sN Ev t a b) (h : ∀ y, BB x0 y M E0 → nx x < nx y → om y = om x → ssm y = ssm x + 1 → (y.1 100 9 = x.1 100 9 ∧ y.1 100 7 = x.1 100 7 ∧ y.1 60 13 = x.1 60 13 ∧ (∀ k, y.1 20 k = x.1 20 k) ∧ OPe x y) → La x y → SFin K V sN e Ev x t L W y → Fv y) (D : Int32) (eD : D.toInt = om x + 1) :
    ∀ (y : gd) (o b2 i2 e2 : Int32), S174 K V sN e Ev x t L W f o a b2 i2 e2 y → GS x y → BB x0 y M E0 → (o = 0 → nx x < nx y) → (o = 0 ∨ o = 2 ∨ o = 3 ∨ o = 4 ∨ o = 16) → (¬ o = 16 → PLc y b2) → (o = 16 → b2 = b) → (¬ a = -1 ∨ o = 16 ∨ BU y) → KE G q (d + 10) zk_X7_source 174 [(0, vr 100), (1, vi l), (2, vi a), (4, vi D), (5, vi o), (6, vi b2), (7, vi i2), (8, vi e2)] [] y (rv Fv) X := by
  have o1 := (BB_om hB).1
  have eF : 17 - D.toNatClampNeg = f := by
    have u := t_cl D
    omega
  have tail : ∀ (y : gd) (o b2 i2 e2 f2 : Int32), SFp K V sN e Ev x t L W o a b2 i2 e2 f2 y → GS x y → BB x0 y M E0 → nx x < nx y → (o = 0 ∨ o = 1 ∨ o = 2 ∨ o = 3 ∨ o = 4 ∨ o = 16) → (o.toInt ≤ 4 → PLc y b2) → (¬ o = 1 → (0 ≤ a.toInt ∧ a.toInt < M) ∨ BU y) → KE G q (d + 10) zk_X7_source 233 [(0, vr 100), (1, vi l), (2, vi a), (6, vi b2), (7, vi i2), (8, vi e2), (9, vi f2)] [vi o, vr 80] y (rv Fv) X := by
    intro y o b2 i2 e2 f2 hFy gy hBy ny h1 h2 h3
    have e1 := GS_sm gy
    exact kf_233 hq hBy (by omega) o l a b2 i2 e2 f2 h1 h2 h3 (fun z hBz nz oz sz fz hst => h z hBz (by omega) (by rw [oz, GS_om gy]) (by omega) ⟨by rw [fz _ _ (by omega), GS_at gy _ _ (by unfold sSum; omega)], by rw [fz _ _ (by omega), GS_at gy _ _ (by unfold sSum; omega)], by rw [fz _ _ (by omega), GS_at gy _ _ (by unfold sSum; omega)], fun k => by rw [fz _ _ (by omega), GS_at gy _ _ (by unfold sSum; omega)], OPe_tr (OPe_GS gy) (OPe_89 fz)⟩ (La_tr gy.1 ⟨fun c k q1 q2 => fz _ _ (by omega), by omega, fun j _ => fz _ _ (by omega)⟩) (SF_st hFy hst (fz _ _ (by omega)) (fun j => fz _ _ (by omega)) (fun c k q1 q2 => fz _ _ (by omega)) (fz _ _ (by omega)) (fun k => fz _ _ (by omega))))
  have p211 : ∀ (y : gd) (o b2 i2 e2 f2 : Int32), SFp K V sN e Ev x t L W (sOp o a) a b2 i2 e2 f2 y → GS x y → BB x0 y M E0 → nx x < nx y → (o = 0 ∨ o = 2 ∨ o = 3 ∨ o = 4 ∨ o = 16) → (¬ o = 16 → PLc y b2) → (o = 16 → b2 = b) → (¬ a = -1 ∨ o = 16 ∨ BU y) → KE G q (d + 10) zk_X7_source 211 [(0, vr 100), (1, vi l), (2, vi a), (5, vi o), (6, vi b2), (7, vi i2), (8, vi e2), (9, vi f2)] [] y (rv Fv) X := by
    intro y o b2 i2 e2 f2 hFy gy hBy ny h1 h2 h3 h4
    have hat : ¬ a = -1 → (0 ≤ a.toInt ∧ a.toInt < M) := fun na => by
      rcases hl with ⟨e, -⟩ | ⟨-, e⟩
      · exact absurd e na
      · exact e
    refine kg_X7_source_211 hq _ _ _ _ _ _ _ ⟨fun c => tail y o b2 i2 e2 f2 (by unfold sOp at hFy; rw [if_neg (fun q => c q.1)] at hFy; exact hFy) gy hBy ny ?_ (fun _ => h2 c) (fun _ => ?_), fun c => ⟨fun c2 => tail y o b2 i2 e2 f2 (by unfold sOp at hFy; rw [if_neg (fun q => c2 q.2)] at hFy; exact hFy) gy hBy ny ?_ (fun c3 => ?_) (fun _ => Or.inl (hat c2)), fun c2 => tail y 1 b2 i2 e2 f2 (by unfold sOp at hFy; rw [if_pos ⟨c, c2⟩] at hFy; exact hFy) gy hBy ny (by decide) (fun _ => ?_) (fun q => absurd rfl q)⟩⟩
    · rcases h1 with e | e | e | e | e
      · exact Or.inl e
      · exact Or.inr (Or.inr (Or.inl e))
      · exact Or.inr (Or.inr (Or.inr (Or.inl e)))
      · exact Or.inr (Or.inr (Or.inr (Or.inr (Or.inl e))))
      · exact absurd e c
    · rcases h4 with e | e | e
      · exact Or.inl (hat e)
      · exact absurd e c
      · exact Or.inr e
    · exact Or.inr (Or.inr (Or.inr (Or.inr (Or.inr c))))
    · rw [c] at c3; exact absurd c3 (by decide)
    · rw [h3 c]
      rcases hl with ⟨-, e⟩ | ⟨e, -⟩
      · exact PLc_La gy.1 e
      · exact absurd c2 e
  have p189 : ∀ (y : gd) (o b2 i2 e2 f2 : Int32), S189 K V sN e Ev x t L W f o a b2 i2 e2 f2 y → GS x y → BB x0 y M E0 → nx x < nx y → (o = 0 ∨ o = 2 ∨ o = 3 ∨ o = 4 ∨ o = 16) → (¬ o = 16 → PLc y b2) → (o = 16 → b2 = b) → (¬ a = -1 ∨ o = 16 ∨ BU y) → KE G q (d + 10) zk_X7_source 189 [(0, vr 100), (1, vi l), (2, vi a), (4, vi D), (5, vi o), (6, vi b2), (7, vi i2), (8, vi e2)] [vi f2] y (rv Fv) X := by
    intro y o b2 i2 e2 f2 hSy gy hBy ny h1 h2 h3 h4
    refine kg_X7_source_189 hq _ _ _ _ _ _ _ _ ⟨fun c => p211 y o b2 i2 e2 f2 ?_ gy hBy ny h1 h2 h3 h4, fun c => ?_⟩
    · rcases hSy with ⟨-, e⟩ | ⟨e, -⟩
      · exact e
      · exact absurd e c
    obtain ⟨hEy, N, hRy, hN, h6, hW, hK16, N20, hPy⟩ : KV' K e y Ev ∧ ∃ N, RIw K V sN e Ev x y N ∧ still N ∧ (∀ t0, t = some t0 → kfi sN Ev.1 t0 = none → HBs sN N Ev t0 6) ∧ W = ((pt K 68 (nn y, L ++ N)).bind (pXq K f)).bind (pan (74, nn x, 0)) ∧ K (nn x) = 16 ∧ ∃ N2, PDp sN V K Ev x y t N b2 i2 [(f2, N2)] := by
      rcases hSy with ⟨e, -⟩ | ⟨-, e⟩
      · exact absurd c e
      · exact e
    refine kd_need hq 28 68 (by decide) (by decide) (by decide) (fun no => hx (by rw [hW, pt_no no]; rfl)) hBy hRy (fun kk c7 z hBz nz gz en hRz _ hcz => ?_)
    rw [pt_yes kk c7] at hW
    have hW2 : W = (pX K false f (nn z) (L ++ N)).bind (pan (74, nn x, 0)) := by rw [hW, en]; rfl
    have bz0 := hBz.1.1.2.1
    refine kd_sum hq D (L ++ N) (fun q9 => hx (by rw [eF] at q9; rw [hW2, q9]; rfl)) hBz hRz.1 hRz.2.1 (KV_GS gz hEy) (by omega) (by omega) (fun r w hBw nw gw N2 hRw hN2 hpX hcp hrr => ?_)
    rw [eF] at hpX
    obtain ⟨N30, hPw⟩ := PDp_xp (PDp_fr hPy hcz) hpX hcp gw hrr
    have gg := GS_tr gz gw
    have hFw : SFp K V sN e Ev x t L W (sOp o a) a b2 i2 r f2 w := by
      refine ⟨KV_GS gg hEy, N ++ N2 ++ [(74, nn x, 0)], ?_, still_app (still_app hN hN2) (stl_k (by decide)), fun t0 e1 e2 => HBs_app.mpr (Or.inl (HBs_app.mpr (Or.inl (h6 t0 e1 e2)))), ?_, fun z9 hz9 => ?_⟩
      · have r1 := RI_app bz0 hN hRz gw.1 hRw
        exact ⟨r1.1, r1.2.1, UR_dull r1.2.2 (dull_k (by decide))⟩
      · rw [hW2, hpX]
        show some (nn w, L ++ N ++ N2 ++ [(74, nn x, 0)]) = _
        rw [List.append_assoc L, List.append_assoc L]
      · refine PD_74c hPw hEv (KV_GS gg hEy) hTc hK16 ?_
        have e16 : sOp o a = 4 := by unfold sOp; rw [c, if_neg (fun q => absurd q.1 (by decide))]
        rw [e16] at hz9
        exact hz9
    exact p211 w o b2 i2 r f2 hFw (GS_tr gy gg) hBw (by omega) h1 (fun c => PLc_La gg.1 (h2 c)) h3 (h4.imp id (fun e => e.imp id (La_BU gg.1)))
  intro y o b2 i2 e2 hSy gy hBy ny h1 h2 h3 h4
  have ln := gy.1.2.1
  refine kg_X7_source_174 hq _ _ _ _ _ _ _ ⟨fun c => ?_, fun c => p189 y o b2 i2 e2 _ ?_ gy hBy (ny c) h1 h2 h3 h4⟩
  · obtain ⟨hA, hn, hEy, L1, hno, hyes⟩ : KA K V sN e y ∧ nn y ≤ e ∧ KV' K e y Ev ∧ ∃ L1, (pX K false f (nn y) L1 = none → W = none) ∧ ∀ w N2 r, GS y w → RIw K V sN e Ev y w N2 → still N2 → KV' K e w Ev → pX K false f (nn y) L1 = some (nn w, L1 ++ N2) → CPl y w (sPs sN V K Ev N2) → r = y.1 60 3 → S189 K V sN e Ev x t L W f o a b2 i2 e2 r w := by
      rcases hSy with ⟨e, -⟩ | ⟨-, e⟩
      · exact absurd e c
      · exact e
    exact kd_sum hq D L1 (fun q9 => hx (hno (by rw [eF] at q9; exact q9))) hBy hA hn hEy (by omega) (by omega) (fun r w hBw nw gw N2 hRw hN2 hpX hcp hrr => p189 w o b2 i2 e2 r (hyes w N2 r gw hRw hN2 (KV_GS gw hEy) (by rw [eF] at hpX; exact hpX) hcp hrr) (GS_tr gy gw) hBw (by omega) h1 (fun c => PLc_La gw.1 (h2 c)) h3 (h4.imp id (fun e => e.imp id (La_BU gw.1))))
  · rcases hSy with ⟨-, e⟩ | ⟨e, -⟩
    · exact Or.inl ⟨by rw [c]; decide, e⟩
    · exact absurd c e
theorem kd_src163 (hq : kV q) (hx : W = none → RX x0 X) (hB : BB x0 x M E0) (hf : (f : Int) + om x = 16) (ha : 2 * ssm x ≤ nx x + 1) (l a b : Int32) (hl : (a = -1 ∧ PLc x b) ∨ (¬ a = -1 ∧ 0 ≤ a.toInt ∧ a.toInt < M)) (hEv : ¬ Ev.2.1 = []) (hTc : TGc sN Ev t a b) (h : ∀ y, BB x0 y M E0 → nx x < nx y → om y = om x → ssm y = ssm x + 1 → (y.1 100 9 = x.1 100 9 ∧ y.1 100 7 = x.1 100 7 ∧ y.1 60 13 = x.1 60 13 ∧ (∀ k, y.1 20 k = x.1 20 k) ∧ OPe x y) → La x y → SFin K V sN e Ev x t L W y → Fv y) (D : Int32) (eD : D.toInt = om x + 1) :
    ∀ (y : gd) (o b2 i2 e2 : Int32), S163 K V sN e Ev x t L W f o a b2 i2 e2 y → GS x y → BB x0 y M E0 → nx x < nx y → ¬ o = 16 → (o = 0 ∨ o = 2 ∨ o = 3 ∨ o = 4 ∨ o = 16) → PLc y b2 → (¬ a = -1 ∨ o = 16 ∨ BU y) → KE G q (d + 10) zk_X7_source 163 [(0, vr 100), (1, vi l), (2, vi a), (4, vi D), (5, vi o), (6, vi b2), (7, vi i2), (8, vi e2)] [] y (rv Fv) X := by
  intro y o b2 i2 e2 hSy gy hBy ny h0 h1 h2 h4
  have p174 := kd_src174 (d := d) (G := G) hq hx hB hf ha l a b hl hEv hTc h D eD
  refine kg_X7_source_163 hq _ _ _ _ _ _ _ ⟨fun c => p174 y o b2 i2 e2 ?_ gy hBy (fun _ => ny) h1 (fun _ => h2) (fun q => absurd q h0) h4, fun c => ?_⟩
  · rcases hSy with e | ⟨e, -⟩
    · exact Or.inl e
    · exact absurd c e
  obtain ⟨h16, hEy, N, hRy, hN, h6, hW, hop, he2, hPy⟩ : (o = 4 ↔ K (nn x) = 16) ∧ KV' K e y Ev ∧ ∃ N, RIw K V sN e Ev x y N ∧ still N ∧ (∀ t0, t = some t0 → kfi sN Ev.1 t0 = none → HBs sN N Ev t0 6) ∧ W = ((pt K 68 (nn y, L ++ N)).bind (pXq K f)).bind (fun q => (if K (nn x) = 16 then (pt K 68 q).bind (pXq K f) else some q).bind (pan (74, nn x, 0))) ∧ o = Int32.ofNat (opX (K (nn x))) ∧ e2 = -1 ∧ PDp sN V K Ev x y t N b2 i2 [] := by
    rcases hSy with ⟨e, -⟩ | ⟨-, e⟩
    · exact absurd e c
    · exact e
  refine kd_need hq 28 68 (by decide) (by decide) (by decide) (fun no => hx (by rw [hW, pt_no no]; rfl)) hBy hRy (fun kk c7 z hBz nz gz en hRz _ hcz => ?_)
  rw [pt_yes kk c7] at hW
  have hW2 : W = (pX K false f (nn z) (L ++ N)).bind (fun q => (if K (nn x) = 16 then (pt K 68 q).bind (pXq K f) else some q).bind (pan (74, nn x, 0))) := by rw [hW, en]; rfl
  have bz0 := hBz.1.1.2.1
  refine p174 z o b2 i2 e2 (Or.inr ⟨c, hRz.1, hRz.2.1, KV_GS gz hEy, L ++ N, fun q9 => by rw [hW2, q9]; rfl, fun w N2 r gw hRw hN2 hEw hpX hcp hrr => ?_⟩) (GS_tr gy gz) hBz (fun _ => by omega) h1 (fun _ => PLc_La gz.1 h2) (fun q => absurd q h0) (h4.imp id (fun e => e.imp id (La_BU gz.1)))
  obtain ⟨N20, hPw⟩ := PDp_xp (PDp_fr hPy hcz) hpX hcp gw hrr
  rw [hpX] at hW2
  have r1 := RI_app bz0 hN hRz gw.1 hRw
  have h62 : ∀ t0, t = some t0 → kfi sN Ev.1 t0 = none → HBs sN (N ++ N2) Ev t0 6 := fun t0 e1 e2 => HBs_app.mpr (Or.inl (h6 t0 e1 e2))
  by_cases c4 : o = 4
  · refine Or.inr ⟨c4, hEw, N ++ N2, r1, still_app hN hN2, h62, ?_, h16.mp c4, N20, hPw⟩
    have hW3 : W = (if K (nn x) = 16 then (pt K 68 (nn w, L ++ N ++ N2)).bind (pXq K f) else some (nn w, L ++ N ++ N2)).bind (pan (74, nn x, 0)) := hW2
    rw [hW3, if_pos (h16.mp c4), List.append_assoc]
  · refine Or.inl ⟨c4, hEw, N ++ N2 ++ [(74, nn x, 0)], ⟨r1.1, r1.2.1, UR_dull r1.2.2 (dull_k (by decide))⟩, still_app (still_app hN hN2) (stl_k (by decide)), fun t0 e1 e2 => HBs_app.mpr (Or.inl (h62 t0 e1 e2)), ?_, fun z9 hz9 => PD_74 hPw hEv hEw hTc (fun q => c4 (h16.mpr q)) hop (by
      have e16 : sOp o a = o := by unfold sOp; rw [if_neg (fun q => h0 q.1)]
      rw [e16, he2] at hz9
      exact hz9)⟩
    have hW3 : W = (if K (nn x) = 16 then (pt K 68 (nn w, L ++ N ++ N2)).bind (pXq K f) else some (nn w, L ++ N ++ N2)).bind (pan (74, nn x, 0)) := hW2
    rw [hW3, if_neg (fun q => c4 (h16.mpr q))]
    show some (nn w, L ++ N ++ N2 ++ [(74, nn x, 0)]) = _
    rw [List.append_assoc L, List.append_assoc L]
end KSRG
end
section
/-! the class: a place -/
section KPLC
variable {G : kG} {q : kP} {d : Nat} {x x0 y z xs : gd} {F : Int32 → gd → Prop} {Fv : gd → Prop} {X : String → gd → Prop} {P : Option gv → gd → Prop} {M : Int} {E : Nat → Prop} {K V : Nat → Int32} {sN : Nat → Nat → Bool} {e : Nat} {Ev : gV} {Np : gU} {L : gU} {W : gOp} {f : Nat} {kont : Nat × gU → gOp} {tg : Option Nat}
theorem kd_place (hq : kV q) (hx : W = none → RX x0 X) (hWp : W = (pP K f (nn y) (L ++ Np)).bind kont) (hBy : BB x0 y M E0) (hA : KA K V sN e y) (hn : nn y ≤ e) (hEy : KV' K e y Ev) (D : Int32) (eF : 17 - D.toNatClampNeg = f) (hD1 : 1 ≤ D.toInt) (hD2 : D.toInt ≤ 18) (u s9 i2 : Int32) (hu12 : ¬ u = 12) (h25 : ¬ s9 = 0 ↔ y.1 23 ((y.1 100 4).toNatClampNeg + 1) = 25) (hN : still Np) (hEv : ¬ Ev.2.1 = []) (hi2 : i2 = -1) (hPD : PD sN V K Ev x y tg Np [] 0 false) (h4 : (y.1 100 4).toInt = ((nn y : Nat) : Int))
    (hm6 : s9 = 0 → ∀ z, La y z → nn z = nn y + 1 → KA K V sN e z → nn z ≤ e → z.1 42 (nn y) = u → RIw K V sN e Ev x z (Np ++ [(6, nn y, 0)]))
    (hm7 : ¬ s9 = 0 → ∀ z, La y z → nn z = nn y + 1 → KA K V sN e z → nn z ≤ e → z.1 42 (nn y) = u → RIw K V sN e Ev x z (Np ++ [(7, nn y, 0)]))
    (C : Int32 → Int32 → gd → Prop)
    (hC : ∀ (i9 : Int32) (w : gd) (N3 : gU), BB x0 w M E0 → GS y w → nx y < nx w → w.1 42 (nn y) = u → RIw K V sN e Ev x w (Np ++ N3) → still (Np ++ N3) → KV' K e w Ev → W = kont (nn w, L ++ (Np ++ N3)) → PDp sN V K Ev x w tg (Np ++ N3) (y.1 100 4) i9 [] → C (y.1 100 4) i9 w) :
    KE G q (d + 9) zk_X7_needFor 0 [(0, vr 100), (1, vi 2), (2, vi u)] [] y (ri (fun r4 x3 => ((s9 = (0 : Int32) → C r4 i2 x3) ∧ (¬ (s9 = (0 : Int32)) → KE G q (d + 9) zk_X7_pass 0 [(0, vr 100)] [] x3 (rv (fun x6 => KE G q (d + 9) zk_X7_sum 0 [(0, vr 100), (1, vi D)] [] x6 (ri (fun r8 x7 => KE G q (d + 9) zk_X7_need 0 [(0, vr 100), (1, vi 26)] [] x7 (rv (fun x9 => C r4 r8 x9)) X)) X)) X)))) X := by
  refine kd_needFor hq 2 u 1 (by decide) (by decide) (by decide) hu12 (fun no => hx (by rw [hWp]; unfold pP; rw [if_neg no]; rfl)) hBy hA hn (fun kk c7 z hBz nz gz en hAz hnz eu ht hcz => ?_)
  have on1 : nn y + 1 ≤ e := by omega
  have k25 : y.1 23 (nn y + 1) = 25 ↔ K (nn y + 1) = 65 := KA_k hA on1 25 (by decide)
  have hW1 : W = (if K (nn y + 1) = 65 then (if nn y + 1 < 700 then (pX K false f (nn y + 2) (L ++ Np ++ [(7, nn y, 0)])).bind (pt K 66) else none) else some (nn y + 1, L ++ Np ++ [(6, nn y, 0)])).bind kont := by
    rw [hWp]; unfold pP; rw [if_pos ⟨kk, c7⟩]
  refine ⟨fun c => ?_, fun c => ?_⟩
  · have n65 : ¬ K (nn y + 1) = 65 := fun q => (h25.mpr (k25.mpr q)) c
    rw [if_neg n65] at hW1
    refine hC i2 z [(6, nn y, 0)] hBz gz (by omega) eu (hm6 c z gz.1 en hAz hnz eu) (still_app hN (stl_k (by decide))) (KV_GS gz hEy) ?_ ⟨nn y, false, [], h4, Or.inl ⟨rfl, hi2, rfl⟩, PD_6 (PD_fr hPD hcz) hEv⟩
    rw [hW1, en, ← List.append_assoc]
    rfl
  have h65 : K (nn y + 1) = 65 := k25.mp (h25.mp c)
  rw [if_pos h65] at hW1
  have hRz := hm7 c z gz.1 en hAz hnz eu
  refine kd_pass hq (fun c9 => hx ?_) hBz hRz (by rw [en, h65]; decide) (by rw [en, h65]; decide) (fun c9 w hBw nw gw enw hRw uw hcw => ?_)
  · rw [hW1, if_neg (by omega)]; rfl
  rw [if_pos (by omega)] at hW1
  have en2 : nn w = nn y + 2 := by omega
  have hEw := KV_GS gw (KV_GS gz hEy)
  refine kd_sum hq D (L ++ Np ++ [(7, nn y, 0)]) (fun q9 => hx ?_) hBw hRw.1 hRw.2.1 hEw hD1 hD2 (fun r v hBv nv gv N2 hRv hN2 hpX hcp hrr => ?_)
  · rw [eF, en2] at q9
    rw [hW1, q9]; rfl
  rw [eF, en2] at hpX
  obtain ⟨N20, -, hPv⟩ := PD_xp (PD_7 (i := nn y) (PD_fr (PD_fr hPD hcz) hcw) hEv) hpX hcp gv hrr
  rw [hpX] at hW1
  have hW2 : W = (pt K 66 (nn v, L ++ Np ++ [(7, nn y, 0)] ++ N2)).bind kont := hW1
  have bw0 := hBw.1.1.2.1
  have hst : still (Np ++ [(7, nn y, 0)]) := still_app hN (stl_k (by decide))
  have hRxv := RI_app bw0 hst hRw gv.1 hRv
  refine kd_need hq 26 66 (by decide) (by decide) (by decide) (fun no => hx (by rw [hW2, pt_no no]; rfl)) hBv hRxv (fun kk2 c72 t hBt nt gt ent hRt _ hct => ?_)
  rw [pt_yes kk2 c72] at hW2
  have bz0 := hBz.1.1.2.1
  have bv0 := hBv.1.1.2.1
  have gg := GS_tr (GS_tr gw gv) gt
  obtain ⟨-, la⟩ := La_nn bz0 gg.1
  refine hC r t ([(7, nn y, 0)] ++ N2) hBt (GS_tr gz gg) (by omega) (by rw [la _ (by omega)]; exact eu) (by rw [← List.append_assoc]; exact hRt) (by rw [← List.append_assoc]; exact still_app hst hN2) (KV_GS gt (KV_GS gv hEw)) ?_ ⟨nn y, true, [(r, N20)], h4, Or.inr ⟨rfl, N20, rfl⟩, by rw [← List.append_assoc]; exact PD_fr hPv hct⟩
  rw [hW2, ent, ← List.append_assoc, ← List.append_assoc]
  rfl
end KPLC
end
section
/-! the class: what stands behind = -/
section KSO2
variable {sN : Nat → Nat → Bool} {U : Nat → Int32} {n : Nat} {Ev : gV} {a b j : Nat} {u : Int32}
theorem HA_24 : HAw sN U n Ev (24, a, b) ↔ a < n ∧ (kfi sN Ev.1 a = none → U a = 6) := by unfold HAw; simp
theorem HA_25 : HAw sN U n Ev (25, a, b) ↔ a < n ∧ (kfi sN Ev.1 a = none → U a = 6) := by unfold HAw; simp
theorem HA_26 : HAw sN U n Ev (26, a, b) ↔ (kfi sN Ev.1 a = none → ∃ j, j < n ∧ (U j = 9 ∨ U j = 10)) := by unfold HAw; simp
theorem HA_27 : HAw sN U n Ev (27, a, b) ↔ (b < n ∧ (kfi sN Ev.1 b = none → (kfi sN Ev.1 a = none → U b = 8) ∧ (¬ kfi sN Ev.1 a = none → U b = 6))) ∧ a < n ∧ (kfi sN Ev.1 a = none → U a = 6) := by unfold HAw; simp
theorem HB_6 : HB sN Ev (6, a, b) a 6 := by unfold HB; simp
theorem HB_7 : HB sN Ev (7, a, b) a 7 := by unfold HB; simp
theorem HB_24 (h : kfi sN Ev.1 a = none) : HB sN Ev (24, a, b) a 6 := by unfold HB; simp [h]
theorem HB_25 (h : kfi sN Ev.1 a = none) : HB sN Ev (25, a, b) a 6 := by unfold HB; simp [h]
theorem HB_26 (h : kfi sN Ev.1 a = none) (hu : u = 6 ∨ u = 9 ∨ u = 10) : HB sN Ev (26, a, b) j u := by unfold HB; simp [h, hu]
theorem HB_27a (h : kfi sN Ev.1 b = none) (g : kfi sN Ev.1 a = none) : HB sN Ev (27, a, b) j 8 := by unfold HB; simp [h, g]
theorem HB_27b (h : kfi sN Ev.1 b = none) (g : ¬ kfi sN Ev.1 a = none) : HB sN Ev (27, a, b) b 6 := Or.inr (Or.inr (Or.inr (Or.inr (Or.inr (Or.inr (Or.inr (Or.inr (Or.inl ⟨rfl, rfl, rfl, h, g⟩))))))))
theorem HB_27c (g : kfi sN Ev.1 a = none) : HB sN Ev (27, a, b) a 6 := Or.inr (Or.inr (Or.inr (Or.inr (Or.inr (Or.inr (Or.inr (Or.inr (Or.inr (Or.inl ⟨rfl, rfl, rfl, g⟩)))))))))
theorem pme_still {t : Option Nat} : still (pme t) := by
  cases t with
  | none => exact still_nil
  | some t => exact stl_k (by decide)
theorem pma_still {t : Option Nat} : still (pma t) := by
  cases t with
  | none => exact still_nil
  | some t => exact stl_k (by decide)
theorem pal_still {t : Option Nat} {i : Nat} : still [pal t i] := by
  cases t with
  | none => exact stl_k (by decide)
  | some t => exact stl_k (by decide)
theorem pme_6 {t : Option Nat} {M : gU} : ∀ t0, t = some t0 → kfi sN Ev.1 t0 = none → HBs sN (pme t ++ M) Ev t0 6 := fun t0 e h => by
  rw [e]
  exact HBs_app.mpr (Or.inl (HBs_one.mpr (HB_26 h (Or.inl rfl))))
theorem pma_6 {t : Option Nat} {M : gU} : ∀ t0, t = some t0 → kfi sN Ev.1 t0 = none → HBs sN (pma t ++ M) Ev t0 6 := fun t0 e h => by
  rw [e]
  exact HBs_app.mpr (Or.inl (HBs_one.mpr (HB_25 h)))
theorem pal_6 {t : Option Nat} {i : Nat} : ∀ t0, t = some t0 → kfi sN Ev.1 t0 = none → HBs sN [pal t i] Ev t0 6 := fun t0 e h => by
  rw [e]
  exact HBs_one.mpr (HB_27c h)
end KSO2
/-- where it goes: a local, or a cell by its name -/
def TGT (sN : Nat → Nat → Bool) (Ev : gV) (x : gd) (t : Option Nat) (a : Int32) : Prop := (t = none ∧ ¬ a = -1) ∨ ∃ t0, t = some t0 ∧ t0 < nn x ∧ ((a = -1 ∧ kfi sN Ev.1 t0 = none ∧ x.1 42 t0 = 6) ∨ (¬ a = -1 ∧ ¬ kfi sN Ev.1 t0 = none))
section KSO3
variable {G : kG} {q : kP} {d : Nat} {x x0 y z xs : gd} {F : Int32 → gd → Prop} {Fv : gd → Prop} {X : String → gd → Prop} {P : Option gv → gd → Prop} {M : Int} {E : Nat → Prop} {K V : Nat → Int32} {sN : Nat → Nat → Bool} {e : Nat} {Ev : gV} {L : gU} {f : Nat} {t : Option Nat} {a : Int32}
theorem TGT_me (h : TGT sN Ev x t a) {U : Nat → Int32} {n : Nat} (h2 : a = -1 → ∃ j, j < n ∧ (U j = 9 ∨ U j = 10)) : HAs sN U n (pme t) Ev := by
  rcases h with ⟨e, -⟩ | ⟨t0, e, -, h⟩
  · rw [e]; exact trivial
  · rw [e]
    refine HAs_one.mpr (HA_26.mpr (fun hk => ?_))
    rcases h with ⟨ea, -⟩ | ⟨-, ek⟩
    · exact h2 ea
    · exact absurd hk ek
theorem TGT_meB (h : TGT sN Ev x t a) (ha : a = -1) {j : Nat} {u : Int32} (hu : u = 6 ∨ u = 9 ∨ u = 10) : HBs sN (pme t) Ev j u := by
  rcases h with ⟨-, e⟩ | ⟨t0, e, -, h⟩
  · exact absurd ha e
  · rw [e]
    rcases h with ⟨-, ek, -⟩ | ⟨ea, -⟩
    · exact HBs_one.mpr (HB_26 ek hu)
    · exact absurd ha ea
theorem TGT_ma (h : TGT sN Ev x t a) (h0 : 0 ≤ nx x) (l : La x y) : HAs sN (y.1 42) (nn y) (pma t) Ev := by
  obtain ⟨n1, n2⟩ := La_nn h0 l
  rcases h with ⟨e, -⟩ | ⟨t0, e, h1, h⟩
  · rw [e]; exact trivial
  · rw [e]
    refine HAs_one.mpr (HA_25.mpr ⟨by omega, fun hk => ?_⟩)
    rcases h with ⟨-, -, e6⟩ | ⟨-, ek⟩
    · rw [n2 _ h1]; exact e6
    · exact absurd hk ek
/-- a name alone: a cell's (use u), or a local's (u = 0) -/
theorem TGT_al (h : TGT sN Ev x t a) (h0 : 0 ≤ nx x) (l : La x y) (en : nn y = nn x + 1) {u : Int32} (hu : y.1 42 (nn x) = u) (hc : (kfi sN Ev.1 (nn x) = none ∧ ((a = -1 ∧ u = 8) ∨ (¬ a = -1 ∧ u = 6))) ∨ (¬ kfi sN Ev.1 (nn x) = none ∧ u = 0)) : UR sN Ev x y [pal t (nn x)] := by
  obtain ⟨n1, n2⟩ := La_nn h0 l
  have one : ∀ j, nn x ≤ j → j < nn y → j = nn x := fun j h1 h2 => by omega
  rcases h with ⟨e, na⟩ | ⟨t0, e, h1, h⟩
  · rw [e]
    refine ⟨HAs_one.mpr (HA_24.mpr ⟨by omega, fun hk => ?_⟩), fun j j1 j2 j3 => HBs_one.mpr ?_⟩
    · rcases hc with ⟨-, ⟨ea, -⟩ | ⟨-, eu⟩⟩ | ⟨ek, -⟩
      · exact absurd ea na
      · rw [hu]; exact eu
      · exact absurd hk ek
    · rw [one j j1 j2, hu] at j3 ⊢
      rcases hc with ⟨ek, ⟨ea, -⟩ | ⟨-, eu⟩⟩ | ⟨-, eu⟩
      · exact absurd ea na
      · rw [eu]; exact HB_24 ek
      · exact absurd eu j3
  · rw [e]
    have kt : a = -1 ↔ kfi sN Ev.1 t0 = none := by
      rcases h with ⟨e1, e2, -⟩ | ⟨e1, e2⟩
      · exact ⟨fun _ => e2, fun _ => e1⟩
      · exact ⟨fun q => absurd q e1, fun q => absurd q e2⟩
    refine ⟨HAs_one.mpr (HA_27.mpr ⟨⟨by omega, fun hk => ⟨fun hk2 => ?_, fun hk2 => ?_⟩⟩, by omega, fun hk => ?_⟩), fun j j1 j2 j3 => HBs_one.mpr ?_⟩
    · rw [hu]
      rcases hc with ⟨-, ⟨-, eu⟩ | ⟨ea, -⟩⟩ | ⟨ek, -⟩
      · exact eu
      · exact absurd (kt.mpr hk2) ea
      · exact absurd hk ek
    · rw [hu]
      rcases hc with ⟨-, ⟨ea, -⟩ | ⟨-, eu⟩⟩ | ⟨ek, -⟩
      · exact absurd (kt.mp ea) hk2
      · exact eu
      · exact absurd hk ek
    · rcases h with ⟨-, -, e6⟩ | ⟨-, ek⟩
      · rw [n2 _ h1]; exact e6
      · exact absurd hk ek
    · rw [one j j1 j2, hu] at j3 ⊢
      rcases hc with ⟨ek, ⟨ea, eu⟩ | ⟨ea, eu⟩⟩ | ⟨-, eu⟩
      · rw [eu]; exact HB_27a ek (kt.mp ea)
      · rw [eu]; exact HB_27b ek (fun q => ea (kt.mpr q))
      · exact absurd eu j3
end KSO3
end
