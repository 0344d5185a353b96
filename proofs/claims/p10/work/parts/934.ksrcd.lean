/-! the class: what is set, its code while it is under way -/
def rgT (t : Option Nat) (tk : Nat) : gRg := match t with
  | none => ([], [], 0, false, none, tk)
  | some _ => rg0
def tkB (t : Option Nat) (tk : Nat) : Nat := match t with
  | none => tk
  | some t0 => t0
/-- the events N, from x to y: no step yet, the sums Su written (where, what), a place told -/
def PD (sN : Nat → Nat → Bool) (V K : Nat → Int32) (Ev : gV) (x y : gd) (t : Option Nat) (N : gU) (Su : List (Int32 × gU)) (pl : Nat) (ro : Bool) : Prop := still N ∧ (∀ d, ces K V N d = d) ∧ (∀ q ∈ Su, sEv false q.2) ∧ (∀ (Ec : gV) (S : List gSt) (k : List Nat) (w : List (Nat × Nat) × List (Nat × gU)) (tk : Nat), ¬ Ec.2.1 = [] → cds sN K N (Ec, S, k, rgT t tk, w) = (Ec, S, k, ([], Su.map Prod.snd, pl, ro, t, tkB t tk), w)) ∧ ∀ c d P, eqE c.1 Ev → CCp sN V K x c d P → CCp sN V K y c d (P ++ tPs sN V K N Ev) ∧ ∀ q ∈ Su, SUc (P ++ tPs sN V K N Ev) q.1 (sPs sN V K Ev q.2)
/-- all of it, with its step -/
def CGs (sN : Nat → Nat → Bool) (V K : Nat → Int32) (Ev : gV) (x z : gd) (t : Option Nat) (N : gU) : Prop := ∀ tk c d P, eqE c.1 Ev → c.2.2.2.1 = rgT t tk → CCp sN V K x c d P → CCp sN V K z (cds sN K N c) (ces K V N d) (P ++ tPs sN V K N Ev) ∧ eqE (cds sN K N c).1 (exs N Ev) ∧ (cds sN K N c).2.2.2.1 = rg0
/-- where it goes: a local by its number, or a cell by its name's token -/
def TGc (sN : Nat → Nat → Bool) (Ev : gV) (t : Option Nat) (a b : Int32) : Prop := (toL sN Ev.1 t = none ∧ a = -1 ∧ ∃ t0, t = some t0 ∧ b.toInt = (t0 : Nat)) ∨ ∃ p, toL sN Ev.1 t = some p ∧ ¬ a = -1 ∧ a.toInt = (p : Nat)
def inS (Su : List (Int32 × gU)) (v : Int32) (o : Option gU) : Prop := match o with
  | none => v = -1
  | some N => (v, N) ∈ Su
/-- behind a place: its index's sum, and the sums Q -/
def PDp (sN : Nat → Nat → Bool) (V K : Nat → Int32) (Ev : gV) (x y : gd) (t : Option Nat) (N : gU) (b2 i2 : Int32) (Q : List (Int32 × gU)) : Prop := ∃ pl ro Si, b2.toInt = ((pl : Nat) : Int) ∧ ((ro = false ∧ i2 = -1 ∧ Si = []) ∨ (ro = true ∧ ∃ N1, Si = [(i2, N1)])) ∧ PD sN V K Ev x y t N (Si ++ Q) pl ro
section KPD
variable {sN : Nat → Nat → Bool} {V K : Nat → Int32} {Ev : gV} {x y z w : gd} {N N' : gU} {v : Nat × Nat × Nat} {e i j pl : Nat} {o a b ob b2 i2 f2 e2 ix e9 f9 r : Int32} {t : Option Nat} {Su Q : List (Int32 × gU)} {ro : Bool}
theorem PD_0 (fr : ∀ c k, ccS c k → y.1 c k = x.1 c k) (hN : N = pme t ∨ N = pma t) : PD sN V K Ev x y t N [] 0 false := by
  have go : ∀ N0 : gU, tPs sN V K N0 Ev = [] → ∀ c d P, eqE c.1 Ev → CCp sN V K x c d P → CCp sN V K y c d (P ++ tPs sN V K N0 Ev) ∧ ∀ q ∈ ([] : List (Int32 × gU)), SUc (P ++ tPs sN V K N0 Ev) q.1 (sPs sN V K Ev q.2) := fun N0 e c d P he hc => by
    rw [e, List.append_nil]
    exact ⟨CCp_eq fr hc, fun q hq => by cases hq⟩
  cases t with
  | none =>
    have e : N = [] := by rcases hN with e | e <;> exact e
    rw [e]
    exact ⟨still_nil, fun d => rfl, fun q hq => (by cases hq), fun Ec S k w tk _ => rfl, go [] rfl⟩
  | some t0 =>
    rcases hN with e | e
    · have e : N = [(26, t0, 0)] := e
      rw [e]
      exact ⟨stl_k (by decide), fun d => rfl, fun q hq => (by cases hq), fun Ec S k w tk _ => rfl, go _ rfl⟩
    · have e : N = [(25, t0, 0)] := e
      rw [e]
      exact ⟨stl_k (by decide), fun d => rfl, fun q hq => (by cases hq), fun Ec S k w tk _ => rfl, go _ rfl⟩
theorem PD_fr (h : PD sN V K Ev x y t N Su pl ro) (fr : ∀ c k, ccS c k → z.1 c k = y.1 c k) : PD sN V K Ev x z t N Su pl ro := ⟨h.1, h.2.1, h.2.2.1, h.2.2.2.1, fun c d P he hc => ⟨CCp_eq fr (h.2.2.2.2 c d P he hc).1, (h.2.2.2.2 c d P he hc).2⟩⟩
theorem PD_6 (h : PD sN V K Ev x y t N Su pl ro) (hEv : ¬ Ev.2.1 = []) : PD sN V K Ev x y t (N ++ [(6, i, 0)]) Su i false := by
  obtain ⟨h1, h2, h3, h4, h5⟩ := h
  have ep : tPs sN V K (N ++ [(6, i, 0)]) Ev = tPs sN V K N Ev := by
    rw [tPs_app, exs_still h1]
    have : tPs sN V K [(6, i, 0)] Ev = [] := by
      show (if Ev.2.1 = [] then some ((6 : Int32), Int32.ofNat i) else none).toList ++ [] = []
      rw [if_neg hEv]; rfl
    rw [this, List.append_nil]
  refine ⟨still_app h1 (stl_k (by decide)), fun d => by rw [ces_app, h2]; rfl, h3, fun Ec S k w tk hE => ?_, fun c d P he hc => by rw [ep]; exact h5 c d P he hc⟩
  rw [cds_app, h4 _ _ _ _ _ hE, cds_one, cd_6 hE]
theorem PD_7 (h : PD sN V K Ev x y t N Su pl ro) (hEv : ¬ Ev.2.1 = []) : PD sN V K Ev x y t (N ++ [(7, i, 0)]) Su i true := by
  obtain ⟨h1, h2, h3, h4, h5⟩ := h
  have ep : tPs sN V K (N ++ [(7, i, 0)]) Ev = tPs sN V K N Ev := by
    rw [tPs_app, exs_still h1]
    have : tPs sN V K [(7, i, 0)] Ev = [] := by
      show (if Ev.2.1 = [] then some ((6 : Int32), Int32.ofNat i) else none).toList ++ [] = []
      rw [if_neg hEv]; rfl
    rw [this, List.append_nil]
  refine ⟨still_app h1 (stl_k (by decide)), fun d => by rw [ces_app, h2]; rfl, h3, fun Ec S k w tk hE => ?_, fun c d P he hc => by rw [ep]; exact h5 c d P he hc⟩
  rw [cds_app, h4 _ _ _ _ _ hE, cds_one, cd_7 hE]
/-- one more sum is written -/
theorem PD_x (h : PD sN V K Ev x y t N Su pl ro) (hs : sEv false N') (hp : CPl y z (sPs sN V K Ev (N' ++ [(54, 0, 0)]))) (fr : ∀ c k, ccS c k → ¬ (c = 60 ∧ k = 3) → ¬ c = 62 → ¬ c = 63 → z.1 c k = y.1 c k) (hr : r = y.1 60 3) : PD sN V K Ev x z t (N ++ (N' ++ [(54, 0, 0)])) (Su ++ [(r, N')]) pl ro := by
  obtain ⟨h1, h2, h3, h4, h5⟩ := h
  have ep : tPs sN V K (N ++ (N' ++ [(54, 0, 0)])) Ev = tPs sN V K N Ev ++ sPs sN V K Ev (N' ++ [(54, 0, 0)]) := by
    rw [tPs_app, exs_still h1, tPs_x hs]
  refine ⟨still_app h1 (still_54 (sEv_still hs)), fun d => by rw [ces_app, h2, ces_app, sEv_ce hs]; rfl, fun q hq => ?_, fun Ec S k w tk hE => ?_, fun c d P he hc => ?_⟩
  · rcases List.mem_append.mp hq with q1 | q1
    · exact h3 q q1
    · rw [List.mem_singleton.mp q1]; exact hs
  · rw [cds_app, h4 _ _ _ _ _ hE, cds_x hs hE, List.map_append]; rfl
  · obtain ⟨g1, g2⟩ := h5 c d P he hc
    obtain ⟨Ec, S, k, rr, ww⟩ := c
    rw [ep, ← List.append_assoc]
    refine ⟨CCp_sum (r' := rr) g1 hp fr, fun q hq => ?_⟩
    rcases List.mem_append.mp hq with q1 | q1
    · exact SUc_mono (g2 q q1) _
    · rw [List.mem_singleton.mp q1, sPs_54]
      exact SUc_next g1.1 hr _
theorem toL_eq {E E' : gV} (h : eqE E E') : toL sN E.1 t = toL sN E'.1 t := by
  cases t with
  | none => exact congrArg some (eqE_len h)
  | some t0 => exact kfi_len h.1
/-- the step -/
theorem PD_endt {op : Nat} {tf : Nat → Nat} {to obj : Option Nat} {fl : Bool} {ixs es fs : Option gU} (h : PD sN V K Ev x y t N Su pl ro) (hEv : ¬ Ev.2.1 = []) (hE : KV' K e y Ev) (ha : stK y z o (y.1 100 9) a ob ix e9 f9) (hcd : ∀ (Ec : gV) S k w tk, eqE Ec Ev → cdV sN K (Ec, S, k, ([], Su.map Prod.snd, pl, ro, t, tk), w) v = (Ec, S ++ [(op, tf tk, knw Ec, to, obj, fl, ixs, es, fs)], k, rg0, w)) (ho : o = Int32.ofNat op) (h8 : ¬ op = 8) (h13 : ¬ op = 13) (hto : (op = 0 ∨ (2 ≤ op ∧ op ≤ 4) ∨ op = 16 ∨ op = 17 ∨ op = 20) → tgI a to) (hob : ¬ op = 16 → tgI ob obj) (hix : inS Su ix ixs) (hes : inS Su e9 es) (hfs : inS Su f9 fs) (hv1 : still [v]) (hv2 : ∀ d, ces K V [v] d = d) (hv3 : tPs sN V K [v] Ev = []) : CGs sN V K Ev x z t (N ++ [v]) := by
  obtain ⟨h1, h2, h3, h4, h5⟩ := h
  intro tk c d P he hr hc
  obtain ⟨Ec, S, k, rr, ww⟩ := c
  have hr : rr = rgT t tk := hr
  have he : eqE Ec Ev := he
  obtain ⟨g1, g2⟩ := h5 _ d P he hc
  have hEc : ¬ Ec.2.1 = [] := by rw [he.2]; exact hEv
  have kl : (y.1 100 9).toInt = (Ec.1.length : Nat) := by rw [hE.1, eqE_len he]
  have su : ∀ (v9 : Int32) (o9 : Option gU), inS Su v9 o9 → cSu sN V K (P ++ tPs sN V K N Ev) Ec.1 v9 o9 := by
    intro v9 o9 hi
    cases o9 with
    | none => exact hi
    | some N9 =>
      have hi : (v9, N9) ∈ Su := hi
      have q1 := g2 _ hi
      have q2 : sPs sN V K Ev N9 = sPs sN V K (Ec.1, [0], 0) N9 := sPs_E (h3 _ hi) (fun t => kfi_len he.1.symm)
      show SUc _ _ (sPs sN V K (Ec.1, [0], 0) N9)
      rw [← q2]
      exact q1
  have q := CCp_add (st := (op, tf (tkB t tk), knw Ec, to, obj, fl, ixs, es, fs)) (r' := rg0) g1 ha ho kl hto (fun q => absurd q h8) (fun q => by
    have q : ¬ op = 16 := q
    have hob := hob q
    cases obj with
    | none => exact hob
    | some n =>
      show if op = 13 then ob = V n else ob.toInt = (n : Nat)
      rw [if_neg h13]
      exact hob) (su _ _ hix) (su _ _ hes) (su _ _ hfs)
  have ec : cds sN K (N ++ [v]) (Ec, S, k, rr, ww) = (Ec, S ++ [(op, tf (tkB t tk), knw Ec, to, obj, fl, ixs, es, fs)], k, rg0, ww) := by
    rw [hr, cds_app, h4 _ _ _ _ _ hEc, cds_one, hcd _ _ _ _ _ he]
  have ee : ces K V (N ++ [v]) d = d := by rw [ces_app, h2, hv2]
  have ep : tPs sN V K (N ++ [v]) Ev = tPs sN V K N Ev := by rw [tPs_app, exs_still h1, hv3, List.append_nil]
  rw [ec, ee, ep, exs_still (still_app h1 hv1)]
  exact ⟨q, he, rfl⟩
theorem PD_end {op : Nat} {to obj : Option Nat} {fl : Bool} {ixs es fs : Option gU} (h : PD sN V K Ev x y t N Su pl ro) (hEv : ¬ Ev.2.1 = []) (hE : KV' K e y Ev) (ha : stK y z o (y.1 100 9) a ob ix e9 f9) (hcd : ∀ (Ec : gV) S k w tk, eqE Ec Ev → cdV sN K (Ec, S, k, ([], Su.map Prod.snd, pl, ro, t, tk), w) v = (Ec, S ++ [(op, tk, knw Ec, to, obj, fl, ixs, es, fs)], k, rg0, w)) (ho : o = Int32.ofNat op) (h8 : ¬ op = 8) (h13 : ¬ op = 13) (hto : (op = 0 ∨ (2 ≤ op ∧ op ≤ 4) ∨ op = 16 ∨ op = 17 ∨ op = 20) → tgI a to) (hob : ¬ op = 16 → tgI ob obj) (hix : inS Su ix ixs) (hes : inS Su e9 es) (hfs : inS Su f9 fs) (hv1 : still [v]) (hv2 : ∀ d, ces K V [v] d = d) (hv3 : tPs sN V K [v] Ev = []) : CGs sN V K Ev x z t (N ++ [v]) := PD_endt (tf := fun n => n) h hEv hE ha hcd ho h8 h13 hto hob hix hes hfs hv1 hv2 hv3
theorem TGc_a (h : TGc sN Ev t a b) : tgI a (toL sN Ev.1 t) := by
  rcases h with ⟨e1, e2, -⟩ | ⟨p, e1, -, e2⟩
  · rw [e1]; exact e2
  · rw [e1]; exact e2
theorem opX_c (k : Int32) : 2 ≤ opX k ∧ opX k ≤ 4 := by
  unfold opX
  split
  · decide
  · split <;> decide
/-- reading -/
theorem PD_75 (h : PDp sN V K Ev x y t N b2 i2 []) (hEv : ¬ Ev.2.1 = []) (hE : KV' K e y Ev) (hT : TGc sN Ev t a b) (ha : stK y z 0 (y.1 100 9) a b2 i2 (-1) (-1)) : CGs sN V K Ev x z t (N ++ [(75, i, 0)]) := by
  obtain ⟨pl, ro, Si, eb, hS, h⟩ := h
  rw [List.append_nil] at h
  refine PD_end (op := 0) (to := toL sN Ev.1 t) (obj := some pl) (fl := ro) (ixs := if ro = true then some ((Si.map Prod.snd).getD 0 []) else none) (es := none) (fs := none) h hEv hE ha (fun Ec S k w tk he => ?_) rfl (by decide) (by decide) (fun _ => TGc_a hT) (fun _ => eb) ?_ rfl rfl (stl_k (by decide)) (fun d => rfl) rfl
  · rw [cd_75, toL_eq he]
  · rcases hS with ⟨e1, e2, e3⟩ | ⟨e1, N1, e3⟩
    · rw [e1]; exact e2
    · rw [e1, e3]
      exact List.mem_singleton.mpr rfl
/-- exchange, add -/
theorem PD_74 {N2 : gU} (h : PDp sN V K Ev x y t N b2 i2 [(f2, N2)]) (hEv : ¬ Ev.2.1 = []) (hE : KV' K e y Ev) (hT : TGc sN Ev t a b) (hK : ¬ K i = 16) (ho : o = Int32.ofNat (opX (K i))) (ha : stK y z o (y.1 100 9) a b2 i2 f2 (-1)) : CGs sN V K Ev x z t (N ++ [(74, i, 0)]) := by
  obtain ⟨pl, ro, Si, eb, hS, h⟩ := h
  have op := opX_c (K i)
  rcases hS with ⟨e1, e2, e3⟩ | ⟨e1, N1, e3⟩
  · rw [e1, e3] at h
    refine PD_end (op := opX (K i)) (to := toL sN Ev.1 t) (obj := some pl) (fl := false) (ixs := none) (es := some N2) (fs := none) h hEv hE ha (fun Ec S k w tk he => ?_) ho (by omega) (by omega) (fun _ => TGc_a hT) (fun _ => eb) e2 (List.mem_singleton.mpr rfl) rfl (stl_k (by decide)) (fun d => rfl) rfl
    rw [cd_74, ← toL_eq he]
    unfold cXc
    rw [if_neg (show ¬ false = true by decide), if_neg hK]
    rfl
  · rw [e1, e3] at h
    refine PD_end (op := opX (K i)) (to := toL sN Ev.1 t) (obj := some pl) (fl := true) (ixs := some N1) (es := some N2) (fs := none) h hEv hE ha (fun Ec S k w tk he => ?_) ho (by omega) (by omega) (fun _ => TGc_a hT) (fun _ => eb) List.mem_cons_self (List.mem_cons_of_mem _ (List.mem_singleton.mpr rfl)) rfl (stl_k (by decide)) (fun d => rfl) rfl
    rw [cd_74, ← toL_eq he]
    unfold cXc
    rw [if_pos rfl, if_neg hK]
    rfl
theorem PD_74c {N2 N3 : gU} (h : PDp sN V K Ev x y t N b2 i2 [(f2, N2), (e2, N3)]) (hEv : ¬ Ev.2.1 = []) (hE : KV' K e y Ev) (hT : TGc sN Ev t a b) (hK : K i = 16) (ha : stK y z 4 (y.1 100 9) a b2 i2 f2 e2) : CGs sN V K Ev x z t (N ++ [(74, i, 0)]) := by
  obtain ⟨pl, ro, Si, eb, hS, h⟩ := h
  rcases hS with ⟨e1, e3, e4⟩ | ⟨e1, N1, e4⟩
  · rw [e1, e4] at h
    refine PD_end (op := 4) (to := toL sN Ev.1 t) (obj := some pl) (fl := false) (ixs := none) (es := some N2) (fs := some N3) h hEv hE ha (fun Ec S k w tk he => ?_) rfl (by omega) (by omega) (fun _ => TGc_a hT) (fun _ => eb) e3 List.mem_cons_self (List.mem_cons_of_mem _ (List.mem_singleton.mpr rfl)) (stl_k (by decide)) (fun d => rfl) rfl
    rw [cd_74, ← toL_eq he]
    unfold cXc
    rw [if_neg (show ¬ false = true by decide), if_pos hK, hK]
    rfl
  · rw [e1, e4] at h
    refine PD_end (op := 4) (to := toL sN Ev.1 t) (obj := some pl) (fl := true) (ixs := some N1) (es := some N2) (fs := some N3) h hEv hE ha (fun Ec S k w tk he => ?_) rfl (by omega) (by omega) (fun _ => TGc_a hT) (fun _ => eb) List.mem_cons_self (List.mem_cons_of_mem _ List.mem_cons_self) (List.mem_cons_of_mem _ (List.mem_cons_of_mem _ (List.mem_singleton.mpr rfl))) (stl_k (by decide)) (fun d => rfl) rfl
    rw [cd_74, ← toL_eq he]
    unfold cXc
    rw [if_pos rfl, if_pos hK, hK]
    rfl
/-- a sum is set -/
theorem cSe_c {Ec : gV} {S : List gSt} {k : List Nat} {rr : gRg} {w : List (Nat × Nat) × List (Nat × gU)} {tk : Nat} {M : gU} (he : eqE Ec Ev) : cSe sN (Ec, S, k, rr, w) t tk M = (Ec, S ++ [((if toL sN Ev.1 t = none then 1 else 16 : Nat), tk, knw Ec, toL sN Ev.1 t, (if toL sN Ev.1 t = none then t else none), false, none, some M, none)], k, rg0, w) := by
  show (match toL sN Ec.1 t with | some p => cEm (Ec, S, k, rr, w) (16, tk, knw Ec, some p, none, false, none, some M, none) | none => cEm (Ec, S, k, rr, w) (1, tk, knw Ec, none, t, false, none, some M, none)) = _
  rw [toL_eq he]
  cases toL sN Ev.1 t <;> rfl
theorem PD_se {fl : Bool} (h : PD sN V K Ev x y t N Su pl ro) (hEv : ¬ Ev.2.1 = []) (hE : KV' K e y Ev) (hT : TGc sN Ev t a b) {N2 : gU} (hSu : (f2, N2) ∈ Su) (ha : stK y z (if a = -1 then 1 else 16) (y.1 100 9) a b (-1) f2 (-1)) (hcd : ∀ (Ec : gV) S k w tk, cdV sN K (Ec, S, k, ([], Su.map Prod.snd, pl, ro, t, tk), w) v = cSe sN (Ec, S, k, ([], Su.map Prod.snd, pl, ro, t, tk), w) t tk N2) (hv1 : still [v]) (hv2 : ∀ d, ces K V [v] d = d) (hv3 : tPs sN V K [v] Ev = []) : CGs sN V K Ev x z t (N ++ [v]) := by
  refine PD_end (op := if toL sN Ev.1 t = none then 1 else 16) (to := toL sN Ev.1 t) (obj := if toL sN Ev.1 t = none then t else none) (fl := false) (ixs := none) (es := some N2) (fs := none) h hEv hE ha (fun Ec S k w tk he => by rw [hcd, cSe_c he]) ?_ ?_ ?_ (fun _ => TGc_a hT) (fun q => ?_) rfl hSu rfl hv1 hv2 hv3
  · rcases hT with ⟨e1, e2, -⟩ | ⟨p, e1, e2, -⟩
    · rw [e1, if_pos rfl, if_pos e2]; rfl
    · rw [if_neg e2, e1]; rfl
  · split <;> decide
  · split <;> decide
  · rcases hT with ⟨e1, e2, t0, e3, e4⟩ | ⟨p, e1, e2, -⟩
    · rw [e1, if_pos rfl, e3]; exact e4
    · rw [e1, if_neg (by simp)] at q; exact absurd rfl q
theorem PD_76 {N2 : gU} (h : PD sN V K Ev x y t N [(f2, N2)] pl ro) (hEv : ¬ Ev.2.1 = []) (hE : KV' K e y Ev) (hT : TGc sN Ev t a b) (ha : stK y z (if a = -1 then 1 else 16) (y.1 100 9) a b (-1) f2 (-1)) : CGs sN V K Ev x z t (N ++ [(76, i, 0)]) :=
  PD_se (fl := false) h hEv hE hT (List.mem_singleton.mpr rfl) ha (fun Ec S k w tk => cd_76) (stl_k (by decide)) (fun d => rfl) rfl
/-- a row's cell is set -/
theorem PD_78 {N1 N2 : gU} (h : PD sN V K Ev x y none N [(ix, N1), (f2, N2)] pl true) (hEv : ¬ Ev.2.1 = []) (hE : KV' K e y Ev) (eb : b2.toInt = (pl : Nat)) (ha : stK y z 1 (y.1 100 9) a b2 ix f2 (-1)) : CG sN V K Ev x z (N ++ [(78, i, 0)]) := fun c d P he hr hc => PD_endt (tf := fun _ => i) (op := 1) (to := none) (obj := some pl) (fl := true) (ixs := some N1) (es := some N2) (fs := none) h hEv hE ha (fun Ec S k w tk he => cd_78) rfl (by decide) (by decide) (fun q => absurd q (by decide)) (fun _ => eb) List.mem_cons_self (List.mem_cons_of_mem _ (List.mem_singleton.mpr rfl)) rfl (stl_k (by decide)) (fun d => rfl) rfl 0 c d P he hr hc
/-- a name alone -/
theorem cds_al {Ec : gV} {S : List gSt} {k : List Nat} {w : List (Nat × Nat) × List (Nat × gU)} {tk : Nat} : cds sN K [pal t i] (Ec, S, k, rgT t tk, w) = cAl sN (Ec, S, k, rgT t tk, w) t (tkB t tk) i := by
  cases t with
  | none => rfl
  | some t0 => rfl
theorem tPs_al : tPs sN V K [pal t i] Ev = alP sN Ev i := by
  cases t with
  | none => exact List.append_nil _
  | some t0 => exact List.append_nil _
theorem ces_al {d : Nat × Int32 × List (Int32 × Bool)} : ces K V [pal t i] d = d := by
  cases t with
  | none => rfl
  | some t0 => rfl
theorem stl_al : still [pal t i] := by
  cases t with
  | none => exact stl_k (by decide)
  | some t0 => exact stl_k (by decide)
/-- of a cell -/
theorem PD_al (fr : ∀ c k, ccS c k → y.1 c k = x.1 c k) (hE : KV' K e y Ev) (hT : TGc sN Ev t a b) (hk : kfi sN Ev.1 i = none) (hoi : ob.toInt = (i : Nat)) (ha : stK y z 0 (y.1 100 9) a ob (-1) (-1) (-1)) : CGs sN V K Ev x z t [pal t i] := by
  intro tk c d P he hr hc
  obtain ⟨Ec, S, k, rr, ww⟩ := c
  have hr : rr = rgT t tk := hr
  have he : eqE Ec Ev := he
  have kl : (y.1 100 9).toInt = (Ec.1.length : Nat) := by rw [hE.1, eqE_len he]
  have q := CCp_add (st := (0, tkB t tk, knw Ec, toL sN Ev.1 t, some i, false, none, none, none)) (r' := rg0) (CCp_eq fr hc) ha rfl kl (fun _ => TGc_a hT) (fun q => absurd q (show ¬ 0 = 8 by decide)) (fun _ => hoi) rfl rfl rfl
  have ec : cds sN K [pal t i] (Ec, S, k, rr, ww) = (Ec, S ++ [(0, tkB t tk, knw Ec, toL sN Ev.1 t, some i, false, none, none, none)], k, rg0, ww) := by
    rw [hr, cds_al]
    show (match kfi sN Ec.1 i with | some _ => cSe sN (Ec, S, k, rgT t tk, ww) t (tkB t tk) [(3, i, 0)] | none => cEm (Ec, S, k, rgT t tk, ww) (0, tkB t tk, knw Ec, toL sN Ec.1 t, some i, false, none, none, none)) = _
    rw [kfi_len he.1, hk, toL_eq he]
    rfl
  have ep : tPs sN V K [pal t i] Ev = [] := by
    rw [tPs_al]; unfold alP; rw [hk]
  rw [ec, ces_al, ep, exs_still stl_al, List.append_nil]
  exact ⟨q, he, rfl⟩
/-- of a local: a sum -/
theorem PD_als (h : PD sN V K Ev x y t (pma t ++ ([(3, i, 0)] ++ [(54, 0, 0)])) [(f2, [(3, i, 0)])] 0 false) (hEv : ¬ Ev.2.1 = []) (hE : KV' K e y Ev) (hT : TGc sN Ev t a b) (hk : ¬ kfi sN Ev.1 i = none) (ha : stK y z (if a = -1 then 1 else 16) (y.1 100 9) a b (-1) f2 (-1)) : CGs sN V K Ev x z t [pal t i] := by
  have q := PD_76 (i := 0) h hEv hE hT ha
  obtain ⟨p, hp⟩ : ∃ p, kfi sN Ev.1 i = some p := by
    cases h9 : kfi sN Ev.1 i with
    | none => exact absurd h9 hk
    | some p => exact ⟨p, rfl⟩
  have hs : sEv false [(3, i, 0)] := sEv_one (Or.inr (Or.inr (Or.inr (Or.inr (Or.inl ⟨rfl, rfl⟩)))))
  intro tk c d P he hr hc
  obtain ⟨q1, q2, q3⟩ := q tk c d P he hr hc
  obtain ⟨Ec, S, k, rr, ww⟩ := c
  have hr : rr = rgT t tk := hr
  have he : eqE Ec Ev := he
  have hEc : ¬ Ec.2.1 = [] := by rw [he.2]; exact hEv
  have ec : cds sN K [pal t i] (Ec, S, k, rr, ww) = cds sN K (pma t ++ ([(3, i, 0)] ++ [(54, 0, 0)]) ++ [(76, 0, 0)]) (Ec, S, k, rr, ww) := by
    rw [hr, cds_al, cds_app, h.2.2.2.1 _ _ _ _ _ hEc, cds_one, cd_76]
    show (match kfi sN Ec.1 i with | some _ => cSe sN (Ec, S, k, rgT t tk, ww) t (tkB t tk) [(3, i, 0)] | none => cEm (Ec, S, k, rgT t tk, ww) (0, tkB t tk, knw Ec, toL sN Ec.1 t, some i, false, none, none, none)) = _
    rw [kfi_len he.1, hp]
    show cSe sN (Ec, S, k, rgT t tk, ww) t (tkB t tk) [(3, i, 0)] = _
    rw [cSe_c he, cSe_c he]
    rfl
  have ee : ces K V (pma t ++ ([(3, i, 0)] ++ [(54, 0, 0)]) ++ [(76, 0, 0)]) d = d := by
    rw [ces_app, h.2.1]; rfl
  have pm : tPs sN V K (pma t) Ev = [] ∧ still (pma t) := by
    cases t with
    | none => exact ⟨rfl, still_nil⟩
    | some t0 => exact ⟨rfl, stl_k (by decide)⟩
  have ep : tPs sN V K (pma t ++ ([(3, i, 0)] ++ [(54, 0, 0)]) ++ [(76, 0, 0)]) Ev = alP sN Ev i := by
    have e1 : tPs sN V K [(76, 0, 0)] Ev = [] := rfl
    rw [tPs_app, exs_still h.1, e1, List.append_nil, tPs_app, exs_still pm.2, pm.1, List.nil_append, tPs_x hs]
    show (some ((2 : Int32), match kfi sN Ev.1 i with | some p => Int32.ofNat p | none => -1)).toList ++ [(0, 0)] = _
    unfold alP
    rw [hp]
    rfl
  have ex : exs (pma t ++ ([(3, i, 0)] ++ [(54, 0, 0)]) ++ [(76, 0, 0)]) Ev = Ev := exs_still (still_app h.1 (stl_k (by decide)))
  rw [ee, ep] at q1
  rw [ex] at q2
  rw [ec, ces_al, tPs_al, exs_still stl_al]
  exact ⟨q1, q2, q3⟩
end KPD
section KPE
variable {G : kG} {q : kP} {d : Nat} {x x0 y z xs : gd} {F : Int32 → gd → Prop} {Fv : gd → Prop} {X : String → gd → Prop} {M : Int} {E : Nat → Prop}
/-- the step is added, with all its fields -/
theorem kf_233 (hq : kV q) (hB : BB x0 y M E0) (ha : 2 * ssm y ≤ nx y + 2) (o l a b i2 e1 f1 : Int32) (ho : o = 0 ∨ o = 1 ∨ o = 2 ∨ o = 3 ∨ o = 4 ∨ o = 16) (hb : o.toInt ≤ 4 → PLc y b) (ht : ¬ o = 1 → (0 ≤ a.toInt ∧ a.toInt < M) ∨ BU y) (h : ∀ z, BB x0 z M E0 → nx z = nx y → om z = om y → ssm z = ssm y + 1 → (∀ c k, c < 80 ∨ 89 < c → z.1 c k = y.1 c k) → stK y z o (y.1 100 9) a b i2 f1 e1 → Fv z) : KE G q (d + 7) zk_X7_source 233 [(0, vr 100), (1, vi l), (2, vi a), (6, vi b), (7, vi i2), (8, vi e1), (9, vi f1)] [vi o, vr 80] y (rv Fv) X := by
  obtain ⟨a1, a2, a3, a4, a5⟩ := BB_400 hB ha
  refine kg_X7_source_233 hq _ _ _ _ _ _ _ (kf_add hq _ _ _ a1 a2 (fun w hA vin hF9 => ⟨vin, fun x4 e4 => ⟨vin, fun x6 e6 => ⟨vin, fun x8 e8 => ⟨vin, fun x10 e10 => ⟨vin, fun z ez => rv_i ?_⟩⟩⟩⟩⟩))
  obtain ⟨g1, f2, f3, f4, f5⟩ := hA
  have fz : fm (fun c k => (81 ≤ c ∧ c ≤ 89 ∧ k = (y.1 80 9).toNatClampNeg) ∨ (c = 80 ∧ k = 9)) y z := by
    rw [ez, e10, e8, e6, e4]
    exact fm_si (fm_si (fm_si (fm_si (fm_si g1 (Or.inl ⟨by omega, by omega, rfl⟩)) (Or.inl ⟨by omega, by omega, rfl⟩)) (Or.inl ⟨by omega, by omega, rfl⟩)) (Or.inl ⟨by omega, by omega, rfl⟩)) (Or.inl ⟨by omega, by omega, rfl⟩)
  have es : ssm z = ssm y + 1 := by
    have : z.1 80 9 = w.1 80 9 := by rw [ez, e10, e8, e6, e4]; (simp only [si_get, sfl_get, Nat.reduceEqDiff, eq_self, and_false, false_and, and_true, true_and, if_true, if_false, reduceIte, reduceCtorEq])
    unfold ssm at *; rw [this]; exact f2
  have z81 : z.1 81 (y.1 80 9).toNatClampNeg = o := by rw [ez, e10, e8, e6, e4]; (simp only [si_get, sfl_get, Nat.reduceEqDiff, eq_self, and_false, false_and, and_true, true_and, if_true, if_false, reduceIte, reduceCtorEq]); exact f3
  have z83 : z.1 83 (y.1 80 9).toNatClampNeg = y.1 100 9 := by rw [ez, e10, e8, e6, e4]; (simp only [si_get, sfl_get, Nat.reduceEqDiff, eq_self, and_false, false_and, and_true, true_and, if_true, if_false, reduceIte, reduceCtorEq]); exact f4
  have z84 : z.1 84 (y.1 80 9).toNatClampNeg = a := by rw [ez, e10, e8, e6, e4]; (simp only [si_get, sfl_get, Nat.reduceEqDiff, eq_self, and_false, false_and, and_true, true_and, if_true, if_false, reduceIte, reduceCtorEq])
  have z85 : z.1 85 (y.1 80 9).toNatClampNeg = b := by rw [ez, e10, e8, e6, e4]; (simp only [si_get, sfl_get, Nat.reduceEqDiff, eq_self, and_false, false_and, and_true, true_and, if_true, if_false, reduceIte, reduceCtorEq])
  have e9 : nx z = nx y := by unfold nx; rw [fz 100 4 (by omega)]
  have e13 : om z = om y := by unfold om; rw [fz 100 13 (by omega)]
  have hoi : (0 ≤ o.toInt ∧ ¬ o.toInt = 15) ∧ ¬ o.toInt = 17 ∧ ¬ o.toInt = 20 ∧ (o.toInt ≤ 10 → o.toInt ≤ 4) := by rcases ho with rfl | rfl | rfl | rfl | rfl | rfl <;> decide
  have hSA : SA z M (y.1 80 9).toNatClampNeg := by
    unfold SA sop stg
    rw [z81, z83, z84, z85]
    refine ⟨hoi.1, ⟨a4, a5⟩, fun c => ?_, fun c => ?_⟩
    · obtain ⟨t, t1, t2, t3⟩ := hb (hoi.2.2.2 c)
      have := hoi.2.2.2 c
      exact ⟨t, t1, by omega, fun _ => by rw [fz 42 t (by omega)]; exact t3, fun c1 c2 => by omega, fun c1 => by omega⟩
    · have k1 : (1 : Int32).toInt = 1 := rfl
      rcases ht (fun e => by rw [e, k1] at c; omega) with g | g
      · exact Or.inl g
      · exact Or.inr (La_BU ⟨fun c k q1 q2 => fz c k (by omega), by omega, fun j _ => fz 42 j (by omega)⟩ g)
  have hBz := BB_add hB (n := (y.1 80 9).toNatClampNeg) (by omega) fz es hSA
  refine h z (BB_E hBz (fun e => e.elim id (fun e => by omega)) (fun i hi he hne => ?_)) e9 e13 es (fun c k hc => fz c k (by omega)) ⟨fun c k q q1 q2 => fz c k (fun w => w.elim q1 q2), es, z81, z83, z84, z85, by rw [ez, e10, e8, e6, e4]; (simp only [si_get, sfl_get, Nat.reduceEqDiff, eq_self, and_false, false_and, and_true, true_and, if_true, if_false, reduceIte, reduceCtorEq]), by rw [ez, e10, e8, e6, e4]; (simp only [si_get, sfl_get, Nat.reduceEqDiff, eq_self, and_false, false_and, and_true, true_and, if_true, if_false, reduceIte, reduceCtorEq]), by rw [ez, e10, e8, e6, e4]; (simp only [si_get, sfl_get, Nat.reduceEqDiff, eq_self, and_false, false_and, and_true, true_and, if_true, if_false, reduceIte, reduceCtorEq])⟩
  rcases he with he | he
  · exact absurd he hne
  · rw [he]
    refine SC_no ?_ ?_ <;> (unfold sop; rw [z81]; omega)
end KPE
