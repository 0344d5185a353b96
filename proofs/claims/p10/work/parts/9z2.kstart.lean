/-! the law begins: the class is made, the model, the long -/
section LNW
variable {p : Program} {e : Env} {R : Room} {s : State} {m : MethodId} {args : Array Value} {below : List Frame} {meth : Method} {c : Code} {H : Heap} {locs : List Loc} {cells slots : Nat} {Q : State → Prop} {pc : Nat} {ls : Array Slot} {A : Nat → Prop} {D : Nat} {y z : gy} {E : gE} {x : gd} {f : gf} {ad : Nat → Nat} {st : List Value}
abbrev nul (sl : List Bool) : List Value := (List.range sl.length).map (fun j => if sl.getD j false = true then .null else .int 0)
theorem L_new {ws : va_W} {idx ci : Nat} {sl : List Bool} (C : gC E D y p R s m args meth c A) (hP : va_P E.2.1 vwCl ws H) (hD : va_D A ws) (hS : va_S A s.heap H locs) (hd : decode y.2.1 pc = .ok (.new idx, 3)) (hM : gNw y.1.cls idx ci sl) (h1 : cells + 1 ≤ R.cells) (h2 : slots + sl.length ≤ R.slots)
    (kk : ∀ (q : Nat) (H1 : Heap), va_P E.2.1 vwCl (ws ++ [(q, .inr (ci, nul sl))]) H1 → va_D A (ws ++ [(q, .inr (ci, nul sl))]) → va_S A s.heap H1 locs → W p E.1 e R s m args below meth c H1 locs (cells + 1) (slots + sl.length) Q (F0 m (pc + 3) ls (.ref q :: st))) : W p E.1 e R s m args below meth c H locs cells slots Q (F0 m pc ls st) := by
  obtain ⟨C0, U, ty, m1, m2, m3, m4, m5, m6, m7⟩ := hM
  refine va_new (C := C0) (T := U) (ci := ci) (fs := nul sl) C.1.1 C.1.2.1 C.1.2.2.2.2 m2 ty m6 C.1.2.2.2.1 (C.1.2.2.2.2 _ m3) (C.1.2.2.2.2 _ m4) (C.1.2.2.2.2 _ m5) C.2.2.2.1.1 hP hD hS C.2.2.2.2 m1 (fun j hj => ?_) h1 h2 hd (fun q H1 hP1 hD1 hS1 => kk q H1 hP1 hD1 hS1)
  rw [m7 j hj]; unfold vp_V; rw [List.getD_eq_getElem?_getD (l := List.map _ _), List.getElem?_map, List.getElem?_range hj]; rfl
theorem gP_one {c9 ci q : Nat} {sl : List Bool} (hL : f.2.1 = [c9]) (hf : ∀ j, f.1 c9 j = none) (hx : ∀ j, x.1 c9 j = 0) (hK : E.2.2.2.1 c9 = .inl (ci, sl)) (had : ad c9 = q) (hat : va_at E.2.1 vwCl (q, .inr (ci, nul sl)) H) (hA : A q) (hg : gad E ad) : gP E x f ad A H := by
  have e1 : gwl E x f ad = [(q, .inr (ci, nul sl))] := by
    unfold gwl
    rw [hL]
    show [(ad c9, gce E x f ad c9)] = _
    rw [had, gce_obj hK]
    congr 4
    unfold gfl
    apply List.map_congr_left
    intro j _
    rw [hf j, hx j]; rfl
  have one : ∀ (k : Nat) (q9 : Nat × va_E), ([(q, .inr (ci, nul sl))] : va_W)[k]? = some q9 → k = 0 ∧ q9 = (q, .inr (ci, nul sl)) := fun k q9 hk => by
    have hz : k < 1 := (List.getElem?_eq_some_iff.mp hk).1
    have hz : k = 0 := by omega
    subst hz
    cases hk
    exact ⟨rfl, rfl⟩
  refine ⟨⟨?_, ?_⟩, hg⟩
  · rw [e1]
    intro k q9 hk
    obtain ⟨-, rfl⟩ := one k q9 hk
    exact hat
  · rw [e1]
    refine ⟨fun i j p9 q9 hi hj _ => by have := (one i p9 hi).1; have := (one j q9 hj).1; omega, fun k q9 hk => ?_⟩
    obtain ⟨-, rfl⟩ := one k q9 hk
    exact hA
/-- a constructor -/
theorem L_I {cr idx : Nat} {QQ : gd → gf → Prop} {restv : List Value} (C : gC E D y p R s m args meth c A) (hP : gP E x f ad A H) (hS : va_S A s.heap H locs) (hls : ls.size = y.2.2.1) (d1 : Nat) (hd : decode y.2.1 pc = .ok (.invokespecial idx, 3)) (hM : gMi y.1.cls idx z 0) (hd1 : d1 + 1 ≤ D) (hfit : gsz [vr cr] ≤ z.2.2.1) (hcat : (restv.map fun v => v.category).sum ≤ 8)
    (k : T E d1 z 0 (glv 0 [vr cr]) [] x f (fun o x1 f1 => o = .inl none ∧ QQ x1 f1)) (hroom9 : ∀ x1 f1, QQ x1 f1 → cells + (f1.2.2.1 - f.2.2.1) ≤ R.cells ∧ slots + (f1.2.2.2 - f.2.2.2) ≤ R.slots)
    (kk : ∀ (x1 : gd) (f1 : gf) (ad1 : Nat → Nat) (H1 : Heap) (locs1 : List Loc), QQ x1 f1 → gle f f1 → gex f ad ad1 → gP E x1 f1 ad1 (gA f ad H.size) H1 → (∀ q : Nat, q < H.size → ¬ gA f ad H.size q → H1[q]? = H[q]?) → va_S A s.heap H1 locs1 → W p E.1 e R s m args below meth c H1 locs1 (cells + (f1.2.2.1 - f.2.2.1)) (slots + (f1.2.2.2 - f.2.2.2)) Q (F0 m (pc + 3) ls restv)) :
    W p E.1 e R s m args below meth c H locs cells slots Q (F0 m pc ls (.ref (ad cr) :: restv)) := by
  obtain ⟨⟨m1, m2, m4, m5⟩, m6, ⟨m7, m10⟩, m8, m9⟩ := hM
  obtain ⟨o1, x1, f1, ⟨rfl, hk⟩, hle, hw1⟩ := k
  obtain ⟨hc1, hs1⟩ := hroom9 x1 f1 hk
  have hroom : 8 + (z.2.2.1 + 11) + 41 * d1 ≤ R.locals := by
    have hq := C.2.2.1.2
    omega
  have hz : z.2.2.2.2 = [] := by rw [m9]
  have hz1 : z.2.2.2.1 = none := by rw [m9]
  have hrun := va_runI (g := F0 m pc ls (.ref (ad cr) :: restv)) (rest := restv) (As := ([] : List gv).map (gcv ad)) (b := ad cr) (Pc := va_Pc ([vr cr].map (gcv ad)) (gst E x f ad H.size)) (e := e) (below := below) (meth := meth) (locs := locs) (cells := cells) (slots := slots) ⟨C.1.1, C.1.2.1, C.1.2.2.1, C.1.2.2.2.1, C.1.2.2.2.2⟩ (gM_ofI C.2.2.2.1.2.2.2 m7 hfit hw1 ad H.size)
      ⟨callB_of (bytes := z.2.1) (maxL := z.2.2.1) (ret := none) (ws' := W0) 0 C.1.2.2.2.2 (gwsz m5) (by rw [gws, gcw, hz, hz1]) rfl rfl (C.1.2.2.2.2 _ m4) (C.1.2.2.2.2 _ m1) m6 ⟨Nat.le_trans hd1 C.2.2.1.1, hroom⟩, m10, C.1.2.2.2.2 _ m2⟩ ⟨gst_blind, fun U hU hW => ⟨rfl, gst_in C hP hS hU hW⟩⟩ rfl rfl hls rfl (lv_room hcat) hd ⟨hc1, hs1⟩
  intro T9 hT X
  obtain ⟨v', st₀, t, T', L, h0, X', hL, e1, e2, ⟨ad1, hex, ⟨v2, ev1, ev2⟩, hP1, hF⟩, stp⟩ := hrun T9 hT X
  cases ev1
  cases ev2
  have hin := gA_in (sz := H.size) hP (fun q hq => C.2.2.2.2 q (Nat.le_trans hS.1 hq))
  obtain ⟨k1, k2, k3⟩ := vx_keep h0 e1 hS (fun q _ h => hin q h) hin hL hF
  obtain ⟨t2, s1, s2⟩ := kk x1 f1 ad1 T'.heap (locs ++ L) hk hle hex (by rw [e1]; exact hP1) k2 k3 T' rfl X'
  exact ⟨t2, stp t2 s1, s2⟩
/-- a shape that looks alike where it is looked at -/
theorem gwl_rf {f2 : gf} (hL : f2.2.1 = f.2.1) (hr : ∀ c ∈ f.2.1, ∀ k, (∀ ci sl, E.2.2.2.1 c = .inl (ci, sl) → k < sl.length ∧ sl.getD k false = true) → (∀ ty n, E.2.2.2.1 c = .inr (ty, n) → ty.isReference = true) → f2.1 c k = f.1 c k) : gwl E x f2 ad = gwl E x f ad := by
  unfold gwl
  rw [hL]
  apply List.map_congr_left
  intro c hc
  have hg : gce E x f2 ad c = gce E x f ad c := by
    cases hk : E.2.2.2.1 c with
    | inl o =>
      obtain ⟨ci, sl⟩ := o
      rw [gce_obj hk, gce_obj hk]
      congr 2
      unfold gfl
      apply List.map_congr_left
      intro j hj
      by_cases hs : sl.getD j false = true
      · rw [if_pos hs, if_pos hs, hr c hc j (fun ci' sl' h' => by rw [hk] at h'; cases h'; exact ⟨List.mem_range.mp hj, hs⟩) (fun ty n h' => by rw [hk] at h'; cases h')]
      · rw [if_neg hs, if_neg hs]
    | inr a =>
      obtain ⟨ty, n⟩ := a
      rw [gce_arr hk, gce_arr hk]
      congr 3
      have hz : ty.isReference = true → ∀ j, f2.1 c j = f.1 c j := fun ht j => hr c hc j (fun ci' sl' h' => by rw [hk] at h'; cases h') (fun ty' n' h' => by rw [hk] at h'; cases h'; exact ht)
      unfold gar
      cases ty <;> first | rfl | (simp only [hz rfl])
  rw [hg]
end LNW
def fE : gf := (fun _ _ => none, [], 0, 0)
def q00 : kP := kmk false false false false none 0 0 0 (0 :: news_0) 66 19895
abbrev x00 : gd := xops (znew zq0 0) ops_0
abbrev f00 : gf := fops (fnew fE 0 13) ops_0
theorem q00_U : kU q00 := by
  refine ⟨⟨by decide +kernel, fun e => absurd e (by decide), fun e => absurd e (by decide), fun e => absurd e (by decide), fun e => absurd e (by decide), fun k hk => absurd hk (Nat.not_lt_zero _), fun k hk => absurd hk (Nat.not_lt_zero _), fun k hk => absurd hk (Nat.not_lt_zero _)⟩, fun c hc => Or.inl ((by decide +kernel : ∀ c ∈ 0 :: news_0, c ∈ kl0) c hc), ⟨fun _ => ⟨rfl, rfl⟩, fun _ => rfl, fun _ => rfl⟩, fun o e => (by cases e), Nat.zero_le _, Nat.zero_le _, Nat.zero_le _⟩
theorem f00_L : f00.2.1 = (kf q00).2.1 := by
  rw [ops_L]
  show ([] ++ [0]) ++ ops_0.flatMap onew = 0 :: news_0
  rw [show ops_0.flatMap onew = news_0 by decide +kernel]; rfl
theorem f00_c : f00.2.2 = (66, 19895) := by
  rw [ops_ct, show (ops_0.map fun o => (ocel o).1).sum = 65 by decide +kernel, show (ops_0.map fun o => (ocel o).2).sum = 19882 by decide +kernel]; rfl
def chk0 : Bool := (0 :: news_0).all (fun c => match kK c with
  | .inl (_, sl) => (List.range sl.length).all (fun k => !sl.getD k false || decide (kR q00 c k = f00.1 c k))
  | .inr (ty, _) => !ty.isReference || c == 7)
theorem chk0_t : chk0 = true := by decide +kernel
theorem f00_r {c k : Nat} (hc : c ∈ (0 :: news_0)) (g1 : ∀ ci sl, kK c = .inl (ci, sl) → k < sl.length ∧ sl.getD k false = true) (g2 : ∀ ty n, kK c = .inr (ty, n) → ty.isReference = true) : kR q00 c k = f00.1 c k := by
  have h := List.all_eq_true.mp chk0_t c hc
  cases hk : kK c with
  | inl o =>
    obtain ⟨ci, sl⟩ := o
    obtain ⟨a1, a2⟩ := g1 ci sl hk
    rw [hk] at h
    have h2 := List.all_eq_true.mp h k (List.mem_range.mpr a1)
    rw [a2] at h2
    exact of_decide_eq_true (by simpa using h2)
  | inr a =>
    obtain ⟨ty, n⟩ := a
    have a1 := g2 ty n hk
    rw [hk] at h
    have h2 : (!ty.isReference || c == 7) = true := h
    rw [a1] at h2
    have : c = 7 := by simpa using h2
    subst this
    show (if k = 0 then (if false = true then some 260 else none) else if k = 1 then (if false = true then some 280 else none) else none) = none
    split
    · rfl
    · split <;> rfl
theorem x00_H : HOI x00 q00 := by
  have z : ∀ o, (o = 260 ∨ o = 280) → x00.1 o 0 = 0 ∧ x00.1 o 3 = 0 := fun o hO => by
    rcases hO with e | e <;> subst e <;> exact ⟨by decide +kernel, by decide +kernel⟩
  refine ⟨?_, fun e => absurd (by decide +kernel) e, fun e => absurd (by decide +kernel) e, fun o hO => ⟨⟨?_, Or.inl (z o hO).1⟩, fun _ => (z o hO).1⟩⟩
  · unfold kL
    rw [show x00.1 20 1 = 0 by decide +kernel]; decide
  · unfold TO
    rw [(z o hO).2]
    have k0 : (0 : Int32).toInt = 0 := rfl
    rw [k0]
    exact ⟨⟨by omega, by omega, oN_U q00_U o⟩, fun i hi => by omega⟩
theorem z1_M : MI z1 := by
  have k0 : (0 : Int32).toInt = 0 := rfl
  have zc : ∀ c k, c ≠ 0 → z1.1 c k = 0 := fun c k hc => by
    unfold z1
    rw [si_get, if_neg (by omega), si_get, if_neg (by omega)]; rfl
  refine ⟨⟨by decide, by decide, fun j hj => ?_, by decide, by decide, fun t ht => ?_⟩, fun e => absurd rfl e, fun e => absurd rfl e, fun w hw e => absurd (zc 119 w (by omega)) e⟩
  · rw [zc 6 j (by omega), zc 8 j (by omega), zc 7 j (by omega), k0]; omega
  · rw [zc 118 t (by omega), k0]; omega
theorem mAll_r (j : Nat) : (msl.getD j false = true) ↔ j ∈ mAll := by
  by_cases h : j < 139
  · exact (by decide +kernel : ∀ j, j < 139 → ((msl.getD j false = true) ↔ j ∈ mAll)) j h
  · constructor
    · intro e
      have hl : msl.length = 139 := by decide +kernel
      rw [List.getD_eq_getElem?_getD, List.getElem?_eq_none (by omega)] at e; cases e
    · intro e
      have := (by decide +kernel : ∀ k ∈ mAll, k < 139) j e
      omega
theorem m_gwl {G : mG} {ad : Nat → Nat} {ce sl : Nat} : gwl (mE G) z1 (mf G) ad = gwl (mE G) z1 (mSv mAll ce sl) ad := by
  refine gwl_ag (by show mL = 0 :: mAll.reverse.map (· + 1); decide +kernel) (fun _ _ => rfl) rfl (fun _ _ => rfl) (fun _ _ => rfl) (fun _ _ => rfl) (fun c _ j => ?_)
  show Option.map ad (if c = 0 then (if msl.getD j false = true then some (j + 1) else none) else none) = Option.map ad (if c = 0 ∧ j ∈ mAll then some (j + 1) else none)
  by_cases e : c = 0
  · by_cases e2 : msl.getD j false = true
    · rw [if_pos e, if_pos e2, if_pos ⟨e, (mAll_r j).mp e2⟩]
    · rw [if_pos e, if_neg e2, if_neg (fun z => e2 ((mAll_r j).mpr z.2))]
  · rw [if_neg e, if_neg (fun z => e z.1)]
set_option maxRecDepth 100000 in
theorem sca_init : tables_1_8[183]? = some (Cond.code yX12_init cX12_init 1 none) := rfl
theorem scw_init : Cond.code yX12_init cX12_init 1 none ∈ W0 := W0_in (tp_8 (List.mem_of_getElem? sca_init)) rfl
theorem kn_L_8 : gNw RL 8 11 ks_X11 := ⟨RX11, TX11, tyX11, rfl, kw_X11, (W0_in (List.mem_of_getElem? (i := 233) (by decide +kernel)) rfl), (W0_in (List.mem_of_getElem? (i := 234) (by decide +kernel)) rfl), (W0_in (List.mem_of_getElem? (i := 206) (by decide +kernel)) rfl), tyX11_ok, by decide⟩
set_option maxRecDepth 100000 in
theorem kn_L_100 : gNw RL 100 12 msl := ⟨RX12, TX12, tyX12, rfl, tw0_X12, (W0_in (List.mem_of_getElem? (i := 2064) (by decide +kernel)) rfl), (W0_in (List.mem_of_getElem? (i := 2065) (by decide +kernel)) rfl), (W0_in (List.mem_of_getElem? (i := 215) (by decide +kernel)) rfl), tyX12_ok, by decide +kernel⟩
theorem kci_L_99 : gMi RL 99 zk_X11_init 0 := ⟨⟨(W0_in (List.mem_of_getElem? (i := 235) (by decide +kernel)) rfl), (W0_in (List.mem_of_getElem? (i := 236) (by decide +kernel)) rfl), (W0_in (List.mem_of_getElem? (i := 206) (by decide +kernel)) rfl), kcw_X11_init⟩, ⟨by decide, by decide, by decide +kernel⟩, ⟨by decide, rfl⟩, by decide, rfl⟩
theorem kci_L_102 : gMi RL 102 z_init 0 := ⟨⟨(W0_in (List.mem_of_getElem? (i := 2066) (by decide +kernel)) rfl), (W0_in (List.mem_of_getElem? (i := 2067) (by decide +kernel)) rfl), (W0_in (List.mem_of_getElem? (i := 215) (by decide +kernel)) rfl), scw_init⟩, ⟨by decide, by decide, by decide +kernel⟩, ⟨by decide, rfl⟩, by decide, rfl⟩
theorem aL_W : Cond.arrayClass .long ∈ W0 := (W0_in (List.mem_of_getElem? (i := 2489) (by decide +kernel)) rfl)
theorem aB_W : Cond.arrayClass .byte ∈ W0 := (W0_in (List.mem_of_getElem? (i := 286) (by decide +kernel)) rfl)
theorem aZ_W : Cond.arrayClass .boolean ∈ W0 := (W0_in (List.mem_of_getElem? (i := 492) (by decide +kernel)) rfl)
