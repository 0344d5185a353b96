section
/-! the law: two worlds side by side -/
abbrev yLaw : gy := (yL_law, cL_law, 7, some .boolean, [])
abbrev mg (G : kG) : mG := (G.1, G.2.1, G.2.2.1, G.2.2.2, 0, 0)
section LAW
variable {p : Program} {l : Launch} {e : Env} {R : Room} {s : State} {m : MethodId} {args : Array Value} {below : List Frame} {meth : Method} {c : Code} {H : Heap} {locs : List Loc} {cells slots : Nat} {Q : State → Prop} {pc : Nat} {ls : Array Slot} {A : Nat → Prop} {D : Nat} {y z : gy} {E : gE} {x : gd} {f : gf} {ad : Nat → Nat} {restv : List Value}
/-- behind a call that answers an int -/
theorem L_out {mc ms : Nat} {stk : List Value} {r : Int32} {x1 : gd} {f1 : gf} {av : Array Value} (hrun : vx_Run p l e R s m args below meth c H locs cells slots mc ms (F0 m pc ls stk) restv (gQc E (gA f ad H.size) f ad (.inl (some (vi r))) x1 f1 av) (gXC E (gA f ad H.size) f ad (.inl (some (vi r))) x1 f1) (gA f ad H.size)) (hP : gP E x f ad A H) (hS : va_S A s.heap H locs) (hA : ∀ q : Nat, s.heap.size ≤ q → A q)
    (kk : ∀ (ad1 : Nat → Nat) (H1 : Heap) (locs1 : List Loc), gex f ad ad1 → gP E x1 f1 ad1 (gA f ad H.size) H1 → (∀ q : Nat, q < H.size → ¬ gA f ad H.size q → H1[q]? = H[q]?) → va_S A s.heap H1 locs1 → W p l e R s m args below meth c H1 locs1 (cells + mc) (slots + ms) Q (F0 m (pc + 3) ls (.int r :: restv))) :
    W p l e R s m args below meth c H locs cells slots Q (F0 m pc ls stk) := by
  intro T9 hT X
  rcases hrun T9 hT X with ⟨v', st₀, t, T', L, h0, X', hL, e1, e2, ⟨ad1, hex, ⟨v2, ev1, ev2⟩, hP1, hF⟩, stp⟩ | ⟨q, st₀, t, T', L, X0, ce, h0, X', hL, e1, e2, ⟨ad1, hex, hn, -⟩, -⟩
  · cases ev1
    cases ev2
    have hin := gA_in (sz := H.size) hP (fun q hq => hA q (Nat.le_trans hS.1 hq))
    obtain ⟨k1, k2, k3⟩ := vx_keep h0 e1 hS (fun q _ h => hin q h) hin hL hF
    obtain ⟨t2, s1, s2⟩ := kk ad1 T'.heap (locs ++ L) hex (by rw [e1]; exact hP1) k2 k3 T' rfl X'
    exact ⟨t2, stp t2 s1, s2⟩
  · cases hn
/-- an instance's method, of a world of its own -/
theorem L_V {cr ci idx n : Nat} {sl : List Bool} {QQ : gr → gd → gf → Prop} {stk : List Value} (C : gC E D y p R s m args meth c A) (hP : gP E x f ad A H) (hS : va_S A s.heap H locs) (hls : ls.size = y.2.2.1) (As : List gv) (d1 : Nat) (hstk : stk = (As.map (gcv ad)).reverse ++ Value.ref (ad cr) :: restv) (hd : decode y.2.1 pc = .ok (.invokevirtual idx, 3)) (hM : gMv y.1.cls idx z n) (hn : As.length = n) (hK : E.2.2.2.1 cr = .inl (ci, sl)) (hcl : (vwCl[ci]?).map (fun r => r.1) = some z.1.cls) (hc : cr ∈ f.2.1) (hd1 : d1 + 1 ≤ D)
    (hfit : gsz (vr cr :: As) ≤ z.2.2.1) (hcat : (restv.map fun v => v.category).sum ≤ 8) (k : T E d1 z 0 (glv 0 (vr cr :: As)) [] x f QQ) (hQ : ∀ o x1 f1, QQ o x1 f1 → ∃ r : Int32, o = .inl (some (vi r))) (hroom9 : ∀ o x1 f1, QQ o x1 f1 → gle f f1 → cells + (f1.2.2.1 - f.2.2.1) ≤ R.cells ∧ slots + (f1.2.2.2 - f.2.2.2) ≤ R.slots)
    (kk : ∀ (r : Int32) (x1 : gd) (f1 : gf) (ad1 : Nat → Nat) (H1 : Heap) (locs1 : List Loc), QQ (.inl (some (vi r))) x1 f1 → gle f f1 → gex f ad ad1 → gP E x1 f1 ad1 (gA f ad H.size) H1 → (∀ q : Nat, q < H.size → ¬ gA f ad H.size q → H1[q]? = H[q]?) → va_S A s.heap H1 locs1 → W p E.1 e R s m args below meth c H1 locs1 (cells + (f1.2.2.1 - f.2.2.1)) (slots + (f1.2.2.2 - f.2.2.2)) Q (F0 m (pc + 3) ls (.int r :: restv))) :
    W p E.1 e R s m args below meth c H locs cells slots Q (F0 m pc ls stk) := by
  obtain ⟨⟨m1, m2, m3, m4, m5⟩, m6, m7, m8⟩ := hM
  obtain ⟨o1, x1, f1, hk, hle, hw1⟩ := k
  obtain ⟨r, rfl⟩ := hQ o1 x1 f1 hk
  obtain ⟨hc1, hs1⟩ := hroom9 _ x1 f1 hk hle
  obtain ⟨i, hi0, hi⟩ := gwl_at (E := E) (x := x) (ad := ad) hc
  rw [gce_obj hK] at hi
  have hr9 : ∃ r : vw_C, vwCl[ci]? = some r ∧ r.1 = z.1.cls := by
    cases h9 : vwCl[ci]? with
    | none => rw [h9] at hcl; cases hcl
    | some r => rw [h9] at hcl; exact ⟨r, rfl, Option.some.inj hcl⟩
  obtain ⟨r9, hr1, hr2⟩ := hr9
  have hrec := va_recv C.2.2.2.1.1 hP.1.1 hr1 hi
  rw [hr2] at hrec
  have hG : GoodIn W0 (wsV y.1.cls idx z.1.cls z.1 (gws z)) := by
    intro w hw
    rcases List.mem_append.mp hw with h | h
    · refine W0_good w ?_
      simp only [List.mem_cons, List.not_mem_nil, or_false] at h
      rcases h with rfl | rfl | rfl | rfl
      · exact m1
      · exact m2
      · exact m3
      · exact m4
    · exact gwsz m5 w h
  have hroom : 8 + (z.2.2.1 + 11) + 41 * d1 ≤ R.locals := by
    have hq := C.2.2.1.2
    omega
  refine L_out (E := E) (x := x) (f := f) (ad := ad) (r := r) (x1 := x1) (f1 := f1) (mc := f1.2.2.1 - f.2.2.1) (ms := f1.2.2.2 - f.2.2.2) (av := ((vr cr :: As).map (gcv ad)).toArray) ?_ hP hS C.2.2.2.2 (fun ad1 H1 locs1 g1 g2 g3 g4 => kk r x1 f1 ad1 H1 locs1 hk hle g1 g2 g3 g4)
  cases hz : z.2.2.2.2 with
  | nil =>
    exact vx_runV (As := As.map (gcv ad)) (C := z.1.cls) (b := ad cr) (Pc := va_Pc ((vr cr :: As).map (gcv ad)) (gst E x f ad H.size)) ⟨C.1.1, C.1.2.1, C.1.2.2.1, C.1.2.2.2.1, C.1.2.2.2.2⟩ (gM_of C.2.2.2.1.2.2.2 m7 hfit hw1 ad H.size)
      (cwV (bytes := z.2.1) (maxL := z.2.2.1) (ret := z.2.2.2.1) (ws' := W0) n C.1.2.2.2.2 hG (by rw [gws, gcw, hz]) rfl rfl ⟨rfl, m6⟩ ⟨Nat.le_trans hd1 C.2.2.1.1, hroom⟩) ⟨gst_blind, hrec, fun U hU hW => ⟨rfl, gst_in C hP hS hU hW⟩⟩ rfl (by rw [List.length_map]; exact hn) hls hstk (lv_room hcat) hd ⟨hc1, hs1⟩
  | cons a9 b9 =>
    exact vx_runVX (hh := a9 :: b9) (As := As.map (gcv ad)) (C := z.1.cls) (b := ad cr) (Pc := va_Pc ((vr cr :: As).map (gcv ad)) (gst E x f ad H.size)) ⟨C.1.1, C.1.2.1, C.1.2.2.1, C.1.2.2.2.1, C.1.2.2.2.2⟩ (gM_of C.2.2.2.1.2.2.2 m7 hfit hw1 ad H.size)
      (vx_cwVW (bytes := z.2.1) (maxL := z.2.2.1) (ret := z.2.2.2.1) (hh := a9 :: b9) (ws' := W0) n C.1.2.2.2.2 hG (by rw [gws, gcw, hz]) rfl rfl ⟨rfl, m6⟩ ⟨Nat.le_trans hd1 C.2.2.1.1, hroom⟩) ⟨gst_blind, hrec, fun U hU hW => ⟨rfl, gst_in C hP hS hU hW⟩⟩ rfl (by rw [List.length_map]; exact hn) hls hstk (lv_room hcat) hd ⟨hc1, hs1⟩
/-- a helper of the law -/
theorem L_S {idx n : Nat} {QQ : gr → gd → gf → Prop} {stk : List Value} (C : gC E D y p R s m args meth c A) (hP : gP E x f ad A H) (hS : va_S A s.heap H locs) (hls : ls.size = y.2.2.1) (As : List gv) (d1 : Nat) (hstk : stk = (As.map (gcv ad)).reverse ++ restv) (hd : decode y.2.1 pc = .ok (.invokestatic idx, 3)) (hM : gMs y.1.cls idx z n) (hn : As.length = n) (hd1 : d1 + 1 ≤ D) (hz0 : z.2.2.2.2 ≠ [])
    (hfit : gsz As ≤ z.2.2.1) (hcat : (restv.map fun v => v.category).sum ≤ 8) (k : T E d1 z 0 (glv 0 As) [] x f QQ) (hQ : ∀ o x1 f1, QQ o x1 f1 → ∃ r : Int32, o = .inl (some (vi r))) (hroom9 : ∀ o x1 f1, QQ o x1 f1 → gle f f1 → cells + (f1.2.2.1 - f.2.2.1) ≤ R.cells ∧ slots + (f1.2.2.2 - f.2.2.2) ≤ R.slots)
    (kk : ∀ (r : Int32) (x1 : gd) (f1 : gf) (ad1 : Nat → Nat) (H1 : Heap) (locs1 : List Loc), QQ (.inl (some (vi r))) x1 f1 → gle f f1 → gex f ad ad1 → gP E x1 f1 ad1 (gA f ad H.size) H1 → (∀ q : Nat, q < H.size → ¬ gA f ad H.size q → H1[q]? = H[q]?) → va_S A s.heap H1 locs1 → W p E.1 e R s m args below meth c H1 locs1 (cells + (f1.2.2.1 - f.2.2.1)) (slots + (f1.2.2.2 - f.2.2.2)) Q (F0 m (pc + 3) ls (.int r :: restv))) :
    W p E.1 e R s m args below meth c H locs cells slots Q (F0 m pc ls stk) := by
  obtain ⟨⟨m1, m2, m4, m5⟩, m6, m7, m8⟩ := hM
  obtain ⟨o1, x1, f1, hk, hle, hw1⟩ := k
  obtain ⟨r, rfl⟩ := hQ o1 x1 f1 hk
  obtain ⟨hc1, hs1⟩ := hroom9 _ x1 f1 hk hle
  have hroom : 8 + (z.2.2.1 + 11) + 41 * d1 ≤ R.locals := by
    have hq := C.2.2.1.2
    omega
  refine L_out (E := E) (x := x) (f := f) (ad := ad) (r := r) (x1 := x1) (f1 := f1) (mc := f1.2.2.1 - f.2.2.1) (ms := f1.2.2.2 - f.2.2.2) (av := (As.map (gcv ad)).toArray) ?_ hP hS C.2.2.2.2 (fun ad1 H1 locs1 g1 g2 g3 g4 => kk r x1 f1 ad1 H1 locs1 hk hle g1 g2 g3 g4)
  cases hz : z.2.2.2.2 with
  | nil => exact absurd hz hz0
  | cons a9 b9 =>
    have hG : GoodIn W0 (va_wsS y.1.cls idx z.1 (gws z)) := by
      intro w hw
      rcases List.mem_append.mp hw with h | h
      · refine W0_good w ?_
        simp only [List.mem_cons, List.not_mem_nil, or_false] at h
        rcases h with rfl | rfl | rfl
        · exact m1
        · exact m2
        · exact m4
      · exact gwsz m5 w h
    exact vx_runSX (hh := a9 :: b9) (As := As.map (gcv ad)) (Pc := va_Pc (As.map (gcv ad)) (gst E x f ad H.size)) ⟨C.1.1, C.1.2.1, C.1.2.2.1, C.1.2.2.2.1, C.1.2.2.2.2⟩ (gM_of C.2.2.2.1.2.2.2 m7 hfit hw1 ad H.size)
      (vx_cwSW (bytes := z.2.1) (maxL := z.2.2.1) (ret := z.2.2.2.1) (hh := a9 :: b9) (ws' := W0) n C.1.2.2.2.2 hG (by rw [gws, gcw, hz]) rfl rfl m6 ⟨Nat.le_trans hd1 C.2.2.1.1, hroom⟩) ⟨gst_blind, fun U hU hW => ⟨rfl, gst_in C hP hS hU hW⟩⟩ rfl (by rw [List.length_map]; exact hn) hls hstk (lv_room hcat) hd ⟨hc1, hs1⟩
end LAW
/-- the two worlds, apart; where their objects lie -/
def LI (G : kG) (A : Nat → Prop) (H : Heap) (x : gd) (q : kP) (w : gd) (x0 m0 o0 : Nat) : Prop := ∃ ak am : Nat → Nat, gP (wE (kE G)) x (fo (kf q)) ak A H ∧ gP (mE (mg G)) w (mf (mg G)) am A H ∧ gdis (fo (kf q)) ak (mf (mg G)) am ∧ ak 0 = x0 ∧ ak 299 = o0 ∧ am 0 = m0
theorem gdis_s {f1 f2 : gf} {a1 a2 : Nat → Nat} (h : gdis f1 a1 f2 a2) : gdis f2 a2 f1 a1 := fun c hc c' hc' e => h c' hc' c hc e.symm
section LAX
variable {p : Program} {e : Env} {R : Room} {s : State} {m : MethodId} {args : Array Value} {below : List Frame} {meth : Method} {c : Code} {H : Heap} {locs : List Loc} {c0 s0 : Nat} {Q : State → Prop} {pc : Nat} {ls : Array Slot} {A : Nat → Prop} {G : kG} {z : gy} {x w : gd} {q : kP} {x0 m0 o0 : Nat} {restv : List Value}
/-- a helper is called -/
theorem LI_S {idx n : Nat} {P : Int32 → gd → kP → Prop} (C : gC (wE (kE G)) 1000 yLaw p R s m args meth c A) (hI : LI G A H x q w x0 m0 o0) (hu : kU q) (hS : va_S A s.heap H locs) (hls : ls.size = 7) (As : List gv) (vs : List Value) (hvs : ∀ ad : Nat → Nat, As.map (gcv ad) = vs) (hd : decode cL_law pc = .ok (.invokestatic idx, 3)) (hM : gMs RL idx z n) (hn : As.length + 2 = n) (hz0 : z.2.2.2.2 ≠ []) (hfit : gsz (vr 0 :: As ++ [vr 299]) ≤ z.2.2.1)
    (k : T (wE (kE G)) 900 z 0 (glv 0 (vr 0 :: As ++ [vr 299])) [] x (fo (kf q)) (wq q P)) (hroom : ∀ q1, kU q1 → kst q q1 → q1.ce + c0 ≤ R.cells ∧ q1.sl + s0 ≤ R.slots)
    (kk : ∀ (r : Int32) (x1 : gd) (q1 : kP) (H1 : Heap) (locs1 : List Loc), LI G A H1 x1 q1 w x0 m0 o0 → kU q1 → kst q q1 → HOI x1 q1 → P r x1 q1 → va_S A s.heap H1 locs1 → W p G.1 e R s m args below meth c H1 locs1 (q1.ce + c0) (q1.sl + s0) Q (F0 m (pc + 3) ls [.int r])) :
    W p G.1 e R s m args below meth c H locs (q.ce + c0) (q.sl + s0) Q (F0 m pc ls (.ref o0 :: (vs.reverse ++ [.ref x0]))) := by
  obtain ⟨ak, am, hP1, hP2, hdis, e0, e9, em⟩ := hI
  have l0 : 0 ∈ (fo (kf q)).2.1 := List.mem_append_left _ (kl_0 hu.1)
  have l9 : 299 ∈ (fo (kf q)).2.1 := List.mem_append_right _ (List.mem_singleton.mpr rfl)
  have hc9 : ∀ {q1 : kP}, gle (fo (kf q)) (fo (kf q1)) → q.ce + c0 + (q1.ce - q.ce) = q1.ce + c0 ∧ q.sl + s0 + (q1.sl - q.sl) = q1.sl + s0 := fun {q1} h => by
    have a1 : q.ce ≤ q1.ce := h.2.1
    have a2 : q.sl ≤ q1.sl := h.2.2
    omega
  refine L_S (E := wE (kE G)) (y := yLaw) (restv := []) (f := fo (kf q)) (ad := ak) C hP1 hS hls (vr 0 :: As ++ [vr 299]) 900 ?_ hd hM (by rw [← hn]; simp) (by omega) hz0 hfit (by decide) k (fun o x1 f1 h => by obtain ⟨r, q1, h1, -⟩ := h; exact ⟨r, h1⟩) (fun o x1 f1 h hle => ?_) (fun r x1 f1 ad1 H1 locs1 h hle hex hPn hkp hS1 => ?_)
  · rw [List.map_append, List.map_cons, hvs, ← e0, ← e9]
    simp [gcv]
  · obtain ⟨r, q1, -, rfl, hu1, hk1, -⟩ := h
    obtain ⟨a1, a2⟩ := hc9 hle
    obtain ⟨b1, b2⟩ := hroom q1 hu1 hk1
    exact ⟨by show q.ce + c0 + (q1.ce - q.ce) ≤ _; rw [a1]; exact b1, by show q.sl + s0 + (q1.sl - q.sl) ≤ _; rw [a2]; exact b2⟩
  · obtain ⟨r', q1, hr, rfl, hu1, hk1, hH1, hp1⟩ := h
    cases hr
    obtain ⟨a1, a2⟩ := hc9 hle
    obtain ⟨kp1, kp2⟩ := keep2 hP2 hdis hkp hPn
    have hin := gA_in (sz := H.size) hP1 (fun q hq => C.2.2.2.2 q (Nat.le_trans hS.1 hq))
    have hkk := kk r x1 q1 H1 locs1 ⟨ad1, am, gP_w hPn hin, kp1, kp2, (hex.1 0 l0).trans e0, (hex.1 299 l9).trans e9, em⟩ hu1 hk1 hH1 hp1 hS1
    show W p G.1 e R s m args below meth c H1 locs1 (q.ce + c0 + (q1.ce - q.ce)) (q.sl + s0 + (q1.sl - q.sl)) Q _
    rw [a1, a2]; exact hkk
/-- a method of the class is called -/
theorem LI_K {idx : Nat} {P : Int32 → gd → kP → Prop} (C : gC (wE (kE G)) 1000 yLaw p R s m args meth c A) (hI : LI G A H x q w x0 m0 o0) (hu : kU q) (hS : va_S A s.heap H locs) (hls : ls.size = 7) (hd : decode cL_law pc = .ok (.invokevirtual idx, 3)) (hM : gMv RL idx z 0) (hcl : (vwCl[11]?).map (fun r => r.1) = some z.1.cls) (hfit : gsz [vr 0] ≤ z.2.2.1) (hcat : (restv.map fun v => v.category).sum ≤ 8)
    (k : T (kE G) 900 z 0 (glv 0 [vr 0]) [] x (kf q) (fun o x1 f1 => ∃ (r : Int32) (q1 : kP), o = .inl (some (vi r)) ∧ f1 = kf q1 ∧ kU q1 ∧ kst q q1 ∧ HOI x1 q1 ∧ P r x1 q1)) (hroom : ∀ q1, kU q1 → kst q q1 → q1.ce + c0 ≤ R.cells ∧ q1.sl + s0 ≤ R.slots)
    (kk : ∀ (r : Int32) (x1 x2 : gd) (q1 : kP) (H1 : Heap) (locs1 : List Loc), LI G A H1 x1 q1 w x0 m0 o0 → kU q1 → kst q q1 → HOI x1 q1 → P r x2 q1 → x1.1 = x2.1 → va_S A s.heap H1 locs1 → W p G.1 e R s m args below meth c H1 locs1 (q1.ce + c0) (q1.sl + s0) Q (F0 m (pc + 3) ls (.int r :: restv))) :
    W p G.1 e R s m args below meth c H locs (q.ce + c0) (q.sl + s0) Q (F0 m pc ls (.ref x0 :: restv)) := by
  obtain ⟨ak, am, hP1, hP2, hdis, e0, e9, em⟩ := hI
  obtain ⟨hPk, hPO, hdO⟩ := fo_sp (n299 hu) hP1
  have l0 : 0 ∈ (kf q).2.1 := kl_0 hu.1
  have l9 : 299 ∈ (fo (kf q)).2.1 := List.mem_append_right _ (List.mem_singleton.mpr rfl)
  have hdk : gdis (kf q) ak (mf (mg G)) am := fun c hc c' hc' => hdis c (List.mem_append_left _ hc) c' hc'
  have hc9 : ∀ {q1 : kP}, gle (kf q) (kf q1) → q.ce + c0 + (q1.ce - q.ce) = q1.ce + c0 ∧ q.sl + s0 + (q1.sl - q.sl) = q1.sl + s0 := fun {q1} h => by
    have a1 : q.ce ≤ q1.ce := h.2.1
    have a2 : q.sl ≤ q1.sl := h.2.2
    omega
  have C1 : gC (kE G) 1000 yLaw p R s m args meth c A := C
  refine L_V (E := kE G) (y := yLaw) (cr := 0) (ci := 11) (f := kf q) (ad := ak) C1 hPk hS hls [] 900 (by rw [← e0]; rfl) hd hM rfl kk_0 hcl l0 (by omega) hfit hcat k (fun o x1 f1 h => by obtain ⟨r, q1, h1, -⟩ := h; exact ⟨r, h1⟩) (fun o x1 f1 h hle => ?_) (fun r x1 f1 ad1 H1 locs1 h hle hex hPn hkp hS1 => ?_)
  · obtain ⟨r, q1, -, rfl, hu1, hk1, -⟩ := h
    obtain ⟨a1, a2⟩ := hc9 hle
    obtain ⟨b1, b2⟩ := hroom q1 hu1 hk1
    exact ⟨by show q.ce + c0 + (q1.ce - q.ce) ≤ _; rw [a1]; exact b1, by show q.sl + s0 + (q1.sl - q.sl) ≤ _; rw [a2]; exact b2⟩
  · obtain ⟨r', q1, hr, rfl, hu1, hk1, hH1, hp1⟩ := h
    cases hr
    obtain ⟨a1, a2⟩ := hc9 hle
    obtain ⟨kp1, kp2⟩ := keep2 hP2 hdk hkp hPn
    obtain ⟨ko1, ko2⟩ := keep2 hPO hdO hkp hPn
    have hin := gA_in (sz := H.size) hPk (fun q hq => C.2.2.2.2 q (Nat.le_trans hS.1 hq))
    have n1 := n299 hu1
    have hPx := fo_mv n1 (kU_NR hu1 n1) hPn hin ko1 ko2
    have ne : ∀ c ∈ (kf q1).2.1, ¬ c = 299 := fun c hc e => n1 (e ▸ hc)
    have hkk := kk r (xo x x1) x1 q1 H1 locs1 ⟨ao ak ad1, am, hPx, kp1, fun c hc c' hc' => by
      rcases List.mem_append.mp hc with h | h
      · rw [show ao ak ad1 c = ad1 c from if_neg (ne c h)]; exact kp2 c h c' hc'
      · rw [List.mem_singleton.mp h, show ao ak ad1 299 = ak 299 from if_pos rfl]; exact hdis 299 l9 c' hc', by
      rw [show ao ak ad1 0 = ad1 0 from if_neg (by omega), hex.1 0 l0]; exact e0, by
      rw [show ao ak ad1 299 = ak 299 from if_pos rfl]; exact e9, em⟩ hu1 hk1 (HOI_1 rfl hu1 hH1) hp1 rfl hS1
    show W p G.1 e R s m args below meth c H1 locs1 (q.ce + c0 + (q1.ce - q.ce)) (q.sl + s0 + (q1.sl - q.sl)) Q _
    rw [a1, a2]; exact hkk
/-- a method of the model is called -/
theorem LI_M {idx n : Nat} {F : Int32 → gd → Prop} {cells slots d1 : Nat} (C : gC (wE (kE G)) 1000 yLaw p R s m args meth c A) (hI : LI G A H x q w x0 m0 o0) (hS : va_S A s.heap H locs) (hls : ls.size = 7) (As : List gv) (vs : List Value) (hvs : ∀ ad : Nat → Nat, As.map (gcv ad) = vs) (hd : decode cL_law pc = .ok (.invokevirtual idx, 3)) (hM : gMv RL idx z n) (hn : As.length = n) (hcl : (vwCl[12]?).map (fun r => r.1) = some z.1.cls) (hfit : gsz (vr 0 :: As) ≤ z.2.2.1) (hcat : (restv.map fun v => v.category).sum ≤ 8) (hd1 : d1 ≤ 900)
    (k : MT (mg G) d1 z 0 (glv 0 (vr 0 :: As)) [] w (ri F)) (hroom : cells ≤ R.cells ∧ slots ≤ R.slots)
    (kk : ∀ (r : Int32) (w1 : gd) (H1 : Heap) (locs1 : List Loc), LI G A H1 x q w1 x0 m0 o0 → F r w1 → va_S A s.heap H1 locs1 → W p G.1 e R s m args below meth c H1 locs1 cells slots Q (F0 m (pc + 3) ls (.int r :: restv))) :
    W p G.1 e R s m args below meth c H locs cells slots Q (F0 m pc ls (vs.reverse ++ .ref m0 :: restv)) := by
  obtain ⟨ak, am, hP1, hP2, hdis, e0, e9, em⟩ := hI
  have l0 : 0 ∈ (mf (mg G)).2.1 := ml_0
  have C1 : gC (mE (mg G)) 1000 yLaw p R s m args meth c A := C
  refine L_V (E := mE (mg G)) (y := yLaw) (cr := 0) (ci := 12) (f := mf (mg G)) (ad := am) C1 hP2 hS hls As d1 (by rw [← em, hvs]) hd hM hn mk_0 hcl l0 (by omega) hfit hcat k (fun o x1 f1 h => by obtain ⟨-, v, rfl, r, rfl, -⟩ := h; exact ⟨r, rfl⟩) (fun o x1 f1 h hle => ?_) (fun r x1 f1 ad1 H1 locs1 h hle hex hPn hkp hS1 => ?_)
  · obtain ⟨rfl, -⟩ := h
    exact hroom
  · obtain ⟨rfl, v, hv, r', hr, hF⟩ := h
    cases hv
    cases hr
    obtain ⟨kp1, kp2⟩ := keep2 hP1 (gdis_s hdis) hkp hPn
    have hin := gA_in (sz := H.size) hP2 (fun q hq => C.2.2.2.2 q (Nat.le_trans hS.1 hq))
    exact kk r x1 H1 locs1 ⟨ak, ad1, kp1, gP_w hPn hin, gdis_s kp2, e0, e9, (hex.1 0 l0).trans em⟩ hF hS1
/-- what a helper left is read -/
theorem LI_O {c0 s0 : Nat} {restv : List Value} (C : gC (wE (kE G)) 1000 yLaw p R s m args meth c A) (hI : LI G A H x q w x0 m0 o0) (hd : decode cL_law pc = .ok (.laload, 1)) (kk : W p G.1 e R s m args below meth c H locs c0 s0 Q (F0 m (pc + 1) ls (.long (x.2 299 (0 : Int32).toNatClampNeg) :: restv))) : W p G.1 e R s m args below meth c H locs c0 s0 Q (F0 m pc ls (.int 0 :: .ref o0 :: restv)) := by
  obtain ⟨ak, am, hP1, hP2, hdis, e0, e9, em⟩ := hI
  have l9 : 299 ∈ (fo (kf q)).2.1 := List.mem_append_right _ (List.mem_singleton.mpr rfl)
  obtain ⟨i, -, hi⟩ := gwl_at (E := wE (kE G)) (x := x) (ad := ak) l9
  rw [gce_arr wE_9] at hi
  rw [← e9]
  exact va_lald C.1.1 C.1.2.1 C.2.2.2.1.1 hP1.1.1 i 3 hi rfl (vin0 (by omega)) hd kk
theorem lg_self (a : Int64) : lg_cmp a a = 0 := by
  unfold lg_cmp
  rw [if_neg (fun h => by rw [gt_iff_lt, Int64.lt_iff_toInt_lt] at h; omega), if_pos rfl]
theorem sp_thrown {G : mG} {d : Nat} {w : gd} {F : Int32 → gd → Prop} (h : F (w.1 0 0) w) : MT G (d + 1) z_thrown 0 [(0, vr 0)] [] w (ri F) := sg_thrown_0 ⟨_, rfl, h⟩
end LAX
end
section
set_option maxRecDepth 100000 in
theorem dlw_0 : decode cL_law 0 = .ok (.new 8, 3) := by decide +kernel
set_option maxRecDepth 100000 in
theorem dlw_3 : decode cL_law 3 = .ok (.dup, 1) := by decide +kernel
set_option maxRecDepth 100000 in
theorem dlw_4 : decode cL_law 4 = .ok (.invokespecial 99, 3) := by decide +kernel
set_option maxRecDepth 100000 in
theorem dlw_7 : decode cL_law 7 = .ok (.astore_n 1, 1) := by decide +kernel
set_option maxRecDepth 100000 in
theorem dlw_8 : decode cL_law 8 = .ok (.new 100, 3) := by decide +kernel
set_option maxRecDepth 100000 in
theorem dlw_11 : decode cL_law 11 = .ok (.dup, 1) := by decide +kernel
set_option maxRecDepth 100000 in
theorem dlw_12 : decode cL_law 12 = .ok (.invokespecial 102, 3) := by decide +kernel
set_option maxRecDepth 100000 in
theorem dlw_15 : decode cL_law 15 = .ok (.astore_n 2, 1) := by decide +kernel
set_option maxRecDepth 100000 in
theorem dlw_16 : decode cL_law 16 = .ok (.iconst 1, 1) := by decide +kernel
set_option maxRecDepth 100000 in
theorem dlw_17 : decode cL_law 17 = .ok (.newarray .long, 2) := by decide +kernel
set_option maxRecDepth 100000 in
theorem dlw_19 : decode cL_law 19 = .ok (.astore_n 3, 1) := by decide +kernel
set_option maxRecDepth 100000 in
theorem dlw_20 : decode cL_law 20 = .ok (.iconst 0, 1) := by decide +kernel
set_option maxRecDepth 100000 in
theorem dlw_21 : decode cL_law 21 = .ok (.istore 4, 2) := by decide +kernel
set_option maxRecDepth 100000 in
theorem dlw_23 : decode cL_law 23 = .ok (.iload 4, 2) := by decide +kernel
set_option maxRecDepth 100000 in
theorem dlw_25 : decode cL_law 25 = .ok (.aload_n 0, 1) := by decide +kernel
set_option maxRecDepth 100000 in
theorem dlw_26 : decode cL_law 26 = .ok (.arraylength, 1) := by decide +kernel
set_option maxRecDepth 100000 in
theorem dlw_27 : decode cL_law 27 = .ok (.iconst 4, 1) := by decide +kernel
set_option maxRecDepth 100000 in
theorem dlw_28 : decode cL_law 28 = .ok (.isub, 1) := by decide +kernel
set_option maxRecDepth 100000 in
theorem dlw_29 : decode cL_law 29 = .ok (.if_icmp .gt 1164, 3) := by decide +kernel
set_option maxRecDepth 100000 in
theorem dlw_32 : decode cL_law 32 = .ok (.aload_n 0, 1) := by decide +kernel
set_option maxRecDepth 100000 in
theorem dlw_33 : decode cL_law 33 = .ok (.iload 4, 2) := by decide +kernel
set_option maxRecDepth 100000 in
theorem dlw_35 : decode cL_law 35 = .ok (.iaload, 1) := by decide +kernel
set_option maxRecDepth 100000 in
theorem dlw_36 : decode cL_law 36 = .ok (.bipush 31, 2) := by decide +kernel
set_option maxRecDepth 100000 in
theorem dlw_38 : decode cL_law 38 = .ok (.iand, 1) := by decide +kernel
set_option maxRecDepth 100000 in
theorem dlw_39 : decode cL_law 39 = .ok (.tableswitch 1148 0 28 #[129, 201, 214, 227, 255, 283, 311, 327, 367, 395, 435, 463, 491, 519, 559, 599, 639, 679, 719, 759, 799, 827, 867, 935, 987, 1027, 1067, 1107, 1135], 129) := by decide +kernel
set_option maxRecDepth 100000 in
theorem dlw_168 : decode cL_law 168 = .ok (.aload_n 1, 1) := by decide +kernel
set_option maxRecDepth 100000 in
theorem dlw_169 : decode cL_law 169 = .ok (.aload_n 0, 1) := by decide +kernel
set_option maxRecDepth 100000 in
theorem dlw_170 : decode cL_law 170 = .ok (.iload 4, 2) := by decide +kernel
set_option maxRecDepth 100000 in
theorem dlw_172 : decode cL_law 172 = .ok (.iconst 1, 1) := by decide +kernel
set_option maxRecDepth 100000 in
theorem dlw_173 : decode cL_law 173 = .ok (.iadd, 1) := by decide +kernel
set_option maxRecDepth 100000 in
theorem dlw_174 : decode cL_law 174 = .ok (.iaload, 1) := by decide +kernel
set_option maxRecDepth 100000 in
theorem dlw_175 : decode cL_law 175 = .ok (.aload_n 0, 1) := by decide +kernel
set_option maxRecDepth 100000 in
theorem dlw_176 : decode cL_law 176 = .ok (.iload 4, 2) := by decide +kernel
set_option maxRecDepth 100000 in
theorem dlw_178 : decode cL_law 178 = .ok (.iconst 2, 1) := by decide +kernel
set_option maxRecDepth 100000 in
theorem dlw_179 : decode cL_law 179 = .ok (.iadd, 1) := by decide +kernel
set_option maxRecDepth 100000 in
theorem dlw_180 : decode cL_law 180 = .ok (.iaload, 1) := by decide +kernel
set_option maxRecDepth 100000 in
theorem dlw_181 : decode cL_law 181 = .ok (.i2l, 1) := by decide +kernel
set_option maxRecDepth 100000 in
theorem dlw_182 : decode cL_law 182 = .ok (.bipush 32, 2) := by decide +kernel
set_option maxRecDepth 100000 in
theorem dlw_184 : decode cL_law 184 = .ok (.lshl, 1) := by decide +kernel
set_option maxRecDepth 100000 in
theorem dlw_185 : decode cL_law 185 = .ok (.aload_n 0, 1) := by decide +kernel
set_option maxRecDepth 100000 in
theorem dlw_186 : decode cL_law 186 = .ok (.iload 4, 2) := by decide +kernel
set_option maxRecDepth 100000 in
theorem dlw_188 : decode cL_law 188 = .ok (.iconst 3, 1) := by decide +kernel
set_option maxRecDepth 100000 in
theorem dlw_189 : decode cL_law 189 = .ok (.iadd, 1) := by decide +kernel
set_option maxRecDepth 100000 in
theorem dlw_190 : decode cL_law 190 = .ok (.iaload, 1) := by decide +kernel
set_option maxRecDepth 100000 in
theorem dlw_191 : decode cL_law 191 = .ok (.i2l, 1) := by decide +kernel
set_option maxRecDepth 100000 in
theorem dlw_192 : decode cL_law 192 = .ok (.ldc2_w 103, 3) := by decide +kernel
set_option maxRecDepth 100000 in
theorem dlw_195 : decode cL_law 195 = .ok (.land, 1) := by decide +kernel
set_option maxRecDepth 100000 in
theorem dlw_196 : decode cL_law 196 = .ok (.lor, 1) := by decide +kernel
set_option maxRecDepth 100000 in
theorem dlw_197 : decode cL_law 197 = .ok (.aload_n 3, 1) := by decide +kernel
set_option maxRecDepth 100000 in
theorem dlw_198 : decode cL_law 198 = .ok (.invokestatic 105, 3) := by decide +kernel
set_option maxRecDepth 100000 in
theorem dlw_201 : decode cL_law 201 = .ok (.istore 5, 2) := by decide +kernel
set_option maxRecDepth 100000 in
theorem dlw_203 : decode cL_law 203 = .ok (.aload_n 2, 1) := by decide +kernel
set_option maxRecDepth 100000 in
theorem dlw_204 : decode cL_law 204 = .ok (.aload_n 0, 1) := by decide +kernel
set_option maxRecDepth 100000 in
theorem dlw_205 : decode cL_law 205 = .ok (.iload 4, 2) := by decide +kernel
set_option maxRecDepth 100000 in
theorem dlw_207 : decode cL_law 207 = .ok (.iconst 1, 1) := by decide +kernel
set_option maxRecDepth 100000 in
theorem dlw_208 : decode cL_law 208 = .ok (.iadd, 1) := by decide +kernel
set_option maxRecDepth 100000 in
theorem dlw_209 : decode cL_law 209 = .ok (.iaload, 1) := by decide +kernel
set_option maxRecDepth 100000 in
theorem dlw_210 : decode cL_law 210 = .ok (.aload_n 0, 1) := by decide +kernel
set_option maxRecDepth 100000 in
theorem dlw_211 : decode cL_law 211 = .ok (.iload 4, 2) := by decide +kernel
set_option maxRecDepth 100000 in
theorem dlw_213 : decode cL_law 213 = .ok (.iconst 2, 1) := by decide +kernel
set_option maxRecDepth 100000 in
theorem dlw_214 : decode cL_law 214 = .ok (.iadd, 1) := by decide +kernel
set_option maxRecDepth 100000 in
theorem dlw_215 : decode cL_law 215 = .ok (.iaload, 1) := by decide +kernel
set_option maxRecDepth 100000 in
theorem dlw_216 : decode cL_law 216 = .ok (.i2l, 1) := by decide +kernel
set_option maxRecDepth 100000 in
theorem dlw_217 : decode cL_law 217 = .ok (.bipush 32, 2) := by decide +kernel
set_option maxRecDepth 100000 in
theorem dlw_219 : decode cL_law 219 = .ok (.lshl, 1) := by decide +kernel
set_option maxRecDepth 100000 in
theorem dlw_220 : decode cL_law 220 = .ok (.aload_n 0, 1) := by decide +kernel
set_option maxRecDepth 100000 in
theorem dlw_221 : decode cL_law 221 = .ok (.iload 4, 2) := by decide +kernel
set_option maxRecDepth 100000 in
theorem dlw_223 : decode cL_law 223 = .ok (.iconst 3, 1) := by decide +kernel
set_option maxRecDepth 100000 in
theorem dlw_224 : decode cL_law 224 = .ok (.iadd, 1) := by decide +kernel
set_option maxRecDepth 100000 in
theorem dlw_225 : decode cL_law 225 = .ok (.iaload, 1) := by decide +kernel
set_option maxRecDepth 100000 in
theorem dlw_226 : decode cL_law 226 = .ok (.i2l, 1) := by decide +kernel
set_option maxRecDepth 100000 in
theorem dlw_227 : decode cL_law 227 = .ok (.ldc2_w 103, 3) := by decide +kernel
set_option maxRecDepth 100000 in
theorem dlw_230 : decode cL_law 230 = .ok (.land, 1) := by decide +kernel
set_option maxRecDepth 100000 in
theorem dlw_231 : decode cL_law 231 = .ok (.lor, 1) := by decide +kernel
set_option maxRecDepth 100000 in
theorem dlw_232 : decode cL_law 232 = .ok (.invokevirtual 110, 3) := by decide +kernel
set_option maxRecDepth 100000 in
theorem dlw_235 : decode cL_law 235 = .ok (.istore 6, 2) := by decide +kernel
set_option maxRecDepth 100000 in
theorem dlw_237 : decode cL_law 237 = .ok (.goto 950, 3) := by decide +kernel
set_option maxRecDepth 100000 in
theorem dlw_240 : decode cL_law 240 = .ok (.aload_n 1, 1) := by decide +kernel
set_option maxRecDepth 100000 in
theorem dlw_241 : decode cL_law 241 = .ok (.invokevirtual 111, 3) := by decide +kernel
set_option maxRecDepth 100000 in
theorem dlw_244 : decode cL_law 244 = .ok (.pop, 1) := by decide +kernel
set_option maxRecDepth 100000 in
theorem dlw_245 : decode cL_law 245 = .ok (.aload_n 2, 1) := by decide +kernel
set_option maxRecDepth 100000 in
theorem dlw_246 : decode cL_law 246 = .ok (.invokevirtual 114, 3) := by decide +kernel
set_option maxRecDepth 100000 in
theorem dlw_249 : decode cL_law 249 = .ok (.pop, 1) := by decide +kernel
set_option maxRecDepth 100000 in
theorem dlw_250 : decode cL_law 250 = .ok (.goto 937, 3) := by decide +kernel
set_option maxRecDepth 100000 in
theorem dlw_253 : decode cL_law 253 = .ok (.aload_n 1, 1) := by decide +kernel
set_option maxRecDepth 100000 in
theorem dlw_254 : decode cL_law 254 = .ok (.invokevirtual 115, 3) := by decide +kernel
set_option maxRecDepth 100000 in
theorem dlw_257 : decode cL_law 257 = .ok (.pop, 1) := by decide +kernel
set_option maxRecDepth 100000 in
theorem dlw_258 : decode cL_law 258 = .ok (.aload_n 2, 1) := by decide +kernel
set_option maxRecDepth 100000 in
theorem dlw_259 : decode cL_law 259 = .ok (.invokevirtual 118, 3) := by decide +kernel
set_option maxRecDepth 100000 in
theorem dlw_262 : decode cL_law 262 = .ok (.pop, 1) := by decide +kernel
set_option maxRecDepth 100000 in
theorem dlw_263 : decode cL_law 263 = .ok (.goto 924, 3) := by decide +kernel
set_option maxRecDepth 100000 in
theorem dlw_266 : decode cL_law 266 = .ok (.aload_n 1, 1) := by decide +kernel
set_option maxRecDepth 100000 in
theorem dlw_267 : decode cL_law 267 = .ok (.aload_n 0, 1) := by decide +kernel
set_option maxRecDepth 100000 in
theorem dlw_268 : decode cL_law 268 = .ok (.iload 4, 2) := by decide +kernel
set_option maxRecDepth 100000 in
theorem dlw_270 : decode cL_law 270 = .ok (.iconst 1, 1) := by decide +kernel
set_option maxRecDepth 100000 in
theorem dlw_271 : decode cL_law 271 = .ok (.iadd, 1) := by decide +kernel
set_option maxRecDepth 100000 in
theorem dlw_272 : decode cL_law 272 = .ok (.iaload, 1) := by decide +kernel
set_option maxRecDepth 100000 in
theorem dlw_273 : decode cL_law 273 = .ok (.aload_n 3, 1) := by decide +kernel
set_option maxRecDepth 100000 in
theorem dlw_274 : decode cL_law 274 = .ok (.invokestatic 119, 3) := by decide +kernel
set_option maxRecDepth 100000 in
theorem dlw_277 : decode cL_law 277 = .ok (.istore 5, 2) := by decide +kernel
set_option maxRecDepth 100000 in
theorem dlw_279 : decode cL_law 279 = .ok (.aload_n 2, 1) := by decide +kernel
set_option maxRecDepth 100000 in
theorem dlw_280 : decode cL_law 280 = .ok (.aload_n 0, 1) := by decide +kernel
set_option maxRecDepth 100000 in
theorem dlw_281 : decode cL_law 281 = .ok (.iload 4, 2) := by decide +kernel
set_option maxRecDepth 100000 in
theorem dlw_283 : decode cL_law 283 = .ok (.iconst 1, 1) := by decide +kernel
set_option maxRecDepth 100000 in
theorem dlw_284 : decode cL_law 284 = .ok (.iadd, 1) := by decide +kernel
set_option maxRecDepth 100000 in
theorem dlw_285 : decode cL_law 285 = .ok (.iaload, 1) := by decide +kernel
set_option maxRecDepth 100000 in
theorem dlw_286 : decode cL_law 286 = .ok (.invokevirtual 122, 3) := by decide +kernel
set_option maxRecDepth 100000 in
theorem dlw_289 : decode cL_law 289 = .ok (.istore 6, 2) := by decide +kernel
set_option maxRecDepth 100000 in
theorem dlw_291 : decode cL_law 291 = .ok (.goto 896, 3) := by decide +kernel
set_option maxRecDepth 100000 in
theorem dlw_294 : decode cL_law 294 = .ok (.aload_n 1, 1) := by decide +kernel
set_option maxRecDepth 100000 in
theorem dlw_295 : decode cL_law 295 = .ok (.aload_n 0, 1) := by decide +kernel
set_option maxRecDepth 100000 in
theorem dlw_296 : decode cL_law 296 = .ok (.iload 4, 2) := by decide +kernel
set_option maxRecDepth 100000 in
theorem dlw_298 : decode cL_law 298 = .ok (.iconst 1, 1) := by decide +kernel
set_option maxRecDepth 100000 in
theorem dlw_299 : decode cL_law 299 = .ok (.iadd, 1) := by decide +kernel
set_option maxRecDepth 100000 in
theorem dlw_300 : decode cL_law 300 = .ok (.iaload, 1) := by decide +kernel
set_option maxRecDepth 100000 in
theorem dlw_301 : decode cL_law 301 = .ok (.aload_n 3, 1) := by decide +kernel
set_option maxRecDepth 100000 in
theorem dlw_302 : decode cL_law 302 = .ok (.invokestatic 123, 3) := by decide +kernel
set_option maxRecDepth 100000 in
theorem dlw_305 : decode cL_law 305 = .ok (.istore 5, 2) := by decide +kernel
set_option maxRecDepth 100000 in
theorem dlw_307 : decode cL_law 307 = .ok (.aload_n 2, 1) := by decide +kernel
set_option maxRecDepth 100000 in
theorem dlw_308 : decode cL_law 308 = .ok (.aload_n 0, 1) := by decide +kernel
set_option maxRecDepth 100000 in
theorem dlw_309 : decode cL_law 309 = .ok (.iload 4, 2) := by decide +kernel
set_option maxRecDepth 100000 in
theorem dlw_311 : decode cL_law 311 = .ok (.iconst 1, 1) := by decide +kernel
set_option maxRecDepth 100000 in
theorem dlw_312 : decode cL_law 312 = .ok (.iadd, 1) := by decide +kernel
set_option maxRecDepth 100000 in
theorem dlw_313 : decode cL_law 313 = .ok (.iaload, 1) := by decide +kernel
set_option maxRecDepth 100000 in
theorem dlw_314 : decode cL_law 314 = .ok (.invokevirtual 125, 3) := by decide +kernel
set_option maxRecDepth 100000 in
theorem dlw_317 : decode cL_law 317 = .ok (.istore 6, 2) := by decide +kernel
set_option maxRecDepth 100000 in
theorem dlw_319 : decode cL_law 319 = .ok (.goto 868, 3) := by decide +kernel
set_option maxRecDepth 100000 in
theorem dlw_322 : decode cL_law 322 = .ok (.aload_n 1, 1) := by decide +kernel
set_option maxRecDepth 100000 in
theorem dlw_323 : decode cL_law 323 = .ok (.aload_n 0, 1) := by decide +kernel
set_option maxRecDepth 100000 in
theorem dlw_324 : decode cL_law 324 = .ok (.iload 4, 2) := by decide +kernel
set_option maxRecDepth 100000 in
theorem dlw_326 : decode cL_law 326 = .ok (.iconst 1, 1) := by decide +kernel
set_option maxRecDepth 100000 in
theorem dlw_327 : decode cL_law 327 = .ok (.iadd, 1) := by decide +kernel
set_option maxRecDepth 100000 in
theorem dlw_328 : decode cL_law 328 = .ok (.iaload, 1) := by decide +kernel
set_option maxRecDepth 100000 in
theorem dlw_329 : decode cL_law 329 = .ok (.aload_n 3, 1) := by decide +kernel
set_option maxRecDepth 100000 in
theorem dlw_330 : decode cL_law 330 = .ok (.invokestatic 126, 3) := by decide +kernel
set_option maxRecDepth 100000 in
theorem dlw_333 : decode cL_law 333 = .ok (.istore 5, 2) := by decide +kernel
set_option maxRecDepth 100000 in
theorem dlw_335 : decode cL_law 335 = .ok (.aload_n 2, 1) := by decide +kernel
set_option maxRecDepth 100000 in
theorem dlw_336 : decode cL_law 336 = .ok (.aload_n 0, 1) := by decide +kernel
set_option maxRecDepth 100000 in
theorem dlw_337 : decode cL_law 337 = .ok (.iload 4, 2) := by decide +kernel
set_option maxRecDepth 100000 in
theorem dlw_339 : decode cL_law 339 = .ok (.iconst 1, 1) := by decide +kernel
set_option maxRecDepth 100000 in
theorem dlw_340 : decode cL_law 340 = .ok (.iadd, 1) := by decide +kernel
set_option maxRecDepth 100000 in
theorem dlw_341 : decode cL_law 341 = .ok (.iaload, 1) := by decide +kernel
set_option maxRecDepth 100000 in
theorem dlw_342 : decode cL_law 342 = .ok (.invokevirtual 128, 3) := by decide +kernel
set_option maxRecDepth 100000 in
theorem dlw_345 : decode cL_law 345 = .ok (.istore 6, 2) := by decide +kernel
set_option maxRecDepth 100000 in
theorem dlw_347 : decode cL_law 347 = .ok (.goto 840, 3) := by decide +kernel
set_option maxRecDepth 100000 in
theorem dlw_350 : decode cL_law 350 = .ok (.aload_n 1, 1) := by decide +kernel
set_option maxRecDepth 100000 in
theorem dlw_351 : decode cL_law 351 = .ok (.aload_n 3, 1) := by decide +kernel
set_option maxRecDepth 100000 in
theorem dlw_352 : decode cL_law 352 = .ok (.invokestatic 129, 3) := by decide +kernel
set_option maxRecDepth 100000 in
theorem dlw_355 : decode cL_law 355 = .ok (.istore 5, 2) := by decide +kernel
set_option maxRecDepth 100000 in
theorem dlw_357 : decode cL_law 357 = .ok (.aload_n 2, 1) := by decide +kernel
end
section
set_option maxRecDepth 100000 in
theorem dlw_358 : decode cL_law 358 = .ok (.invokevirtual 132, 3) := by decide +kernel
set_option maxRecDepth 100000 in
theorem dlw_361 : decode cL_law 361 = .ok (.istore 6, 2) := by decide +kernel
set_option maxRecDepth 100000 in
theorem dlw_363 : decode cL_law 363 = .ok (.goto 824, 3) := by decide +kernel
set_option maxRecDepth 100000 in
theorem dlw_366 : decode cL_law 366 = .ok (.aload_n 1, 1) := by decide +kernel
set_option maxRecDepth 100000 in
theorem dlw_367 : decode cL_law 367 = .ok (.aload_n 0, 1) := by decide +kernel
set_option maxRecDepth 100000 in
theorem dlw_368 : decode cL_law 368 = .ok (.iload 4, 2) := by decide +kernel
set_option maxRecDepth 100000 in
theorem dlw_370 : decode cL_law 370 = .ok (.iconst 1, 1) := by decide +kernel
set_option maxRecDepth 100000 in
theorem dlw_371 : decode cL_law 371 = .ok (.iadd, 1) := by decide +kernel
set_option maxRecDepth 100000 in
theorem dlw_372 : decode cL_law 372 = .ok (.iaload, 1) := by decide +kernel
set_option maxRecDepth 100000 in
theorem dlw_373 : decode cL_law 373 = .ok (.aload_n 0, 1) := by decide +kernel
set_option maxRecDepth 100000 in
theorem dlw_374 : decode cL_law 374 = .ok (.iload 4, 2) := by decide +kernel
set_option maxRecDepth 100000 in
theorem dlw_376 : decode cL_law 376 = .ok (.iconst 2, 1) := by decide +kernel
set_option maxRecDepth 100000 in
theorem dlw_377 : decode cL_law 377 = .ok (.iadd, 1) := by decide +kernel
set_option maxRecDepth 100000 in
theorem dlw_378 : decode cL_law 378 = .ok (.iaload, 1) := by decide +kernel
set_option maxRecDepth 100000 in
theorem dlw_379 : decode cL_law 379 = .ok (.aload_n 3, 1) := by decide +kernel
set_option maxRecDepth 100000 in
theorem dlw_380 : decode cL_law 380 = .ok (.invokestatic 133, 3) := by decide +kernel
set_option maxRecDepth 100000 in
theorem dlw_383 : decode cL_law 383 = .ok (.istore 5, 2) := by decide +kernel
set_option maxRecDepth 100000 in
theorem dlw_385 : decode cL_law 385 = .ok (.aload_n 2, 1) := by decide +kernel
set_option maxRecDepth 100000 in
theorem dlw_386 : decode cL_law 386 = .ok (.aload_n 0, 1) := by decide +kernel
set_option maxRecDepth 100000 in
theorem dlw_387 : decode cL_law 387 = .ok (.iload 4, 2) := by decide +kernel
set_option maxRecDepth 100000 in
theorem dlw_389 : decode cL_law 389 = .ok (.iconst 1, 1) := by decide +kernel
set_option maxRecDepth 100000 in
theorem dlw_390 : decode cL_law 390 = .ok (.iadd, 1) := by decide +kernel
set_option maxRecDepth 100000 in
theorem dlw_391 : decode cL_law 391 = .ok (.iaload, 1) := by decide +kernel
set_option maxRecDepth 100000 in
theorem dlw_392 : decode cL_law 392 = .ok (.aload_n 0, 1) := by decide +kernel
set_option maxRecDepth 100000 in
theorem dlw_393 : decode cL_law 393 = .ok (.iload 4, 2) := by decide +kernel
set_option maxRecDepth 100000 in
theorem dlw_395 : decode cL_law 395 = .ok (.iconst 2, 1) := by decide +kernel
set_option maxRecDepth 100000 in
theorem dlw_396 : decode cL_law 396 = .ok (.iadd, 1) := by decide +kernel
set_option maxRecDepth 100000 in
theorem dlw_397 : decode cL_law 397 = .ok (.iaload, 1) := by decide +kernel
set_option maxRecDepth 100000 in
theorem dlw_398 : decode cL_law 398 = .ok (.invokevirtual 136, 3) := by decide +kernel
set_option maxRecDepth 100000 in
theorem dlw_401 : decode cL_law 401 = .ok (.istore 6, 2) := by decide +kernel
set_option maxRecDepth 100000 in
theorem dlw_403 : decode cL_law 403 = .ok (.goto 784, 3) := by decide +kernel
set_option maxRecDepth 100000 in
theorem dlw_406 : decode cL_law 406 = .ok (.aload_n 1, 1) := by decide +kernel
set_option maxRecDepth 100000 in
theorem dlw_407 : decode cL_law 407 = .ok (.aload_n 0, 1) := by decide +kernel
set_option maxRecDepth 100000 in
theorem dlw_408 : decode cL_law 408 = .ok (.iload 4, 2) := by decide +kernel
set_option maxRecDepth 100000 in
theorem dlw_410 : decode cL_law 410 = .ok (.iconst 1, 1) := by decide +kernel
set_option maxRecDepth 100000 in
theorem dlw_411 : decode cL_law 411 = .ok (.iadd, 1) := by decide +kernel
set_option maxRecDepth 100000 in
theorem dlw_412 : decode cL_law 412 = .ok (.iaload, 1) := by decide +kernel
set_option maxRecDepth 100000 in
theorem dlw_413 : decode cL_law 413 = .ok (.aload_n 3, 1) := by decide +kernel
set_option maxRecDepth 100000 in
theorem dlw_414 : decode cL_law 414 = .ok (.invokestatic 137, 3) := by decide +kernel
set_option maxRecDepth 100000 in
theorem dlw_417 : decode cL_law 417 = .ok (.istore 5, 2) := by decide +kernel
set_option maxRecDepth 100000 in
theorem dlw_419 : decode cL_law 419 = .ok (.aload_n 2, 1) := by decide +kernel
set_option maxRecDepth 100000 in
theorem dlw_420 : decode cL_law 420 = .ok (.aload_n 0, 1) := by decide +kernel
set_option maxRecDepth 100000 in
theorem dlw_421 : decode cL_law 421 = .ok (.iload 4, 2) := by decide +kernel
set_option maxRecDepth 100000 in
theorem dlw_423 : decode cL_law 423 = .ok (.iconst 1, 1) := by decide +kernel
set_option maxRecDepth 100000 in
theorem dlw_424 : decode cL_law 424 = .ok (.iadd, 1) := by decide +kernel
set_option maxRecDepth 100000 in
theorem dlw_425 : decode cL_law 425 = .ok (.iaload, 1) := by decide +kernel
set_option maxRecDepth 100000 in
theorem dlw_426 : decode cL_law 426 = .ok (.invokevirtual 139, 3) := by decide +kernel
set_option maxRecDepth 100000 in
theorem dlw_429 : decode cL_law 429 = .ok (.istore 6, 2) := by decide +kernel
set_option maxRecDepth 100000 in
theorem dlw_431 : decode cL_law 431 = .ok (.goto 756, 3) := by decide +kernel
set_option maxRecDepth 100000 in
theorem dlw_434 : decode cL_law 434 = .ok (.aload_n 1, 1) := by decide +kernel
set_option maxRecDepth 100000 in
theorem dlw_435 : decode cL_law 435 = .ok (.aload_n 0, 1) := by decide +kernel
set_option maxRecDepth 100000 in
theorem dlw_436 : decode cL_law 436 = .ok (.iload 4, 2) := by decide +kernel
set_option maxRecDepth 100000 in
theorem dlw_438 : decode cL_law 438 = .ok (.iconst 1, 1) := by decide +kernel
set_option maxRecDepth 100000 in
theorem dlw_439 : decode cL_law 439 = .ok (.iadd, 1) := by decide +kernel
set_option maxRecDepth 100000 in
theorem dlw_440 : decode cL_law 440 = .ok (.iaload, 1) := by decide +kernel
set_option maxRecDepth 100000 in
theorem dlw_441 : decode cL_law 441 = .ok (.aload_n 0, 1) := by decide +kernel
set_option maxRecDepth 100000 in
theorem dlw_442 : decode cL_law 442 = .ok (.iload 4, 2) := by decide +kernel
set_option maxRecDepth 100000 in
theorem dlw_444 : decode cL_law 444 = .ok (.iconst 2, 1) := by decide +kernel
set_option maxRecDepth 100000 in
theorem dlw_445 : decode cL_law 445 = .ok (.iadd, 1) := by decide +kernel
set_option maxRecDepth 100000 in
theorem dlw_446 : decode cL_law 446 = .ok (.iaload, 1) := by decide +kernel
set_option maxRecDepth 100000 in
theorem dlw_447 : decode cL_law 447 = .ok (.aload_n 3, 1) := by decide +kernel
set_option maxRecDepth 100000 in
theorem dlw_448 : decode cL_law 448 = .ok (.invokestatic 140, 3) := by decide +kernel
set_option maxRecDepth 100000 in
theorem dlw_451 : decode cL_law 451 = .ok (.istore 5, 2) := by decide +kernel
set_option maxRecDepth 100000 in
theorem dlw_453 : decode cL_law 453 = .ok (.aload_n 2, 1) := by decide +kernel
set_option maxRecDepth 100000 in
theorem dlw_454 : decode cL_law 454 = .ok (.aload_n 0, 1) := by decide +kernel
set_option maxRecDepth 100000 in
theorem dlw_455 : decode cL_law 455 = .ok (.iload 4, 2) := by decide +kernel
set_option maxRecDepth 100000 in
theorem dlw_457 : decode cL_law 457 = .ok (.iconst 1, 1) := by decide +kernel
set_option maxRecDepth 100000 in
theorem dlw_458 : decode cL_law 458 = .ok (.iadd, 1) := by decide +kernel
set_option maxRecDepth 100000 in
theorem dlw_459 : decode cL_law 459 = .ok (.iaload, 1) := by decide +kernel
set_option maxRecDepth 100000 in
theorem dlw_460 : decode cL_law 460 = .ok (.aload_n 0, 1) := by decide +kernel
set_option maxRecDepth 100000 in
theorem dlw_461 : decode cL_law 461 = .ok (.iload 4, 2) := by decide +kernel
set_option maxRecDepth 100000 in
theorem dlw_463 : decode cL_law 463 = .ok (.iconst 2, 1) := by decide +kernel
set_option maxRecDepth 100000 in
theorem dlw_464 : decode cL_law 464 = .ok (.iadd, 1) := by decide +kernel
set_option maxRecDepth 100000 in
theorem dlw_465 : decode cL_law 465 = .ok (.iaload, 1) := by decide +kernel
set_option maxRecDepth 100000 in
theorem dlw_466 : decode cL_law 466 = .ok (.invokevirtual 142, 3) := by decide +kernel
set_option maxRecDepth 100000 in
theorem dlw_469 : decode cL_law 469 = .ok (.istore 6, 2) := by decide +kernel
set_option maxRecDepth 100000 in
theorem dlw_471 : decode cL_law 471 = .ok (.goto 716, 3) := by decide +kernel
set_option maxRecDepth 100000 in
theorem dlw_474 : decode cL_law 474 = .ok (.aload_n 1, 1) := by decide +kernel
set_option maxRecDepth 100000 in
theorem dlw_475 : decode cL_law 475 = .ok (.aload_n 0, 1) := by decide +kernel
set_option maxRecDepth 100000 in
theorem dlw_476 : decode cL_law 476 = .ok (.iload 4, 2) := by decide +kernel
set_option maxRecDepth 100000 in
theorem dlw_478 : decode cL_law 478 = .ok (.iconst 1, 1) := by decide +kernel
set_option maxRecDepth 100000 in
theorem dlw_479 : decode cL_law 479 = .ok (.iadd, 1) := by decide +kernel
set_option maxRecDepth 100000 in
theorem dlw_480 : decode cL_law 480 = .ok (.iaload, 1) := by decide +kernel
set_option maxRecDepth 100000 in
theorem dlw_481 : decode cL_law 481 = .ok (.aload_n 3, 1) := by decide +kernel
set_option maxRecDepth 100000 in
theorem dlw_482 : decode cL_law 482 = .ok (.invokestatic 143, 3) := by decide +kernel
set_option maxRecDepth 100000 in
theorem dlw_485 : decode cL_law 485 = .ok (.istore 5, 2) := by decide +kernel
set_option maxRecDepth 100000 in
theorem dlw_487 : decode cL_law 487 = .ok (.aload_n 2, 1) := by decide +kernel
set_option maxRecDepth 100000 in
theorem dlw_488 : decode cL_law 488 = .ok (.aload_n 0, 1) := by decide +kernel
set_option maxRecDepth 100000 in
theorem dlw_489 : decode cL_law 489 = .ok (.iload 4, 2) := by decide +kernel
set_option maxRecDepth 100000 in
theorem dlw_491 : decode cL_law 491 = .ok (.iconst 1, 1) := by decide +kernel
set_option maxRecDepth 100000 in
theorem dlw_492 : decode cL_law 492 = .ok (.iadd, 1) := by decide +kernel
set_option maxRecDepth 100000 in
theorem dlw_493 : decode cL_law 493 = .ok (.iaload, 1) := by decide +kernel
set_option maxRecDepth 100000 in
theorem dlw_494 : decode cL_law 494 = .ok (.invokevirtual 145, 3) := by decide +kernel
set_option maxRecDepth 100000 in
theorem dlw_497 : decode cL_law 497 = .ok (.istore 6, 2) := by decide +kernel
set_option maxRecDepth 100000 in
theorem dlw_499 : decode cL_law 499 = .ok (.goto 688, 3) := by decide +kernel
set_option maxRecDepth 100000 in
theorem dlw_502 : decode cL_law 502 = .ok (.aload_n 1, 1) := by decide +kernel
set_option maxRecDepth 100000 in
theorem dlw_503 : decode cL_law 503 = .ok (.aload_n 0, 1) := by decide +kernel
set_option maxRecDepth 100000 in
theorem dlw_504 : decode cL_law 504 = .ok (.iload 4, 2) := by decide +kernel
set_option maxRecDepth 100000 in
theorem dlw_506 : decode cL_law 506 = .ok (.iconst 1, 1) := by decide +kernel
set_option maxRecDepth 100000 in
theorem dlw_507 : decode cL_law 507 = .ok (.iadd, 1) := by decide +kernel
set_option maxRecDepth 100000 in
theorem dlw_508 : decode cL_law 508 = .ok (.iaload, 1) := by decide +kernel
set_option maxRecDepth 100000 in
theorem dlw_509 : decode cL_law 509 = .ok (.aload_n 3, 1) := by decide +kernel
set_option maxRecDepth 100000 in
theorem dlw_510 : decode cL_law 510 = .ok (.invokestatic 146, 3) := by decide +kernel
set_option maxRecDepth 100000 in
theorem dlw_513 : decode cL_law 513 = .ok (.istore 5, 2) := by decide +kernel
set_option maxRecDepth 100000 in
theorem dlw_515 : decode cL_law 515 = .ok (.aload_n 2, 1) := by decide +kernel
set_option maxRecDepth 100000 in
theorem dlw_516 : decode cL_law 516 = .ok (.aload_n 0, 1) := by decide +kernel
set_option maxRecDepth 100000 in
theorem dlw_517 : decode cL_law 517 = .ok (.iload 4, 2) := by decide +kernel
set_option maxRecDepth 100000 in
theorem dlw_519 : decode cL_law 519 = .ok (.iconst 1, 1) := by decide +kernel
set_option maxRecDepth 100000 in
theorem dlw_520 : decode cL_law 520 = .ok (.iadd, 1) := by decide +kernel
set_option maxRecDepth 100000 in
theorem dlw_521 : decode cL_law 521 = .ok (.iaload, 1) := by decide +kernel
set_option maxRecDepth 100000 in
theorem dlw_522 : decode cL_law 522 = .ok (.invokevirtual 148, 3) := by decide +kernel
set_option maxRecDepth 100000 in
theorem dlw_525 : decode cL_law 525 = .ok (.istore 6, 2) := by decide +kernel
set_option maxRecDepth 100000 in
theorem dlw_527 : decode cL_law 527 = .ok (.goto 660, 3) := by decide +kernel
set_option maxRecDepth 100000 in
theorem dlw_530 : decode cL_law 530 = .ok (.aload_n 1, 1) := by decide +kernel
set_option maxRecDepth 100000 in
theorem dlw_531 : decode cL_law 531 = .ok (.aload_n 0, 1) := by decide +kernel
set_option maxRecDepth 100000 in
theorem dlw_532 : decode cL_law 532 = .ok (.iload 4, 2) := by decide +kernel
set_option maxRecDepth 100000 in
theorem dlw_534 : decode cL_law 534 = .ok (.iconst 1, 1) := by decide +kernel
set_option maxRecDepth 100000 in
theorem dlw_535 : decode cL_law 535 = .ok (.iadd, 1) := by decide +kernel
set_option maxRecDepth 100000 in
theorem dlw_536 : decode cL_law 536 = .ok (.iaload, 1) := by decide +kernel
set_option maxRecDepth 100000 in
theorem dlw_537 : decode cL_law 537 = .ok (.aload_n 3, 1) := by decide +kernel
set_option maxRecDepth 100000 in
theorem dlw_538 : decode cL_law 538 = .ok (.invokestatic 149, 3) := by decide +kernel
set_option maxRecDepth 100000 in
theorem dlw_541 : decode cL_law 541 = .ok (.istore 5, 2) := by decide +kernel
set_option maxRecDepth 100000 in
theorem dlw_543 : decode cL_law 543 = .ok (.aload_n 2, 1) := by decide +kernel
set_option maxRecDepth 100000 in
theorem dlw_544 : decode cL_law 544 = .ok (.aload_n 0, 1) := by decide +kernel
set_option maxRecDepth 100000 in
theorem dlw_545 : decode cL_law 545 = .ok (.iload 4, 2) := by decide +kernel
set_option maxRecDepth 100000 in
theorem dlw_547 : decode cL_law 547 = .ok (.iconst 1, 1) := by decide +kernel
set_option maxRecDepth 100000 in
theorem dlw_548 : decode cL_law 548 = .ok (.iadd, 1) := by decide +kernel
set_option maxRecDepth 100000 in
theorem dlw_549 : decode cL_law 549 = .ok (.iaload, 1) := by decide +kernel
set_option maxRecDepth 100000 in
theorem dlw_550 : decode cL_law 550 = .ok (.invokevirtual 151, 3) := by decide +kernel
set_option maxRecDepth 100000 in
theorem dlw_553 : decode cL_law 553 = .ok (.istore 6, 2) := by decide +kernel
set_option maxRecDepth 100000 in
theorem dlw_555 : decode cL_law 555 = .ok (.goto 632, 3) := by decide +kernel
set_option maxRecDepth 100000 in
theorem dlw_558 : decode cL_law 558 = .ok (.aload_n 1, 1) := by decide +kernel
set_option maxRecDepth 100000 in
theorem dlw_559 : decode cL_law 559 = .ok (.aload_n 0, 1) := by decide +kernel
set_option maxRecDepth 100000 in
theorem dlw_560 : decode cL_law 560 = .ok (.iload 4, 2) := by decide +kernel
set_option maxRecDepth 100000 in
theorem dlw_562 : decode cL_law 562 = .ok (.iconst 1, 1) := by decide +kernel
set_option maxRecDepth 100000 in
theorem dlw_563 : decode cL_law 563 = .ok (.iadd, 1) := by decide +kernel
set_option maxRecDepth 100000 in
theorem dlw_564 : decode cL_law 564 = .ok (.iaload, 1) := by decide +kernel
set_option maxRecDepth 100000 in
theorem dlw_565 : decode cL_law 565 = .ok (.aload_n 0, 1) := by decide +kernel
set_option maxRecDepth 100000 in
theorem dlw_566 : decode cL_law 566 = .ok (.iload 4, 2) := by decide +kernel
set_option maxRecDepth 100000 in
theorem dlw_568 : decode cL_law 568 = .ok (.iconst 2, 1) := by decide +kernel
set_option maxRecDepth 100000 in
theorem dlw_569 : decode cL_law 569 = .ok (.iadd, 1) := by decide +kernel
set_option maxRecDepth 100000 in
theorem dlw_570 : decode cL_law 570 = .ok (.iaload, 1) := by decide +kernel
set_option maxRecDepth 100000 in
theorem dlw_571 : decode cL_law 571 = .ok (.aload_n 3, 1) := by decide +kernel
set_option maxRecDepth 100000 in
theorem dlw_572 : decode cL_law 572 = .ok (.invokestatic 152, 3) := by decide +kernel
set_option maxRecDepth 100000 in
theorem dlw_575 : decode cL_law 575 = .ok (.istore 5, 2) := by decide +kernel
set_option maxRecDepth 100000 in
theorem dlw_577 : decode cL_law 577 = .ok (.aload_n 2, 1) := by decide +kernel
set_option maxRecDepth 100000 in
theorem dlw_578 : decode cL_law 578 = .ok (.aload_n 0, 1) := by decide +kernel
set_option maxRecDepth 100000 in
theorem dlw_579 : decode cL_law 579 = .ok (.iload 4, 2) := by decide +kernel
set_option maxRecDepth 100000 in
theorem dlw_581 : decode cL_law 581 = .ok (.iconst 1, 1) := by decide +kernel
set_option maxRecDepth 100000 in
theorem dlw_582 : decode cL_law 582 = .ok (.iadd, 1) := by decide +kernel
end
