/-! the law: two worlds side by side -/
abbrev yLaw : gy := (yL_law, cL_law, 7, some .boolean, [])
abbrev mg (G : kG) : mG := (G.1, G.2.1, G.2.2.1, G.2.2.2, 0, 0)
section LAW
variable {p : Program} {l : Launch} {e : Env} {R : Room} {s : State} {m : MethodId} {args : Array Value} {below : List Frame} {meth : Method} {c : Code} {H : Heap} {locs : List Loc} {cells slots : Nat} {Q : State → Prop} {pc : Nat} {ls : Array Slot} {A : Nat → Prop} {D : Nat} {y z : gy} {E : gE} {x : gd} {f : gf} {ad : Nat → Nat} {restv : List Value}
/-- behind a call that answers an int -/
theorem L_out {mc ms : Nat} {stk : List Value} {r : Int32} {x1 : gd} {f1 : gf} {av : Array Value} (hrun : vx_Run p l e R s m args below meth c H locs cells slots mc ms (F0 m pc ls stk) restv (gQc E (gA f ad H.size) f ad (.inl (some (vi r))) x1 f1 av) (gXC E (gA f ad H.size) f ad (.inl (some (vi r))) x1 f1) (gA f ad H.size)) (hP : gP E x f ad A H) (hS : va_S A s.heap H locs) (hA : ∀ q : Nat, s.heap.size ≤ q → A q)
    (kk : ∀ (ad1 : Nat → Nat) (H1 : Heap) (locs1 : List Loc), gex f ad ad1 → gP E x1 f1 ad1 (gA f ad H.size) H1 → (∀ q : Nat, q < H.size → ¬ gA f ad H.size q → H1[q]? = H[q]?) → va_S A s.heap H1 locs1 → W p l e R s m args below meth c H1 locs1 (cells + mc) (slots + ms) Q (F0 m (pc + 3) ls (.int r :: restv))) :
    W p l e R s m args below meth c H locs cells slots Q (F0 m pc ls stk) := by
  intro T9 hT X
  rcases hrun T9 hT X with ⟨v', st₀, t, T', L, h0, X', hL, e1, e2, ⟨ad1, hex, ⟨v2, ev1, ev2⟩, hP1, hF⟩, stp⟩ | ⟨q, st₀, t, T', L, X0, ce, h0, X', hL, e1, e2, ⟨ad1, hex, hn, -⟩, -⟩
  · cases ev1
    cases ev2
    have hin := gA_in (sz := H.size) hP (fun q hq => hA q (Nat.le_trans hS.1 hq))
    obtain ⟨k1, k2, k3⟩ := vx_keep h0 e1 hS (fun q _ h => hin q h) hin hL hF
    obtain ⟨t2, s1, s2⟩ := kk ad1 T'.heap (locs ++ L) hex (by rw [e1]; exact hP1) k2 k3 T' rfl X'
    exact ⟨t2, stp t2 s1, s2⟩
  · cases hn
/-- an instance's method, of a world of its own -/
theorem L_V {cr ci idx n : Nat} {sl : List Bool} {QQ : gr → gd → gf → Prop} {stk : List Value} (C : gC E D y p R s m args meth c A) (hP : gP E x f ad A H) (hS : va_S A s.heap H locs) (hls : ls.size = y.2.2.1) (As : List gv) (d1 : Nat) (hstk : stk = (As.map (gcv ad)).reverse ++ Value.ref (ad cr) :: restv) (hd : decode y.2.1 pc = .ok (.invokevirtual idx, 3)) (hM : gMv y.1.cls idx z n) (hn : As.length = n) (hK : E.2.2.2.1 cr = .inl (ci, sl)) (hcl : (vwCl[ci]?).map (fun r => r.1) = some z.1.cls) (hc : cr ∈ f.2.1) (hd1 : d1 + 1 ≤ D)
    (hfit : gsz (vr cr :: As) ≤ z.2.2.1) (hcat : (restv.map fun v => v.category).sum ≤ 8) (k : T E d1 z 0 (glv 0 (vr cr :: As)) [] x f QQ) (hQ : ∀ o x1 f1, QQ o x1 f1 → ∃ r : Int32, o = .inl (some (vi r))) (hroom9 : ∀ o x1 f1, QQ o x1 f1 → gle f f1 → cells + (f1.2.2.1 - f.2.2.1) ≤ R.cells ∧ slots + (f1.2.2.2 - f.2.2.2) ≤ R.slots)
    (kk : ∀ (r : Int32) (x1 : gd) (f1 : gf) (ad1 : Nat → Nat) (H1 : Heap) (locs1 : List Loc), QQ (.inl (some (vi r))) x1 f1 → gle f f1 → gex f ad ad1 → gP E x1 f1 ad1 (gA f ad H.size) H1 → (∀ q : Nat, q < H.size → ¬ gA f ad H.size q → H1[q]? = H[q]?) → va_S A s.heap H1 locs1 → W p E.1 e R s m args below meth c H1 locs1 (cells + (f1.2.2.1 - f.2.2.1)) (slots + (f1.2.2.2 - f.2.2.2)) Q (F0 m (pc + 3) ls (.int r :: restv))) :
    W p E.1 e R s m args below meth c H locs cells slots Q (F0 m pc ls stk) := by
  obtain ⟨⟨m1, m2, m3, m4, m5⟩, m6, m7, m8⟩ := hM
  obtain ⟨o1, x1, f1, hk, hle, hw1⟩ := k
  obtain ⟨r, rfl⟩ := hQ o1 x1 f1 hk
  obtain ⟨hc1, hs1⟩ := hroom9 _ x1 f1 hk hle
  obtain ⟨i, hi0, hi⟩ := gwl_at (E := E) (x := x) (ad := ad) hc
  rw [gce_obj hK] at hi
  have hr9 : ∃ r : vw_C, vwCl[ci]? = some r ∧ r.1 = z.1.cls := by
    cases h9 : vwCl[ci]? with
    | none => rw [h9] at hcl; cases hcl
    | some r => rw [h9] at hcl; exact ⟨r, rfl, Option.some.inj hcl⟩
  obtain ⟨r9, hr1, hr2⟩ := hr9
  have hrec := va_recv C.2.2.2.1.1 hP.1.1 hr1 hi
  rw [hr2] at hrec
  have hG : GoodIn W0 (wsV y.1.cls idx z.1.cls z.1 (gws z)) := by
    intro w hw
    rcases List.mem_append.mp hw with h | h
    · refine W0_good w ?_
      simp only [List.mem_cons, List.not_mem_nil, or_false] at h
      rcases h with rfl | rfl | rfl | rfl
      · exact m1
      · exact m2
      · exact m3
      · exact m4
    · exact gwsz m5 w h
  have hroom : 8 + (z.2.2.1 + 11) + 41 * d1 ≤ R.locals := by
    have hq := C.2.2.1.2
    omega
  refine L_out (E := E) (x := x) (f := f) (ad := ad) (r := r) (x1 := x1) (f1 := f1) (mc := f1.2.2.1 - f.2.2.1) (ms := f1.2.2.2 - f.2.2.2) (av := ((vr cr :: As).map (gcv ad)).toArray) ?_ hP hS C.2.2.2.2 (fun ad1 H1 locs1 g1 g2 g3 g4 => kk r x1 f1 ad1 H1 locs1 hk hle g1 g2 g3 g4)
  cases hz : z.2.2.2.2 with
  | nil =>
    exact vx_runV (As := As.map (gcv ad)) (C := z.1.cls) (b := ad cr) (Pc := va_Pc ((vr cr :: As).map (gcv ad)) (gst E x f ad H.size)) ⟨C.1.1, C.1.2.1, C.1.2.2.1, C.1.2.2.2.1, C.1.2.2.2.2⟩ (gM_of C.2.2.2.1.2.2.2 m7 hfit hw1 ad H.size)
      (cwV (bytes := z.2.1) (maxL := z.2.2.1) (ret := z.2.2.2.1) (ws' := W0) n C.1.2.2.2.2 hG (by rw [gws, gcw, hz]) rfl rfl ⟨rfl, m6⟩ ⟨Nat.le_trans hd1 C.2.2.1.1, hroom⟩) ⟨gst_blind, hrec, fun U hU hW => ⟨rfl, gst_in C hP hS hU hW⟩⟩ rfl (by rw [List.length_map]; exact hn) hls hstk (lv_room hcat) hd ⟨hc1, hs1⟩
  | cons a9 b9 =>
    exact vx_runVX (hh := a9 :: b9) (As := As.map (gcv ad)) (C := z.1.cls) (b := ad cr) (Pc := va_Pc ((vr cr :: As).map (gcv ad)) (gst E x f ad H.size)) ⟨C.1.1, C.1.2.1, C.1.2.2.1, C.1.2.2.2.1, C.1.2.2.2.2⟩ (gM_of C.2.2.2.1.2.2.2 m7 hfit hw1 ad H.size)
      (vx_cwVW (bytes := z.2.1) (maxL := z.2.2.1) (ret := z.2.2.2.1) (hh := a9 :: b9) (ws' := W0) n C.1.2.2.2.2 hG (by rw [gws, gcw, hz]) rfl rfl ⟨rfl, m6⟩ ⟨Nat.le_trans hd1 C.2.2.1.1, hroom⟩) ⟨gst_blind, hrec, fun U hU hW => ⟨rfl, gst_in C hP hS hU hW⟩⟩ rfl (by rw [List.length_map]; exact hn) hls hstk (lv_room hcat) hd ⟨hc1, hs1⟩
/-- a helper of the law -/
theorem L_S {idx n : Nat} {QQ : gr → gd → gf → Prop} {stk : List Value} (C : gC E D y p R s m args meth c A) (hP : gP E x f ad A H) (hS : va_S A s.heap H locs) (hls : ls.size = y.2.2.1) (As : List gv) (d1 : Nat) (hstk : stk = (As.map (gcv ad)).reverse ++ restv) (hd : decode y.2.1 pc = .ok (.invokestatic idx, 3)) (hM : gMs y.1.cls idx z n) (hn : As.length = n) (hd1 : d1 + 1 ≤ D) (hz0 : z.2.2.2.2 ≠ [])
    (hfit : gsz As ≤ z.2.2.1) (hcat : (restv.map fun v => v.category).sum ≤ 8) (k : T E d1 z 0 (glv 0 As) [] x f QQ) (hQ : ∀ o x1 f1, QQ o x1 f1 → ∃ r : Int32, o = .inl (some (vi r))) (hroom9 : ∀ o x1 f1, QQ o x1 f1 → gle f f1 → cells + (f1.2.2.1 - f.2.2.1) ≤ R.cells ∧ slots + (f1.2.2.2 - f.2.2.2) ≤ R.slots)
    (kk : ∀ (r : Int32) (x1 : gd) (f1 : gf) (ad1 : Nat → Nat) (H1 : Heap) (locs1 : List Loc), QQ (.inl (some (vi r))) x1 f1 → gle f f1 → gex f ad ad1 → gP E x1 f1 ad1 (gA f ad H.size) H1 → (∀ q : Nat, q < H.size → ¬ gA f ad H.size q → H1[q]? = H[q]?) → va_S A s.heap H1 locs1 → W p E.1 e R s m args below meth c H1 locs1 (cells + (f1.2.2.1 - f.2.2.1)) (slots + (f1.2.2.2 - f.2.2.2)) Q (F0 m (pc + 3) ls (.int r :: restv))) :
    W p E.1 e R s m args below meth c H locs cells slots Q (F0 m pc ls stk) := by
  obtain ⟨⟨m1, m2, m4, m5⟩, m6, m7, m8⟩ := hM
  obtain ⟨o1, x1, f1, hk, hle, hw1⟩ := k
  obtain ⟨r, rfl⟩ := hQ o1 x1 f1 hk
  obtain ⟨hc1, hs1⟩ := hroom9 _ x1 f1 hk hle
  have hroom : 8 + (z.2.2.1 + 11) + 41 * d1 ≤ R.locals := by
    have hq := C.2.2.1.2
    omega
  refine L_out (E := E) (x := x) (f := f) (ad := ad) (r := r) (x1 := x1) (f1 := f1) (mc := f1.2.2.1 - f.2.2.1) (ms := f1.2.2.2 - f.2.2.2) (av := (As.map (gcv ad)).toArray) ?_ hP hS C.2.2.2.2 (fun ad1 H1 locs1 g1 g2 g3 g4 => kk r x1 f1 ad1 H1 locs1 hk hle g1 g2 g3 g4)
  cases hz : z.2.2.2.2 with
  | nil => exact absurd hz hz0
  | cons a9 b9 =>
    have hG : GoodIn W0 (va_wsS y.1.cls idx z.1 (gws z)) := by
      intro w hw
      rcases List.mem_append.mp hw with h | h
      · refine W0_good w ?_
        simp only [List.mem_cons, List.not_mem_nil, or_false] at h
        rcases h with rfl | rfl | rfl
        · exact m1
        · exact m2
        · exact m4
      · exact gwsz m5 w h
    exact vx_runSX (hh := a9 :: b9) (As := As.map (gcv ad)) (Pc := va_Pc (As.map (gcv ad)) (gst E x f ad H.size)) ⟨C.1.1, C.1.2.1, C.1.2.2.1, C.1.2.2.2.1, C.1.2.2.2.2⟩ (gM_of C.2.2.2.1.2.2.2 m7 hfit hw1 ad H.size)
      (vx_cwSW (bytes := z.2.1) (maxL := z.2.2.1) (ret := z.2.2.2.1) (hh := a9 :: b9) (ws' := W0) n C.1.2.2.2.2 hG (by rw [gws, gcw, hz]) rfl rfl m6 ⟨Nat.le_trans hd1 C.2.2.1.1, hroom⟩) ⟨gst_blind, fun U hU hW => ⟨rfl, gst_in C hP hS hU hW⟩⟩ rfl (by rw [List.length_map]; exact hn) hls hstk (lv_room hcat) hd ⟨hc1, hs1⟩
end LAW
/-- the two worlds, apart; where their objects lie -/
def LI (G : kG) (A : Nat → Prop) (H : Heap) (x : gd) (q : kP) (w : gd) (x0 m0 o0 : Nat) : Prop := ∃ ak am : Nat → Nat, gP (wE (kE G)) x (fo (kf q)) ak A H ∧ gP (mE (mg G)) w (mf (mg G)) am A H ∧ gdis (fo (kf q)) ak (mf (mg G)) am ∧ ak 0 = x0 ∧ ak 299 = o0 ∧ am 0 = m0
theorem gdis_s {f1 f2 : gf} {a1 a2 : Nat → Nat} (h : gdis f1 a1 f2 a2) : gdis f2 a2 f1 a1 := fun c hc c' hc' e => h c' hc' c hc e.symm
section LAX
variable {p : Program} {e : Env} {R : Room} {s : State} {m : MethodId} {args : Array Value} {below : List Frame} {meth : Method} {c : Code} {H : Heap} {locs : List Loc} {c0 s0 : Nat} {Q : State → Prop} {pc : Nat} {ls : Array Slot} {A : Nat → Prop} {G : kG} {z : gy} {x w : gd} {q : kP} {x0 m0 o0 : Nat} {restv : List Value}
/-- a helper is called -/
theorem LI_S {idx n : Nat} {P : Int32 → gd → kP → Prop} (C : gC (wE (kE G)) 1000 yLaw p R s m args meth c A) (hI : LI G A H x q w x0 m0 o0) (hu : kU q) (hS : va_S A s.heap H locs) (hls : ls.size = 7) (As : List gv) (vs : List Value) (hvs : ∀ ad : Nat → Nat, As.map (gcv ad) = vs) (hd : decode cL_law pc = .ok (.invokestatic idx, 3)) (hM : gMs RL idx z n) (hn : As.length + 2 = n) (hz0 : z.2.2.2.2 ≠ []) (hfit : gsz (vr 0 :: As ++ [vr 299]) ≤ z.2.2.1)
    (k : T (wE (kE G)) 900 z 0 (glv 0 (vr 0 :: As ++ [vr 299])) [] x (fo (kf q)) (wq q P)) (hroom : ∀ q1, kU q1 → kst q q1 → q1.ce + c0 ≤ R.cells ∧ q1.sl + s0 ≤ R.slots)
    (kk : ∀ (r : Int32) (x1 : gd) (q1 : kP) (H1 : Heap) (locs1 : List Loc), LI G A H1 x1 q1 w x0 m0 o0 → kU q1 → kst q q1 → HOI x1 q1 → P r x1 q1 → va_S A s.heap H1 locs1 → W p G.1 e R s m args below meth c H1 locs1 (q1.ce + c0) (q1.sl + s0) Q (F0 m (pc + 3) ls [.int r])) :
    W p G.1 e R s m args below meth c H locs (q.ce + c0) (q.sl + s0) Q (F0 m pc ls (.ref o0 :: (vs.reverse ++ [.ref x0]))) := by
  obtain ⟨ak, am, hP1, hP2, hdis, e0, e9, em⟩ := hI
  have l0 : 0 ∈ (fo (kf q)).2.1 := List.mem_append_left _ (kl_0 hu.1)
  have l9 : 299 ∈ (fo (kf q)).2.1 := List.mem_append_right _ (List.mem_singleton.mpr rfl)
  have hc9 : ∀ {q1 : kP}, gle (fo (kf q)) (fo (kf q1)) → q.ce + c0 + (q1.ce - q.ce) = q1.ce + c0 ∧ q.sl + s0 + (q1.sl - q.sl) = q1.sl + s0 := fun {q1} h => by
    have a1 : q.ce ≤ q1.ce := h.2.1
    have a2 : q.sl ≤ q1.sl := h.2.2
    omega
  refine L_S (E := wE (kE G)) (y := yLaw) (restv := []) (f := fo (kf q)) (ad := ak) C hP1 hS hls (vr 0 :: As ++ [vr 299]) 900 ?_ hd hM (by rw [← hn]; simp) (by omega) hz0 hfit (by decide) k (fun o x1 f1 h => by obtain ⟨r, q1, h1, -⟩ := h; exact ⟨r, h1⟩) (fun o x1 f1 h hle => ?_) (fun r x1 f1 ad1 H1 locs1 h hle hex hPn hkp hS1 => ?_)
  · rw [List.map_append, List.map_cons, hvs, ← e0, ← e9]
    simp [gcv]
  · obtain ⟨r, q1, -, rfl, hu1, hk1, -⟩ := h
    obtain ⟨a1, a2⟩ := hc9 hle
    obtain ⟨b1, b2⟩ := hroom q1 hu1 hk1
    exact ⟨by show q.ce + c0 + (q1.ce - q.ce) ≤ _; rw [a1]; exact b1, by show q.sl + s0 + (q1.sl - q.sl) ≤ _; rw [a2]; exact b2⟩
  · obtain ⟨r', q1, hr, rfl, hu1, hk1, hH1, hp1⟩ := h
    cases hr
    obtain ⟨a1, a2⟩ := hc9 hle
    obtain ⟨kp1, kp2⟩ := keep2 hP2 hdis hkp hPn
    have hin := gA_in (sz := H.size) hP1 (fun q hq => C.2.2.2.2 q (Nat.le_trans hS.1 hq))
    have hkk := kk r x1 q1 H1 locs1 ⟨ad1, am, gP_w hPn hin, kp1, kp2, (hex.1 0 l0).trans e0, (hex.1 299 l9).trans e9, em⟩ hu1 hk1 hH1 hp1 hS1
    show W p G.1 e R s m args below meth c H1 locs1 (q.ce + c0 + (q1.ce - q.ce)) (q.sl + s0 + (q1.sl - q.sl)) Q _
    rw [a1, a2]; exact hkk
/-- a method of the class is called -/
theorem LI_K {idx : Nat} {P : Int32 → gd → kP → Prop} (C : gC (wE (kE G)) 1000 yLaw p R s m args meth c A) (hI : LI G A H x q w x0 m0 o0) (hu : kU q) (hS : va_S A s.heap H locs) (hls : ls.size = 7) (hd : decode cL_law pc = .ok (.invokevirtual idx, 3)) (hM : gMv RL idx z 0) (hcl : (vwCl[11]?).map (fun r => r.1) = some z.1.cls) (hfit : gsz [vr 0] ≤ z.2.2.1) (hcat : (restv.map fun v => v.category).sum ≤ 8)
    (k : T (kE G) 900 z 0 (glv 0 [vr 0]) [] x (kf q) (fun o x1 f1 => ∃ (r : Int32) (q1 : kP), o = .inl (some (vi r)) ∧ f1 = kf q1 ∧ kU q1 ∧ kst q q1 ∧ HOI x1 q1 ∧ P r x1 q1)) (hroom : ∀ q1, kU q1 → kst q q1 → q1.ce + c0 ≤ R.cells ∧ q1.sl + s0 ≤ R.slots)
    (kk : ∀ (r : Int32) (x1 x2 : gd) (q1 : kP) (H1 : Heap) (locs1 : List Loc), LI G A H1 x1 q1 w x0 m0 o0 → kU q1 → kst q q1 → HOI x1 q1 → P r x2 q1 → x1.1 = x2.1 → va_S A s.heap H1 locs1 → W p G.1 e R s m args below meth c H1 locs1 (q1.ce + c0) (q1.sl + s0) Q (F0 m (pc + 3) ls (.int r :: restv))) :
    W p G.1 e R s m args below meth c H locs (q.ce + c0) (q.sl + s0) Q (F0 m pc ls (.ref x0 :: restv)) := by
  obtain ⟨ak, am, hP1, hP2, hdis, e0, e9, em⟩ := hI
  obtain ⟨hPk, hPO, hdO⟩ := fo_sp (n299 hu) hP1
  have l0 : 0 ∈ (kf q).2.1 := kl_0 hu.1
  have l9 : 299 ∈ (fo (kf q)).2.1 := List.mem_append_right _ (List.mem_singleton.mpr rfl)
  have hdk : gdis (kf q) ak (mf (mg G)) am := fun c hc c' hc' => hdis c (List.mem_append_left _ hc) c' hc'
  have hc9 : ∀ {q1 : kP}, gle (kf q) (kf q1) → q.ce + c0 + (q1.ce - q.ce) = q1.ce + c0 ∧ q.sl + s0 + (q1.sl - q.sl) = q1.sl + s0 := fun {q1} h => by
    have a1 : q.ce ≤ q1.ce := h.2.1
    have a2 : q.sl ≤ q1.sl := h.2.2
    omega
  have C1 : gC (kE G) 1000 yLaw p R s m args meth c A := C
  refine L_V (E := kE G) (y := yLaw) (cr := 0) (ci := 11) (f := kf q) (ad := ak) C1 hPk hS hls [] 900 (by rw [← e0]; rfl) hd hM rfl kk_0 hcl l0 (by omega) hfit hcat k (fun o x1 f1 h => by obtain ⟨r, q1, h1, -⟩ := h; exact ⟨r, h1⟩) (fun o x1 f1 h hle => ?_) (fun r x1 f1 ad1 H1 locs1 h hle hex hPn hkp hS1 => ?_)
  · obtain ⟨r, q1, -, rfl, hu1, hk1, -⟩ := h
    obtain ⟨a1, a2⟩ := hc9 hle
    obtain ⟨b1, b2⟩ := hroom q1 hu1 hk1
    exact ⟨by show q.ce + c0 + (q1.ce - q.ce) ≤ _; rw [a1]; exact b1, by show q.sl + s0 + (q1.sl - q.sl) ≤ _; rw [a2]; exact b2⟩
  · obtain ⟨r', q1, hr, rfl, hu1, hk1, hH1, hp1⟩ := h
    cases hr
    obtain ⟨a1, a2⟩ := hc9 hle
    obtain ⟨kp1, kp2⟩ := keep2 hP2 hdk hkp hPn
    obtain ⟨ko1, ko2⟩ := keep2 hPO hdO hkp hPn
    have hin := gA_in (sz := H.size) hPk (fun q hq => C.2.2.2.2 q (Nat.le_trans hS.1 hq))
    have n1 := n299 hu1
    have hPx := fo_mv n1 (kU_NR hu1 n1) hPn hin ko1 ko2
    have ne : ∀ c ∈ (kf q1).2.1, ¬ c = 299 := fun c hc e => n1 (e ▸ hc)
    have hkk := kk r (xo x x1) x1 q1 H1 locs1 ⟨ao ak ad1, am, hPx, kp1, fun c hc c' hc' => by
      rcases List.mem_append.mp hc with h | h
      · rw [show ao ak ad1 c = ad1 c from if_neg (ne c h)]; exact kp2 c h c' hc'
      · rw [List.mem_singleton.mp h, show ao ak ad1 299 = ak 299 from if_pos rfl]; exact hdis 299 l9 c' hc', by
      rw [show ao ak ad1 0 = ad1 0 from if_neg (by omega), hex.1 0 l0]; exact e0, by
      rw [show ao ak ad1 299 = ak 299 from if_pos rfl]; exact e9, em⟩ hu1 hk1 (HOI_1 rfl hu1 hH1) hp1 rfl hS1
    show W p G.1 e R s m args below meth c H1 locs1 (q.ce + c0 + (q1.ce - q.ce)) (q.sl + s0 + (q1.sl - q.sl)) Q _
    rw [a1, a2]; exact hkk
/-- a method of the model is called -/
theorem LI_M {idx n : Nat} {F : Int32 → gd → Prop} {cells slots d1 : Nat} (C : gC (wE (kE G)) 1000 yLaw p R s m args meth c A) (hI : LI G A H x q w x0 m0 o0) (hS : va_S A s.heap H locs) (hls : ls.size = 7) (As : List gv) (vs : List Value) (hvs : ∀ ad : Nat → Nat, As.map (gcv ad) = vs) (hd : decode cL_law pc = .ok (.invokevirtual idx, 3)) (hM : gMv RL idx z n) (hn : As.length = n) (hcl : (vwCl[12]?).map (fun r => r.1) = some z.1.cls) (hfit : gsz (vr 0 :: As) ≤ z.2.2.1) (hcat : (restv.map fun v => v.category).sum ≤ 8) (hd1 : d1 ≤ 900)
    (k : MT (mg G) d1 z 0 (glv 0 (vr 0 :: As)) [] w (ri F)) (hroom : cells ≤ R.cells ∧ slots ≤ R.slots)
    (kk : ∀ (r : Int32) (w1 : gd) (H1 : Heap) (locs1 : List Loc), LI G A H1 x q w1 x0 m0 o0 → F r w1 → va_S A s.heap H1 locs1 → W p G.1 e R s m args below meth c H1 locs1 cells slots Q (F0 m (pc + 3) ls (.int r :: restv))) :
    W p G.1 e R s m args below meth c H locs cells slots Q (F0 m pc ls (vs.reverse ++ .ref m0 :: restv)) := by
  obtain ⟨ak, am, hP1, hP2, hdis, e0, e9, em⟩ := hI
  have l0 : 0 ∈ (mf (mg G)).2.1 := ml_0
  have C1 : gC (mE (mg G)) 1000 yLaw p R s m args meth c A := C
  refine L_V (E := mE (mg G)) (y := yLaw) (cr := 0) (ci := 12) (f := mf (mg G)) (ad := am) C1 hP2 hS hls As d1 (by rw [← em, hvs]) hd hM hn mk_0 hcl l0 (by omega) hfit hcat k (fun o x1 f1 h => by obtain ⟨-, v, rfl, r, rfl, -⟩ := h; exact ⟨r, rfl⟩) (fun o x1 f1 h hle => ?_) (fun r x1 f1 ad1 H1 locs1 h hle hex hPn hkp hS1 => ?_)
  · obtain ⟨rfl, -⟩ := h
    exact hroom
  · obtain ⟨rfl, v, hv, r', hr, hF⟩ := h
    cases hv
    cases hr
    obtain ⟨kp1, kp2⟩ := keep2 hP1 (gdis_s hdis) hkp hPn
    have hin := gA_in (sz := H.size) hP2 (fun q hq => C.2.2.2.2 q (Nat.le_trans hS.1 hq))
    exact kk r x1 H1 locs1 ⟨ak, ad1, kp1, gP_w hPn hin, gdis_s kp2, e0, e9, (hex.1 0 l0).trans em⟩ hF hS1
/-- what a helper left is read -/
theorem LI_O {c0 s0 : Nat} {restv : List Value} (C : gC (wE (kE G)) 1000 yLaw p R s m args meth c A) (hI : LI G A H x q w x0 m0 o0) (hd : decode cL_law pc = .ok (.laload, 1)) (kk : W p G.1 e R s m args below meth c H locs c0 s0 Q (F0 m (pc + 1) ls (.long (x.2 299 (0 : Int32).toNatClampNeg) :: restv))) : W p G.1 e R s m args below meth c H locs c0 s0 Q (F0 m pc ls (.int 0 :: .ref o0 :: restv)) := by
  obtain ⟨ak, am, hP1, hP2, hdis, e0, e9, em⟩ := hI
  have l9 : 299 ∈ (fo (kf q)).2.1 := List.mem_append_right _ (List.mem_singleton.mpr rfl)
  obtain ⟨i, -, hi⟩ := gwl_at (E := wE (kE G)) (x := x) (ad := ak) l9
  rw [gce_arr wE_9] at hi
  rw [← e9]
  exact va_lald C.1.1 C.1.2.1 C.2.2.2.1.1 hP1.1.1 i 3 hi rfl (vin0 (by omega)) hd kk
theorem lg_self (a : Int64) : lg_cmp a a = 0 := by
  unfold lg_cmp
  rw [if_neg (fun h => by rw [gt_iff_lt, Int64.lt_iff_toInt_lt] at h; omega), if_pos rfl]
theorem sp_thrown {G : mG} {d : Nat} {w : gd} {F : Int32 → gd → Prop} (h : F (w.1 0 0) w) : MT G (d + 1) z_thrown 0 [(0, vr 0)] [] w (ri F) := sg_thrown_0 ⟨_, rfl, h⟩
end LAX
