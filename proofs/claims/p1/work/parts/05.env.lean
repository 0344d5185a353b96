/-! what a method that may throw asks of the start: the two statics that a Throwable reads, the texts, which exception is which -/
def ev_Z (A : Nat → Prop) (U : State) (H : Heap) : Prop := vx_Zq Bundle.tN "UNASSIGNED_STACK" Bundle.steD A U H ∧ vx_Zq Bundle.tN "SUPPRESSED_SENTINEL" Bundle.listD A U H
theorem ev_Z_moved {A : Nat → Prop} {u U : State} {H : Heap} (hvm : u.vm.Alike U.vm) (h : ev_Z A u H) : ev_Z A U H := ⟨vx_Zq.moved hvm h.1, vx_Zq.moved hvm h.2⟩
theorem ev_Z_down {A B : Nat → Prop} {U : State} {H0 H : Heap} {locs : List Loc} (h : ev_Z A U H0) (hS : va_S A H0 H locs) (hAB : ∀ q, B q → A q) : ev_Z B U H := ⟨vx_Zq.narrow (vx_Zq.kept h.1 hS.2.1) hAB, vx_Zq.narrow (vx_Zq.kept h.2 hS.2.1) hAB⟩
def ev_txt : List (Nat × String) := [(72, "n is not 1 .. 8"), (129, "no such what"), (384, "nothing is compiled"), (388, "no such way"), (386, "there is no run"), (390, "there is none such"), (340, "no such finding")]
def ev_tab : List Cond := [.castable iSE iSE, .castable iAE iAE, .castable iOE iOE, .declares (Bundle.initS "java/lang/RuntimeException"), .declares (Bundle.initS "java/lang/Exception"), .declares (Bundle.initS "java/lang/Throwable")]
def ev_no : List (String × String) := [(iAE, iSE), (iOE, iSE), (iOE, iAE), (iSE, iAE)]
def ev (U : State) : Prop := (∀ x ∈ ev_txt, ∃ a : Nat, vk_R "ScheduleHouse" x.1 x.2 a U) ∧ (∀ w ∈ ev_tab, w.before #[] U = true) ∧ (∀ x ∈ ev_no, va_Nc x.1 x.2 U) ∧ va_AO "ScheduleHouse$Trial" U ∧ va_Nw (.methodLinkNest RX5 24 yX1_init "ScheduleHouse") U
theorem ev_tabm {u U : State} (hvm : u.vm.Alike U.vm) (w : Cond) (hw : w ∈ ev_tab) (h : w.before #[] u = true) : w.before #[] U = true := by
  have tr : ∀ {c : Cond}, c.onTables = true → c.before #[] (u.setVm U.vm) = true → c.before #[] U = true := by
    intro c hc h
    have e := Cond.onTables_vm (A := #[]) (A' := #[]) (U := u) (U' := U) U.vm c hc
    have hU : U.setVm U.vm = U := rfl
    rw [hU] at e
    rw [← e]
    exact h
  simp only [ev_tab, List.mem_cons, List.not_mem_nil, or_false] at hw
  rcases hw with rfl | rfl | rfl | rfl | rfl | rfl
  · exact tr rfl (by rw [Cond.castable_setVm hvm]; exact h)
  · exact tr rfl (by rw [Cond.castable_setVm hvm]; exact h)
  · exact tr rfl (by rw [Cond.castable_setVm hvm]; exact h)
  · exact tr rfl (by rw [Cond.declares_setVm hvm]; exact h)
  · exact tr rfl (by rw [Cond.declares_setVm hvm]; exact h)
  · exact tr rfl (by rw [Cond.declares_setVm hvm]; exact h)
theorem ev_warm {s U : State} (hW : s.WarmedH U.vm) (h : ev s) : ev U := by
  refine ⟨fun x hx => ?_, fun w hw => ev_tabm hW.alike w hw (h.2.1 w hw), fun x hx => va_Nc.moved hW.alike (h.2.2.1 x hx), va_AO.moved hW.alike h.2.2.2.1, va_Nw.warmM hW h.2.2.2.2⟩
  obtain ⟨a, ha⟩ := h.1 x hx
  exact ⟨a, vk_R.warm hW ha⟩
theorem ev_same {u U : State} (hv : U.vm = u.vm) (h : ev u) : ev U := by
  have hvm : u.vm.Alike U.vm := by rw [hv]; exact Vm.Alike.refl u.vm
  refine ⟨fun x hx => ?_, fun w hw => ev_tabm hvm w hw (h.2.1 w hw), fun x hx => va_Nc.moved hvm (h.2.2.1 x hx), va_AO.moved hvm h.2.2.2.1, va_Nw.same rfl hv.symm h.2.2.2.2⟩
  obtain ⟨a, ha⟩ := h.1 x hx
  exact ⟨a, vk_R.same hv ha⟩
theorem ev_text {U : State} (h : ev U) (k : Nat) (t : String) (hm : (k, t) ∈ ev_txt) : ∃ a : Nat, vk_R "ScheduleHouse" k t a U := h.1 (k, t) hm
theorem ev_w {U : State} {args : Array Value} (h : ev U) (w : Cond) (hm : w ∈ ev_tab) (ho : w.onTables = true) : w.before args U = true := va_tabs ho rfl (h.2.1 w hm)
theorem ev_nc {U : State} (h : ev U) (E F : String) (hm : (E, F) ∈ ev_no) : va_Nc E F U := h.2.2.1 (E, F) hm
/-- the words of a throw that aren't good ones -/
abbrev ev_B (E : String) : List Cond := [.castable E E, .declares (Bundle.initS "java/lang/RuntimeException"), .declares (Bundle.initS "java/lang/Exception"), .declares (Bundle.initS "java/lang/Throwable")]
theorem ev_b {U : State} {args : Array Value} (h : ev U) (E : String) (hm : Cond.castable E E ∈ ev_tab) : ∀ w ∈ ev_B E, w.before args U = true :=
  vx_c (ev_w h _ hm rfl) (vx_c (ev_w h _ (by decide) rfl) (vx_c (ev_w h _ (by decide) rfl) (vx_c (ev_w h _ (by decide) rfl) vx_n)))
/-- a method's start: its cells, the tables, what a throw needs -/
def st_ (D : va_G) (ws : va_W) (tys : List (ClassId × FieldType)) (sz : Nat) (U : State) : Prop := U.heap.size = sz ∧ va_P D vwCl ws U.heap ∧ va_K D vwCl tys U ∧ va_D (fun _ => True) ws ∧ ev_Z (va_A ws sz) U U.heap ∧ ev U
theorem st_blind {D : va_G} {ws : va_W} {tys : List (ClassId × FieldType)} {sz : Nat} {av : List Value} : FrameBlind (va_Pc av (st_ D ws tys sz)) := by
  intro a U g mk q
  obtain ⟨q0, q1, qP, qK, qD, qZ, qE⟩ := q
  exact ⟨q0, q1, qP, va_K.moved (u := U) (U := U.calling g mk a) (Vm.Alike.refl U.vm) qK, qD, ev_Z_moved (u := U) (U := U.calling g mk a) (Vm.Alike.refl U.vm) qZ, ev_same (u := U) (U := U.calling g mk a) rfl qE⟩
/-- the callee's start out of the caller's world -/
theorem st_call {D : va_G} {wc : va_W} {tys : List (ClassId × FieldType)} {s U : State} {H H0 : Heap} {A : Nat → Prop} {locs : List Loc} (hU : U.heap = H) (hW : s.WarmedH U.vm) (hPc : va_P D vwCl wc H) (hKc : va_K D vwCl tys s) (hDc : va_D A wc) (hZ : ev_Z A s H0) (hS : va_S A H0 H locs) (hF : ∀ q, va_A wc H.size q → A q) (hE : ev s) : st_ D wc tys H.size U := by
  subst hU
  exact ⟨rfl, hPc, va_K.moved hW.alike hKc, hDc.weaken (fun _ _ _ _ => trivial), ev_Z_moved hW.alike (ev_Z_down hZ hS hF), ev_warm hW hE⟩
theorem p_nil {D : va_G} {cl : List vw_C} {H : Heap} : va_P D cl [] H := fun k q h => by simp at h
theorem d_nil {A : Nat → Prop} : va_D A [] := ⟨fun i j p q h => by simp at h, fun k q h => by simp at h⟩
