/-! what a method asks of the start: the two statics that a Throwable reads, the texts, which exception is which, the two lists of words -/
def es_txt : List (String × Nat × String) := [("ScheduleHouse$Tokens", 79, "add    always and    assert back   call   cas    cell   else   end    fence  finallygive   idle   if     join   let    lock   mod    not    or     pause  self   start  sure   swap   take   thread wait   wake   wakeallwhile  "), ("ScheduleHouseModel", 326, "add always and assert back call cas cell else end fence finally give idle if join let lock mod not or pause self start sure swap take thread wait wake wakeall while ")]
def es_byt : List (List Int32) := es_txt.map (fun q => q.2.2.toList.map (fun ch => Int32.ofNat ch.toNat))
def es_len : List Nat := es_byt.map List.length
def ev_Z (sA : Nat → Nat) (A : Nat → Prop) (U : State) (H : Heap) : Prop := (vx_Zq Bundle.tN "UNASSIGNED_STACK" Bundle.steD A U H ∧ vx_Zq Bundle.tN "SUPPRESSED_SENTINEL" Bundle.listD A U H) ∧ (vk_S 2 es_len es_byt sA (fun i => sA (2 + i)) A U H ∧ va_Z "java/lang/String" "COMPACT_STRINGS" "Z" (.int 1) A U H ∧ va_Z "jdk/internal/util/Preconditions" "SIOOBE_FORMATTER" "Ljava/util/function/BiFunction;" (if sA 5 = 0 then .null else .ref (sA 4)) A U H) ∧ ∀ (i : Nat) (q : String × Nat × String), es_txt[i]? = some q → vk_R q.1 q.2.1 q.2.2 (sA i) U
theorem ev_Z_warm {sA : Nat → Nat} {A : Nat → Prop} {s U : State} {H : Heap} (hW : s.WarmedH U.vm) (h : ev_Z sA A s H) : ev_Z sA A U H := by
  obtain ⟨h1, ⟨h2, h4, h5⟩, h3⟩ := h
  exact ⟨⟨vx_Zq.moved hW.alike h1.1, vx_Zq.moved hW.alike h1.2⟩, ⟨vk_S.moved hW.alike h2, h4.moved hW.alike, h5.moved hW.alike⟩, fun i q hq => vk_R.warm hW (h3 i q hq)⟩
theorem ev_Z_same {sA : Nat → Nat} {A : Nat → Prop} {u U : State} {H : Heap} (hv : U.vm = u.vm) (h : ev_Z sA A u H) : ev_Z sA A U H := by
  obtain ⟨h1, ⟨h2, h4, h5⟩, h3⟩ := h
  have hvm : u.vm.Alike U.vm := by rw [hv]; exact Vm.Alike.refl u.vm
  exact ⟨⟨vx_Zq.moved hvm h1.1, vx_Zq.moved hvm h1.2⟩, ⟨vk_S.moved hvm h2, h4.moved hvm, h5.moved hvm⟩, fun i q hq => vk_R.same hv (h3 i q hq)⟩
theorem ev_Z_down {sA : Nat → Nat} {A B : Nat → Prop} {U : State} {H0 H : Heap} {locs : List Loc} (h : ev_Z sA A U H0) (hS : va_S A H0 H locs) (hAB : ∀ q, B q → A q) : ev_Z sA B U H := by
  obtain ⟨h1, ⟨h2, h4, h5⟩, h3⟩ := h
  exact ⟨⟨vx_Zq.narrow (vx_Zq.kept h1.1 hS.2.1) hAB, vx_Zq.narrow (vx_Zq.kept h1.2 hS.2.1) hAB⟩, ⟨vk_S.narrow (vk_S.kept h2 hS.2.1) hAB, (h4.kept hS.2.1).narrow hAB, (h5.kept hS.2.1).narrow hAB⟩, h3⟩
def ev_txt : List (String × Nat × String) := [("ScheduleHouse", 72, "n is not 1 .. 8"), ("ScheduleHouse", 80, "more than 3000 bytes"), ("ScheduleHouse$Reader", 104, "a fault of the text"), ("ScheduleHouse", 129, "no such what"), ("ScheduleHouse", 189, "400 choices were done"), ("ScheduleHouse", 195, "n is not 0 .. 400"), ("ScheduleHouse", 198, "n is not 0 .. how many were done"), ("ScheduleHouse", 276, "no such structure"), ("ScheduleHouse", 292, "limit is not 1 .. 3000"), ("ScheduleHouse", 340, "no such finding"), ("ScheduleHouse", 342, "more than 400 choices lead to it"), ("ScheduleHouse", 384, "nothing is compiled"), ("ScheduleHouse", 386, "there is no run"), ("ScheduleHouse", 388, "no such way"), ("ScheduleHouse", 390, "there is none such")]
def ev_tab : List Cond := [.castable iSE iSE, .castable iAE iAE, .castable iOE iOE, .declares (Bundle.initS "java/lang/RuntimeException"), .declares (Bundle.initS "java/lang/Exception"), .declares (Bundle.initS "java/lang/Throwable")]
def ev_no : List (String × String) := [(iAE, iSE), (iOE, iSE), (iOE, iAE), (iSE, iAE), (iSE, iOE), (iAE, iOE)]
/-- the class of the arrays of arrays of ints is there -/
def va_AI (U : State) : Prop := (Cond.arrayOver (.array .int)).before #[] U = true
theorem va_AI_moved {u U : State} (hvm : u.vm.Alike U.vm) (h : va_AI u) : va_AI U := arrayOver_alikeB (s := u) hvm h
def ev (U : State) : Prop := (∀ x ∈ ev_txt, ∃ a : Nat, vk_R x.1 x.2.1 x.2.2 a U) ∧ (∀ w ∈ ev_tab, w.before #[] U = true) ∧ (∀ x ∈ ev_no, va_Nc x.1 x.2 U) ∧ va_AO "ScheduleHouse$Trial" U ∧ va_Nw (.methodLinkNest RX5 24 yX1_init "ScheduleHouse") U ∧ va_AI U
theorem ev_tabm {u U : State} (hvm : u.vm.Alike U.vm) (w : Cond) (hw : w ∈ ev_tab) (h : w.before #[] u = true) : w.before #[] U = true := by
  have tr : ∀ {c : Cond}, c.onTables = true → c.before #[] (u.setVm U.vm) = true → c.before #[] U = true := by
    intro c hc h
    have e := Cond.onTables_vm (A := #[]) (A' := #[]) (U := u) (U' := U) U.vm c hc
    have hU : U.setVm U.vm = U := rfl
    rw [hU] at e
    rw [← e]
    exact h
  simp only [ev_tab, List.mem_cons, List.not_mem_nil, or_false] at hw
  rcases hw with rfl | rfl | rfl | rfl | rfl | rfl
  · exact tr rfl (by rw [Cond.castable_setVm hvm]; exact h)
  · exact tr rfl (by rw [Cond.castable_setVm hvm]; exact h)
  · exact tr rfl (by rw [Cond.castable_setVm hvm]; exact h)
  · exact tr rfl (by rw [Cond.declares_setVm hvm]; exact h)
  · exact tr rfl (by rw [Cond.declares_setVm hvm]; exact h)
  · exact tr rfl (by rw [Cond.declares_setVm hvm]; exact h)
theorem ev_warm {s U : State} (hW : s.WarmedH U.vm) (h : ev s) : ev U := by
  refine ⟨fun x hx => ?_, fun w hw => ev_tabm hW.alike w hw (h.2.1 w hw), fun x hx => va_Nc.moved hW.alike (h.2.2.1 x hx), va_AO.moved hW.alike h.2.2.2.1, va_Nw.warmM hW h.2.2.2.2.1, va_AI_moved hW.alike h.2.2.2.2.2⟩
  obtain ⟨a, ha⟩ := h.1 x hx
  exact ⟨a, vk_R.warm hW ha⟩
theorem ev_same {u U : State} (hv : U.vm = u.vm) (h : ev u) : ev U := by
  have hvm : u.vm.Alike U.vm := by rw [hv]; exact Vm.Alike.refl u.vm
  refine ⟨fun x hx => ?_, fun w hw => ev_tabm hvm w hw (h.2.1 w hw), fun x hx => va_Nc.moved hvm (h.2.2.1 x hx), va_AO.moved hvm h.2.2.2.1, va_Nw.same rfl hv.symm h.2.2.2.2.1, va_AI_moved hvm h.2.2.2.2.2⟩
  obtain ⟨a, ha⟩ := h.1 x hx
  exact ⟨a, vk_R.same hv ha⟩
