/-! THE CLAIM OUT OF ONE WALK OF THE LAW'S BODY. Your part is whole_start (and what it stands on); all else here is the same for every law, but numbers. -/
def R_law : String := "ScheduleHouseLaw"
def lw_P (b : Addr) (xs : List Int32) (args : Array Value) (s : State) : Prop := args = #[.ref b] ∧ s.IntsAt b xs ∧ xs.length ≤ 4 ∧ (Jvm.Cond.and given_1 narrow_1).before args s = true
def lw_Q (_ : Array Value) (s : State) (o : Outcome) (t : State) : Prop := o = .returned (some (.int 1)) ∧ Framed s o t [] 600002 7302232
def lw_Z (below : List Frame) (a : Array Value) (s : State) : State → Prop := fun t => ∃ o, t.status = .running ∧ Ended t below o ∧ lw_Q a s o t
/-- the law's own end, with 1 on the stack, nothing written that was there before, its room as the claim has it -/
theorem lw_ret {p : Program} {l : Launch} {e : Env} {s : State} {m : MethodId} {below : List Frame} {meth : Method} {c : Code} {b : Nat} (hx : p.tables.exec = Jvm.exec) (hb : c.code = code) (hr : meth.sig.returnType = ret) (hlocks : meth.locks = false) {pc : Nat} {H : Heap} {ls : Array Slot} (hdg : decode code pc = .ok (.ireturn, 1)) : W p l e room_1 s m #[Value.ref b] below meth c H [] 600002 7302232 (lw_Z below #[Value.ref b] s) (F0 m pc ls [.int 1]) := by
  intro T hT X
  obtain ⟨fs, hret, hrun, hended, hW, hframe⟩ := X.leave (v := some (.int 1)) (hlocks := hlocks) (fun h => by rw [hr] at h; cases h)
  have hmeth' : T.vm.method? m = some meth := X.method'
  refine ⟨T.setFrames fs, ?_, .returned (some (.int 1)), hrun, hended, rfl, ⟨_, rfl⟩, hW, hframe⟩
  jvm_step X.here [X.here.top, hx, hb, hdg, hmeth', hr, ret, narrow_b1]
  (try refine ⟨rfl, ?_⟩); (try refine ⟨rfl, ?_⟩)
  first | (intro acts; rw [hret _ acts rfl rfl rfl]) | rw [hret _ _ rfl rfl rfl]
  exact Steps.refl _
/-- what holds at the law's entry: the machine, the code, the tables' words (any of lw_tbl by 'hts w (by decide +kernel)'), the script of L ints xs at the cell b, what the Statement gives of the start (any of its parts by flat_of_before) -/
def lw_At (p : Program) (s : State) (m : MethodId) (meth : Method) (c : Code) (b L : Nat) (xs : Nat → Int32) : Prop :=
  p.tables.exec = Jvm.exec ∧ c.code = code ∧ meth.sig.returnType = ret ∧ c.maxLocals = 7 ∧ s.vm.findClass R_law = some m.cls ∧ (∀ w ∈ lw_tbl, w.before #[Value.ref b] s = true) ∧ va_X b L xs s s.heap ∧ b < s.heap.size ∧ meth.locks = false ∧ (Jvm.Cond.and given_1 narrow_1).before #[Value.ref b] s = true
theorem g_lw_0 : GoodIn lw_tbl (va_wsS RL 105 yL_feed v_c_L_feed) := goodIn_sub (tb_a (tb_c (List.mem_of_getElem? (i := 1206) (by decide +kernel)) (tb_c (List.mem_of_getElem? (i := 1207) (by decide +kernel)) (tb_c (List.mem_of_getElem? (i := 205) (by decide +kernel)) (tb_n)))) t_v_c_L_feed) (by decide +kernel)
theorem g_lw_1 : GoodIn lw_tbl (wsV RL 110 RX12 yX12_feed v_c_m_feed) := goodIn_sub (tb_a (tb_c (List.mem_of_getElem? (i := 2494) (by decide +kernel)) (tb_c (List.mem_of_getElem? (i := 2495) (by decide +kernel)) (tb_c (List.mem_of_getElem? (i := 2496) (by decide +kernel)) (tb_c (List.mem_of_getElem? (i := 215) (by decide +kernel)) (tb_n))))) t_v_c_m_feed) (by decide +kernel)
theorem g_lw_2 : GoodIn lw_tbl (wsV RL 111 RX12 yX12_thrown v_c_m_thrown) := goodIn_sub (tb_a (tb_c (List.mem_of_getElem? (i := 2490) (by decide +kernel)) (tb_c (List.mem_of_getElem? (i := 2491) (by decide +kernel)) (tb_c (List.mem_of_getElem? (i := 2492) (by decide +kernel)) (tb_c (List.mem_of_getElem? (i := 215) (by decide +kernel)) (tb_n))))) t_v_c_m_thrown) (by decide +kernel)
theorem g_lw_3 : GoodIn lw_tbl (wsV RL 114 RX11 yX11_wipe v_c_wipe) := goodIn_sub (tb_a (tb_c (List.mem_of_getElem? (i := 777) (by decide +kernel)) (tb_c (List.mem_of_getElem? (i := 778) (by decide +kernel)) (tb_c (List.mem_of_getElem? (i := 779) (by decide +kernel)) (tb_c (List.mem_of_getElem? (i := 206) (by decide +kernel)) (tb_n))))) t_v_c_wipe) (by decide +kernel)
theorem g_lw_4 : GoodIn lw_tbl (wsV RL 117 RX12 yX12_wipe v_c_m_wipe) := goodIn_sub (tb_a (tb_c (List.mem_of_getElem? (i := 2509) (by decide +kernel)) (tb_c (List.mem_of_getElem? (i := 2510) (by decide +kernel)) (tb_c (List.mem_of_getElem? (i := 2511) (by decide +kernel)) (tb_c (List.mem_of_getElem? (i := 215) (by decide +kernel)) (tb_n))))) t_v_c_m_wipe) (by decide +kernel)
theorem g_lw_5 : GoodIn lw_tbl (wsV RL 118 RX11 yX11_compile v_c_compile) := goodIn_sub (tb_a (tb_c (List.mem_of_getElem? (i := 785) (by decide +kernel)) (tb_c (List.mem_of_getElem? (i := 786) (by decide +kernel)) (tb_c (List.mem_of_getElem? (i := 787) (by decide +kernel)) (tb_c (List.mem_of_getElem? (i := 206) (by decide +kernel)) (tb_n))))) t_v_c_compile) (by decide +kernel)
theorem g_lw_6 : GoodIn lw_tbl (wsV RL 121 RX12 yX12_compile v_c_m_compile) := goodIn_sub (tb_a (tb_c (List.mem_of_getElem? (i := 2513) (by decide +kernel)) (tb_c (List.mem_of_getElem? (i := 2514) (by decide +kernel)) (tb_c (List.mem_of_getElem? (i := 2515) (by decide +kernel)) (tb_c (List.mem_of_getElem? (i := 215) (by decide +kernel)) (tb_n))))) t_v_c_m_compile) (by decide +kernel)
theorem g_lw_7 : GoodIn lw_tbl (va_wsS RL 122 yL_fault v_c_L_fault) := goodIn_sub (tb_a (tb_c (List.mem_of_getElem? (i := 1235) (by decide +kernel)) (tb_c (List.mem_of_getElem? (i := 1236) (by decide +kernel)) (tb_c (List.mem_of_getElem? (i := 205) (by decide +kernel)) (tb_n)))) t_v_c_L_fault) (by decide +kernel)
theorem g_lw_8 : GoodIn lw_tbl (wsV RL 125 RX12 yX12_fault_ v_c_m_fault_) := goodIn_sub (tb_a (tb_c (List.mem_of_getElem? (i := 2728) (by decide +kernel)) (tb_c (List.mem_of_getElem? (i := 2729) (by decide +kernel)) (tb_c (List.mem_of_getElem? (i := 2730) (by decide +kernel)) (tb_c (List.mem_of_getElem? (i := 215) (by decide +kernel)) (tb_n))))) t_v_c_m_fault_) (by decide +kernel)
theorem g_lw_9 : GoodIn lw_tbl (va_wsS RL 126 yL_count v_c_L_count) := goodIn_sub (tb_a (tb_c (List.mem_of_getElem? (i := 1259) (by decide +kernel)) (tb_c (List.mem_of_getElem? (i := 1260) (by decide +kernel)) (tb_c (List.mem_of_getElem? (i := 205) (by decide +kernel)) (tb_n)))) t_v_c_L_count) (by decide +kernel)
theorem g_lw_10 : GoodIn lw_tbl (wsV RL 128 RX12 yX12_count v_c_m_count) := goodIn_sub (tb_a (tb_c (List.mem_of_getElem? (i := 2732) (by decide +kernel)) (tb_c (List.mem_of_getElem? (i := 2733) (by decide +kernel)) (tb_c (List.mem_of_getElem? (i := 2734) (by decide +kernel)) (tb_c (List.mem_of_getElem? (i := 215) (by decide +kernel)) (tb_n))))) t_v_c_m_count) (by decide +kernel)
theorem g_lw_11 : GoodIn lw_tbl (va_wsS RL 129 yL_begin v_c_L_begin) := goodIn_sub (tb_a (tb_c (List.mem_of_getElem? (i := 1269) (by decide +kernel)) (tb_c (List.mem_of_getElem? (i := 1270) (by decide +kernel)) (tb_c (List.mem_of_getElem? (i := 205) (by decide +kernel)) (tb_n)))) t_v_c_L_begin) (by decide +kernel)
theorem g_lw_12 : GoodIn lw_tbl (wsV RL 131 RX12 yX12_begin v_c_m_begin) := goodIn_sub (tb_a (tb_c (List.mem_of_getElem? (i := 2736) (by decide +kernel)) (tb_c (List.mem_of_getElem? (i := 2737) (by decide +kernel)) (tb_c (List.mem_of_getElem? (i := 2738) (by decide +kernel)) (tb_c (List.mem_of_getElem? (i := 215) (by decide +kernel)) (tb_n))))) t_v_c_m_begin) (by decide +kernel)
theorem g_lw_13 : GoodIn lw_tbl (va_wsS RL 132 yL_choices v_c_L_choices) := goodIn_sub (tb_a (tb_c (List.mem_of_getElem? (i := 1390) (by decide +kernel)) (tb_c (List.mem_of_getElem? (i := 1391) (by decide +kernel)) (tb_c (List.mem_of_getElem? (i := 205) (by decide +kernel)) (tb_n)))) t_v_c_L_choices) (by decide +kernel)
theorem g_lw_14 : GoodIn lw_tbl (wsV RL 135 RX12 yX12_choices v_c_m_choices) := goodIn_sub (tb_a (tb_c (List.mem_of_getElem? (i := 2791) (by decide +kernel)) (tb_c (List.mem_of_getElem? (i := 2792) (by decide +kernel)) (tb_c (List.mem_of_getElem? (i := 2793) (by decide +kernel)) (tb_c (List.mem_of_getElem? (i := 215) (by decide +kernel)) (tb_n))))) t_v_c_m_choices) (by decide +kernel)
theorem g_lw_15 : GoodIn lw_tbl (va_wsS RL 136 yL_choice v_c_L_choice) := goodIn_sub (tb_a (tb_c (List.mem_of_getElem? (i := 1402) (by decide +kernel)) (tb_c (List.mem_of_getElem? (i := 1403) (by decide +kernel)) (tb_c (List.mem_of_getElem? (i := 205) (by decide +kernel)) (tb_n)))) t_v_c_L_choice) (by decide +kernel)
theorem g_lw_16 : GoodIn lw_tbl (wsV RL 139 RX12 yX12_choice v_c_m_choice) := goodIn_sub (tb_a (tb_c (List.mem_of_getElem? (i := 2799) (by decide +kernel)) (tb_c (List.mem_of_getElem? (i := 2800) (by decide +kernel)) (tb_c (List.mem_of_getElem? (i := 2801) (by decide +kernel)) (tb_c (List.mem_of_getElem? (i := 215) (by decide +kernel)) (tb_n))))) t_v_c_m_choice) (by decide +kernel)
theorem g_lw_17 : GoodIn lw_tbl (va_wsS RL 140 yL_go v_c_L_go) := goodIn_sub (tb_a (tb_c (List.mem_of_getElem? (i := 1423) (by decide +kernel)) (tb_c (List.mem_of_getElem? (i := 1424) (by decide +kernel)) (tb_c (List.mem_of_getElem? (i := 205) (by decide +kernel)) (tb_n)))) t_v_c_L_go) (by decide +kernel)
theorem g_lw_18 : GoodIn lw_tbl (wsV RL 142 RX12 yX12_go v_c_m_go) := goodIn_sub (tb_a (tb_c (List.mem_of_getElem? (i := 2807) (by decide +kernel)) (tb_c (List.mem_of_getElem? (i := 2808) (by decide +kernel)) (tb_c (List.mem_of_getElem? (i := 2809) (by decide +kernel)) (tb_c (List.mem_of_getElem? (i := 215) (by decide +kernel)) (tb_n))))) t_v_c_m_go) (by decide +kernel)
theorem g_lw_19 : GoodIn lw_tbl (va_wsS RL 143 yL_draw v_c_L_draw) := goodIn_sub (tb_a (tb_c (List.mem_of_getElem? (i := 1542) (by decide +kernel)) (tb_c (List.mem_of_getElem? (i := 1543) (by decide +kernel)) (tb_c (List.mem_of_getElem? (i := 205) (by decide +kernel)) (tb_n)))) t_v_c_L_draw) (by decide +kernel)
theorem g_lw_20 : GoodIn lw_tbl (wsV RL 145 RX12 yX12_draw v_c_m_draw) := goodIn_sub (tb_a (tb_c (List.mem_of_getElem? (i := 2835) (by decide +kernel)) (tb_c (List.mem_of_getElem? (i := 2836) (by decide +kernel)) (tb_c (List.mem_of_getElem? (i := 2837) (by decide +kernel)) (tb_c (List.mem_of_getElem? (i := 215) (by decide +kernel)) (tb_n))))) t_v_c_m_draw) (by decide +kernel)
theorem g_lw_21 : GoodIn lw_tbl (va_wsS RL 146 yL_again v_c_L_again) := goodIn_sub (tb_a (tb_c (List.mem_of_getElem? (i := 1551) (by decide +kernel)) (tb_c (List.mem_of_getElem? (i := 1552) (by decide +kernel)) (tb_c (List.mem_of_getElem? (i := 205) (by decide +kernel)) (tb_n)))) t_v_c_L_again) (by decide +kernel)
theorem g_lw_22 : GoodIn lw_tbl (wsV RL 148 RX12 yX12_again v_c_m_again) := goodIn_sub (tb_a (tb_c (List.mem_of_getElem? (i := 2840) (by decide +kernel)) (tb_c (List.mem_of_getElem? (i := 2841) (by decide +kernel)) (tb_c (List.mem_of_getElem? (i := 2842) (by decide +kernel)) (tb_c (List.mem_of_getElem? (i := 215) (by decide +kernel)) (tb_n))))) t_v_c_m_again) (by decide +kernel)
theorem g_lw_23 : GoodIn lw_tbl (va_wsS RL 149 yL_run v_c_L_run) := goodIn_sub (tb_a (tb_c (List.mem_of_getElem? (i := 1559) (by decide +kernel)) (tb_c (List.mem_of_getElem? (i := 1560) (by decide +kernel)) (tb_c (List.mem_of_getElem? (i := 205) (by decide +kernel)) (tb_n)))) t_v_c_L_run) (by decide +kernel)
theorem g_lw_24 : GoodIn lw_tbl (wsV RL 151 RX12 yX12_run v_c_m_run) := goodIn_sub (tb_a (tb_c (List.mem_of_getElem? (i := 2844) (by decide +kernel)) (tb_c (List.mem_of_getElem? (i := 2845) (by decide +kernel)) (tb_c (List.mem_of_getElem? (i := 2846) (by decide +kernel)) (tb_c (List.mem_of_getElem? (i := 215) (by decide +kernel)) (tb_n))))) t_v_c_m_run) (by decide +kernel)
theorem g_lw_25 : GoodIn lw_tbl (va_wsS RL 152 yL_cell v_c_L_cell) := goodIn_sub (tb_a (tb_c (List.mem_of_getElem? (i := 1582) (by decide +kernel)) (tb_c (List.mem_of_getElem? (i := 1583) (by decide +kernel)) (tb_c (List.mem_of_getElem? (i := 205) (by decide +kernel)) (tb_n)))) t_v_c_L_cell) (by decide +kernel)
theorem g_lw_26 : GoodIn lw_tbl (wsV RL 154 RX12 yX12_cell v_c_m_cell) := goodIn_sub (tb_a (tb_c (List.mem_of_getElem? (i := 2868) (by decide +kernel)) (tb_c (List.mem_of_getElem? (i := 2869) (by decide +kernel)) (tb_c (List.mem_of_getElem? (i := 2870) (by decide +kernel)) (tb_c (List.mem_of_getElem? (i := 215) (by decide +kernel)) (tb_n))))) t_v_c_m_cell) (by decide +kernel)
theorem g_lw_27 : GoodIn lw_tbl (va_wsS RL 155 yL_seen v_c_L_seen) := goodIn_sub (tb_a (tb_c (List.mem_of_getElem? (i := 1589) (by decide +kernel)) (tb_c (List.mem_of_getElem? (i := 1590) (by decide +kernel)) (tb_c (List.mem_of_getElem? (i := 205) (by decide +kernel)) (tb_n)))) t_v_c_L_seen) (by decide +kernel)
theorem g_lw_28 : GoodIn lw_tbl (wsV RL 157 RX12 yX12_seen v_c_m_seen) := goodIn_sub (tb_a (tb_c (List.mem_of_getElem? (i := 2872) (by decide +kernel)) (tb_c (List.mem_of_getElem? (i := 2873) (by decide +kernel)) (tb_c (List.mem_of_getElem? (i := 2874) (by decide +kernel)) (tb_c (List.mem_of_getElem? (i := 215) (by decide +kernel)) (tb_n))))) t_v_c_m_seen) (by decide +kernel)
theorem g_lw_29 : GoodIn lw_tbl (va_wsS RL 158 yL_lock v_c_L_lock) := goodIn_sub (tb_a (tb_c (List.mem_of_getElem? (i := 1597) (by decide +kernel)) (tb_c (List.mem_of_getElem? (i := 1598) (by decide +kernel)) (tb_c (List.mem_of_getElem? (i := 205) (by decide +kernel)) (tb_n)))) t_v_c_L_lock) (by decide +kernel)
theorem g_lw_30 : GoodIn lw_tbl (wsV RL 160 RX12 yX12_lock v_c_m_lock) := goodIn_sub (tb_a (tb_c (List.mem_of_getElem? (i := 2876) (by decide +kernel)) (tb_c (List.mem_of_getElem? (i := 2877) (by decide +kernel)) (tb_c (List.mem_of_getElem? (i := 2878) (by decide +kernel)) (tb_c (List.mem_of_getElem? (i := 215) (by decide +kernel)) (tb_n))))) t_v_c_m_lock) (by decide +kernel)
theorem g_lw_31 : GoodIn lw_tbl (va_wsS RL 161 yL_thread v_c_L_thread) := goodIn_sub (tb_a (tb_c (List.mem_of_getElem? (i := 1613) (by decide +kernel)) (tb_c (List.mem_of_getElem? (i := 1614) (by decide +kernel)) (tb_c (List.mem_of_getElem? (i := 205) (by decide +kernel)) (tb_n)))) t_v_c_L_thread) (by decide +kernel)
theorem g_lw_32 : GoodIn lw_tbl (wsV RL 163 RX12 yX12_thread v_c_m_thread) := goodIn_sub (tb_a (tb_c (List.mem_of_getElem? (i := 2880) (by decide +kernel)) (tb_c (List.mem_of_getElem? (i := 2881) (by decide +kernel)) (tb_c (List.mem_of_getElem? (i := 2882) (by decide +kernel)) (tb_c (List.mem_of_getElem? (i := 215) (by decide +kernel)) (tb_n))))) t_v_c_m_thread) (by decide +kernel)
theorem g_lw_33 : GoodIn lw_tbl (va_wsS RL 164 yL_local v_c_L_local) := goodIn_sub (tb_a (tb_c (List.mem_of_getElem? (i := 1626) (by decide +kernel)) (tb_c (List.mem_of_getElem? (i := 1627) (by decide +kernel)) (tb_c (List.mem_of_getElem? (i := 205) (by decide +kernel)) (tb_n)))) t_v_c_L_local) (by decide +kernel)
theorem g_lw_34 : GoodIn lw_tbl (wsV RL 166 RX12 yX12_local v_c_m_local) := goodIn_sub (tb_a (tb_c (List.mem_of_getElem? (i := 2891) (by decide +kernel)) (tb_c (List.mem_of_getElem? (i := 2892) (by decide +kernel)) (tb_c (List.mem_of_getElem? (i := 2893) (by decide +kernel)) (tb_c (List.mem_of_getElem? (i := 215) (by decide +kernel)) (tb_n))))) t_v_c_m_local) (by decide +kernel)
theorem g_lw_35 : GoodIn lw_tbl (va_wsS RL 167 yL_act v_c_L_act) := goodIn_sub (tb_a (tb_c (List.mem_of_getElem? (i := 1633) (by decide +kernel)) (tb_c (List.mem_of_getElem? (i := 1634) (by decide +kernel)) (tb_c (List.mem_of_getElem? (i := 205) (by decide +kernel)) (tb_n)))) t_v_c_L_act) (by decide +kernel)
theorem g_lw_36 : GoodIn lw_tbl (wsV RL 169 RX12 yX12_act v_c_m_act) := goodIn_sub (tb_a (tb_c (List.mem_of_getElem? (i := 2895) (by decide +kernel)) (tb_c (List.mem_of_getElem? (i := 2896) (by decide +kernel)) (tb_c (List.mem_of_getElem? (i := 2897) (by decide +kernel)) (tb_c (List.mem_of_getElem? (i := 215) (by decide +kernel)) (tb_n))))) t_v_c_m_act) (by decide +kernel)
theorem g_lw_37 : GoodIn lw_tbl (va_wsS RL 170 yL_before v_c_L_before) := goodIn_sub (tb_a (tb_c (List.mem_of_getElem? (i := 1640) (by decide +kernel)) (tb_c (List.mem_of_getElem? (i := 1641) (by decide +kernel)) (tb_c (List.mem_of_getElem? (i := 205) (by decide +kernel)) (tb_n)))) t_v_c_L_before) (by decide +kernel)
theorem g_lw_38 : GoodIn lw_tbl (wsV RL 172 RX12 yX12_before v_c_m_before) := goodIn_sub (tb_a (tb_c (List.mem_of_getElem? (i := 2899) (by decide +kernel)) (tb_c (List.mem_of_getElem? (i := 2900) (by decide +kernel)) (tb_c (List.mem_of_getElem? (i := 2901) (by decide +kernel)) (tb_c (List.mem_of_getElem? (i := 215) (by decide +kernel)) (tb_n))))) t_v_c_m_before) (by decide +kernel)
theorem g_lw_39 : GoodIn lw_tbl (va_wsS RL 173 yL_race v_c_L_race) := goodIn_sub (tb_a (tb_c (List.mem_of_getElem? (i := 1648) (by decide +kernel)) (tb_c (List.mem_of_getElem? (i := 1649) (by decide +kernel)) (tb_c (List.mem_of_getElem? (i := 205) (by decide +kernel)) (tb_n)))) t_v_c_L_race) (by decide +kernel)
theorem g_lw_40 : GoodIn lw_tbl (wsV RL 175 RX12 yX12_race v_c_m_race) := goodIn_sub (tb_a (tb_c (List.mem_of_getElem? (i := 2903) (by decide +kernel)) (tb_c (List.mem_of_getElem? (i := 2904) (by decide +kernel)) (tb_c (List.mem_of_getElem? (i := 2905) (by decide +kernel)) (tb_c (List.mem_of_getElem? (i := 215) (by decide +kernel)) (tb_n))))) t_v_c_m_race) (by decide +kernel)
theorem g_lw_41 : GoodIn lw_tbl (va_wsS RL 176 yL_linear v_c_L_linear) := goodIn_sub (tb_a (tb_c (List.mem_of_getElem? (i := 1663) (by decide +kernel)) (tb_c (List.mem_of_getElem? (i := 1664) (by decide +kernel)) (tb_c (List.mem_of_getElem? (i := 205) (by decide +kernel)) (tb_n)))) t_v_c_L_linear) (by decide +kernel)
theorem g_lw_42 : GoodIn lw_tbl (wsV RL 178 RX12 yX12_linear v_c_m_linear) := goodIn_sub (tb_a (tb_c (List.mem_of_getElem? (i := 2907) (by decide +kernel)) (tb_c (List.mem_of_getElem? (i := 2908) (by decide +kernel)) (tb_c (List.mem_of_getElem? (i := 2909) (by decide +kernel)) (tb_c (List.mem_of_getElem? (i := 215) (by decide +kernel)) (tb_n))))) t_v_c_m_linear) (by decide +kernel)
theorem g_lw_43 : GoodIn lw_tbl (va_wsS RL 179 yL_attempt v_c_L_attempt) := goodIn_sub (tb_a (tb_c (List.mem_of_getElem? (i := 1771) (by decide +kernel)) (tb_c (List.mem_of_getElem? (i := 1772) (by decide +kernel)) (tb_c (List.mem_of_getElem? (i := 205) (by decide +kernel)) (tb_n)))) t_v_c_L_attempt) (by decide +kernel)
theorem g_lw_44 : GoodIn lw_tbl (wsV RL 181 RX12 yX12_attempt v_c_m_attempt) := goodIn_sub (tb_a (tb_c (List.mem_of_getElem? (i := 2931) (by decide +kernel)) (tb_c (List.mem_of_getElem? (i := 2932) (by decide +kernel)) (tb_c (List.mem_of_getElem? (i := 2933) (by decide +kernel)) (tb_c (List.mem_of_getElem? (i := 215) (by decide +kernel)) (tb_n))))) t_v_c_m_attempt) (by decide +kernel)
theorem g_lw_45 : GoodIn lw_tbl (va_wsS RL 182 yL_tried v_c_L_tried) := goodIn_sub (tb_a (tb_c (List.mem_of_getElem? (i := 1997) (by decide +kernel)) (tb_c (List.mem_of_getElem? (i := 1998) (by decide +kernel)) (tb_c (List.mem_of_getElem? (i := 205) (by decide +kernel)) (tb_n)))) t_v_c_L_tried) (by decide +kernel)
theorem g_lw_46 : GoodIn lw_tbl (wsV RL 184 RX12 yX12_tried v_c_m_tried) := goodIn_sub (tb_a (tb_c (List.mem_of_getElem? (i := 2980) (by decide +kernel)) (tb_c (List.mem_of_getElem? (i := 2981) (by decide +kernel)) (tb_c (List.mem_of_getElem? (i := 2982) (by decide +kernel)) (tb_c (List.mem_of_getElem? (i := 215) (by decide +kernel)) (tb_n))))) t_v_c_m_tried) (by decide +kernel)
theorem g_lw_47 : GoodIn lw_tbl (va_wsS RL 185 yL_outcome v_c_L_outcome) := goodIn_sub (tb_a (tb_c (List.mem_of_getElem? (i := 2004) (by decide +kernel)) (tb_c (List.mem_of_getElem? (i := 2005) (by decide +kernel)) (tb_c (List.mem_of_getElem? (i := 205) (by decide +kernel)) (tb_n)))) t_v_c_L_outcome) (by decide +kernel)
theorem g_lw_48 : GoodIn lw_tbl (wsV RL 188 RX12 yX12_outcome v_c_m_outcome) := goodIn_sub (tb_a (tb_c (List.mem_of_getElem? (i := 2984) (by decide +kernel)) (tb_c (List.mem_of_getElem? (i := 2985) (by decide +kernel)) (tb_c (List.mem_of_getElem? (i := 2986) (by decide +kernel)) (tb_c (List.mem_of_getElem? (i := 215) (by decide +kernel)) (tb_n))))) t_v_c_m_outcome) (by decide +kernel)
theorem g_lw_49 : GoodIn lw_tbl (va_wsS RL 189 yL_finding v_c_L_finding) := goodIn_sub (tb_a (tb_c (List.mem_of_getElem? (i := 2015) (by decide +kernel)) (tb_c (List.mem_of_getElem? (i := 2016) (by decide +kernel)) (tb_c (List.mem_of_getElem? (i := 205) (by decide +kernel)) (tb_n)))) t_v_c_L_finding) (by decide +kernel)
theorem g_lw_50 : GoodIn lw_tbl (wsV RL 191 RX12 yX12_finding v_c_m_finding) := goodIn_sub (tb_a (tb_c (List.mem_of_getElem? (i := 2988) (by decide +kernel)) (tb_c (List.mem_of_getElem? (i := 2989) (by decide +kernel)) (tb_c (List.mem_of_getElem? (i := 2990) (by decide +kernel)) (tb_c (List.mem_of_getElem? (i := 215) (by decide +kernel)) (tb_n))))) t_v_c_m_finding) (by decide +kernel)
theorem g_lw_51 : GoodIn lw_tbl (va_wsS RL 192 yL_show v_c_L_show) := goodIn_sub (tb_a (tb_c (List.mem_of_getElem? (i := 2030) (by decide +kernel)) (tb_c (List.mem_of_getElem? (i := 2031) (by decide +kernel)) (tb_c (List.mem_of_getElem? (i := 205) (by decide +kernel)) (tb_n)))) t_v_c_L_show) (by decide +kernel)
theorem g_lw_52 : GoodIn lw_tbl (wsV RL 194 RX12 yX12_show v_c_m_show) := goodIn_sub (tb_a (tb_c (List.mem_of_getElem? (i := 2992) (by decide +kernel)) (tb_c (List.mem_of_getElem? (i := 2993) (by decide +kernel)) (tb_c (List.mem_of_getElem? (i := 2994) (by decide +kernel)) (tb_c (List.mem_of_getElem? (i := 215) (by decide +kernel)) (tb_n))))) t_v_c_m_show) (by decide +kernel)
theorem g_lw_53 : GoodIn lw_tbl (va_wsS RL 195 yL_common v_c_L_common) := goodIn_sub (tb_a (tb_c (List.mem_of_getElem? (i := 2042) (by decide +kernel)) (tb_c (List.mem_of_getElem? (i := 2043) (by decide +kernel)) (tb_c (List.mem_of_getElem? (i := 205) (by decide +kernel)) (tb_n)))) t_v_c_L_common) (by decide +kernel)
theorem g_lw_54 : GoodIn lw_tbl (wsV RL 197 RX12 yX12_common v_c_m_common) := goodIn_sub (tb_a (tb_c (List.mem_of_getElem? (i := 2996) (by decide +kernel)) (tb_c (List.mem_of_getElem? (i := 2997) (by decide +kernel)) (tb_c (List.mem_of_getElem? (i := 2998) (by decide +kernel)) (tb_c (List.mem_of_getElem? (i := 215) (by decide +kernel)) (tb_n))))) t_v_c_m_common) (by decide +kernel)
theorem g_lw_55 : GoodIn lw_tbl (va_wsS RL 198 yL_ring v_c_L_ring) := goodIn_sub (tb_a (tb_c (List.mem_of_getElem? (i := 2049) (by decide +kernel)) (tb_c (List.mem_of_getElem? (i := 2050) (by decide +kernel)) (tb_c (List.mem_of_getElem? (i := 205) (by decide +kernel)) (tb_n)))) t_v_c_L_ring) (by decide +kernel)
theorem g_lw_56 : GoodIn lw_tbl (wsV RL 200 RX12 yX12_ring v_c_m_ring) := goodIn_sub (tb_a (tb_c (List.mem_of_getElem? (i := 3000) (by decide +kernel)) (tb_c (List.mem_of_getElem? (i := 3001) (by decide +kernel)) (tb_c (List.mem_of_getElem? (i := 3002) (by decide +kernel)) (tb_c (List.mem_of_getElem? (i := 215) (by decide +kernel)) (tb_n))))) t_v_c_m_ring) (by decide +kernel)
theorem g_lw_57 : GoodIn lw_tbl (wsV RL 201 RX11 yX11_alike v_c_alike) := goodIn_sub (tb_a (tb_c (List.mem_of_getElem? (i := 1191) (by decide +kernel)) (tb_c (List.mem_of_getElem? (i := 1192) (by decide +kernel)) (tb_c (List.mem_of_getElem? (i := 1193) (by decide +kernel)) (tb_c (List.mem_of_getElem? (i := 206) (by decide +kernel)) (tb_n))))) t_v_c_alike) (by decide +kernel)
theorem g_lw_58 : GoodIn lw_tbl (wsV RL 204 RX12 yX12_alike v_c_m_alike) := goodIn_sub (tb_a (tb_c (List.mem_of_getElem? (i := 3004) (by decide +kernel)) (tb_c (List.mem_of_getElem? (i := 3005) (by decide +kernel)) (tb_c (List.mem_of_getElem? (i := 3006) (by decide +kernel)) (tb_c (List.mem_of_getElem? (i := 215) (by decide +kernel)) (tb_n))))) t_v_c_m_alike) (by decide +kernel)
theorem g_lw_60 : GoodIn lw_tbl (v_c_House_init) := goodIn_sub (t_v_c_House_init) (by decide +kernel)
def law_ok (x0 tk tx so pl li nm us me cd sp rd tr m0 b0 b1 b2 b3 b4 b5 o0 : Nat) (xf tf nf cf sf rf mf : List Value) : Prop := xf.length = 13 ∧ xf[0]? = some (.ref tk) ∧ xf[1]? = some (.ref nm) ∧ xf[2]? = some (.ref cd) ∧ xf[3]? = some (.ref rd) ∧ xf[6]? = some (.ref tr) ∧ xf[9]? = some (.int 0) ∧ xf[10]? = some (.int 0) ∧ xf[11]? = some (.int (-1)) ∧ xf[12]? = some (.int (-1)) ∧ tf.length = 10 ∧ tf[0]? = some (.ref tx) ∧ tf[1]? = some (.int 0) ∧ tf[2]? = some (.ref so) ∧ tf[3]? = some (.ref pl) ∧ tf[4]? = some (.ref li) ∧ nf.length = 12 ∧ nf[0]? = some (.ref tk) ∧ nf[1]? = some (.ref us) ∧ nf[2]? = some (.ref me) ∧ nf[11]? = some (.int 0) ∧ cf.length = 18 ∧ cf[0]? = some (.ref sp) ∧ sf.length = 10 ∧ rf.length = 18 ∧ rf[0]? = some (.ref tk) ∧ rf[1]? = some (.ref nm) ∧ rf[2]? = some (.ref cd) ∧ rf[3]? = some (.ref sp) ∧ mf.length = 139 ∧ (∀ j ∈ mz, mf[j]? = some (.int 0)) ∧ mf[11]? = some (.int (-1)) ∧ mf[12]? = some (.int (-1)) ∧ mf[1]? = some (.ref b0) ∧ mf[4]? = some (.ref b1) ∧ mf[5]? = some (.ref b2) ∧ mf[6]? = some (.ref b3) ∧ mf[7]? = some (.ref b4) ∧ mf[118]? = some (.ref b5)
/-- what stands at the law's switch -/
def law_in (D : va_G) (s : State) (H : Heap) (locs : List Loc) (x0 tk tx so pl li nm us me cd sp rd tr m0 b0 b1 b2 b3 b4 b5 o0 : Nat) (cx cs cp ci cu cm ct d0 d1 d2 d3 d4 d5 co : ClassId) (xf tf nf cf sf rf mf : List Value) : Prop := law_ok x0 tk tx so pl li nm us me cd sp rd tr m0 b0 b1 b2 b3 b4 b5 o0 xf tf nf cf sf rf mf ∧ va_P D vwCl [(x0, .inr (11, xf)), (tk, .inr (9, tf)), (tx, .inl (cx, 3000, .inl (fun _ => 0))), (so, .inl (cs, 702, .inl (fun _ => 0))), (pl, .inl (cp, 702, .inl (fun _ => 0))), (li, .inl (ci, 702, .inl (fun _ => 0))), (nm, .inr (6, nf)), (us, .inl (cu, 702, .inl (fun _ => 0))), (me, .inl (cm, 702, .inl (fun _ => 0))), (cd, .inr (0, cf)), (sp, .inr (8, sf)), (rd, .inr (7, rf)), (tr, .inl (ct, 2, .inr (.inr (.inr (.inr (fun _ => none)))))), (m0, .inr (12, mf)), (b0, .inl (d0, 3000, .inl (fun _ => 0))), (b1, .inl (d1, 710, .inl (fun _ => 0))), (b2, .inl (d2, 710, .inl (fun _ => 0))), (b3, .inl (d3, 710, .inl (fun _ => 0))), (b4, .inl (d4, 710, .inl (fun _ => 0))), (b5, .inl (d5, 2, .inl (fun _ => 0))), (o0, .inl (co, 1, .inr (.inl (fun _ => 0))))] H ∧ va_D (fun q : Nat => s.heap.size ≤ q) [(x0, .inr (11, xf)), (tk, .inr (9, tf)), (tx, .inl (cx, 3000, .inl (fun _ => 0))), (so, .inl (cs, 702, .inl (fun _ => 0))), (pl, .inl (cp, 702, .inl (fun _ => 0))), (li, .inl (ci, 702, .inl (fun _ => 0))), (nm, .inr (6, nf)), (us, .inl (cu, 702, .inl (fun _ => 0))), (me, .inl (cm, 702, .inl (fun _ => 0))), (cd, .inr (0, cf)), (sp, .inr (8, sf)), (rd, .inr (7, rf)), (tr, .inl (ct, 2, .inr (.inr (.inr (.inr (fun _ => none)))))), (m0, .inr (12, mf)), (b0, .inl (d0, 3000, .inl (fun _ => 0))), (b1, .inl (d1, 710, .inl (fun _ => 0))), (b2, .inl (d2, 710, .inl (fun _ => 0))), (b3, .inl (d3, 710, .inl (fun _ => 0))), (b4, .inl (d4, 710, .inl (fun _ => 0))), (b5, .inl (d5, 2, .inl (fun _ => 0))), (o0, .inl (co, 1, .inr (.inl (fun _ => 0))))] ∧ va_K D vwCl [(cx, .byte), (cs, .int), (cp, .int), (ci, .int), (cu, .int), (cm, .int), (ct, .object "ScheduleHouse$Trial"), (d0, .byte), (d1, .int), (d2, .int), (d3, .int), (d4, .int), (d5, .boolean), (co, .long)] s ∧ va_S (fun q : Nat => s.heap.size ≤ q) s.heap H locs
theorem cmp_eq (x : Int64) : lg_cmp x x = 0 := by
  unfold lg_cmp
  simp
theorem i_lw_X11 : ∀ w ∈ wsX110, w ∈ lw_tbl := tw_wsX110
theorem i_lw_X12 : ∀ w ∈ wsX120, w ∈ lw_tbl := tw_wsX120
set_option maxHeartbeats 400000 in
set_option maxRecDepth 100000 in
theorem law_tail {p : Program} {e : Env} {s : State} {m : MethodId} {below : List Frame} {meth : Method} {c : Code} (l : Launch) {b : Nat} {xs : Nat → Int32} (C0 : lw_At p s m meth c b 4 xs) {H : Heap} {locs : List Loc} {ls : Array Slot} (hS : va_S (fun q : Nat => s.heap.size ≤ q) s.heap H locs) (hl : lv_has ls 7 [(4, .int 0), (0, .ref b)]) : W p l e room_1 s m #[Value.ref b] below meth c H locs 2000 2000000 (lw_Z below #[Value.ref b] s) (F0 m 1894 ls []) := by
  obtain ⟨hx, hb, hr, hml, hown, hts, hX, hbl, hlocks, hgv⟩ := C0
  have hbA : ¬ (fun q : Nat => s.heap.size ≤ q) b := Nat.not_le.mpr hbl
  refine lv_iinc (v := 4) (lv' := [(4, .int 4), (0, .ref b)]) hx hb dL_law_1894 hl (k := 0) rfl (by decide) (by decide) rfl (fun ls hl => ?_)
  refine lv_goto (tgt := 23) hx hb dL_law_1897 (by decide) ?_
  refine lv_iload hx hb dL_law_23 (lv_at hl 0 rfl) ?_
  refine lv_aload_n hx hb dL_law_25 rfl (lv_at hl 1 rfl) ?_
  refine va_slen hx hb hX hbl hbA hS dL_law_26 ?_
  refine lv_iconst (v := 4) hx hb dL_law_27 (by decide +kernel) ?_
  refine lv_isub hx hb dL_law_28 ?_
  refine lv_icmp_gt (tgt := 1900) hx hb dL_law_29 (by decide) (fun _ => ?_) (fun c9 => absurd (by decide) c9)
  refine lv_iconst (v := 1) hx hb dL_law_1900 (by decide +kernel) ?_
  refine va_forget (fun q hq => hS.2.2 q hq) ?_
  refine W.widen (k := 600002) (n := 7302232) (Nat.le_of_ble_eq_true rfl) (Nat.le_of_ble_eq_true rfl) ?_
  exact lw_ret hx hb hr hlocks dL_law_1901
set_option maxHeartbeats 400000 in
set_option maxRecDepth 100000 in
theorem law_0 {p : Program} {e : Env} {s : State} {m : MethodId} {below : List Frame} {meth : Method} {c : Code} (l : Launch) (hlt : l.stackTraces = false) {b : Nat} {xs : Nat → Int32} (C0 : lw_At p s m meth c b 4 xs) (hE : ev s) (hZ : ev_Z (fun q : Nat => s.heap.size ≤ q) s s.heap) (D : va_G) (x0 tk tx so pl li nm us me cd sp rd tr m0 b0 b1 b2 b3 b4 b5 o0 : Nat) (cx cs cp ci cu cm ct d0 d1 d2 d3 d4 d5 co : ClassId) (xf tf nf cf sf rf mf : List Value) {H : Heap} {locs : List Loc} {ls : Array Slot} (hin : law_in D s H locs x0 tk tx so pl li nm us me cd sp rd tr m0 b0 b1 b2 b3 b4 b5 o0 cx cs cp ci cu cm ct d0 d1 d2 d3 d4 d5 co xf tf nf cf sf rf mf) (hl : lv_has ls 7 [(4, .int 0), (3, .ref o0), (2, .ref m0), (1, .ref x0), (0, .ref b)]) : W p l e room_1 s m #[Value.ref b] below meth c H locs 1000 1000000 (lw_Z below #[Value.ref b] s) (F0 m 168 ls []) := by
  obtain ⟨hx, hb, hr, hml, hown, hts, hX, hbl, hlocks, hgv⟩ := id C0
  have hA : ∀ q : Nat, s.heap.size ≤ q → (fun q : Nat => s.heap.size ≤ q) q := fun _ h => h
  have hbA : ¬ (fun q : Nat => s.heap.size ≤ q) b := Nat.not_le.mpr hbl
  obtain ⟨hok, hP, hD, hK, hS⟩ := hin
  obtain ⟨xf_l, xf_0, xf_1, xf_2, xf_3, xf_6, xf_9, xf_10, xf_11, xf_12, tf_l, tf_0, tf_1, tf_2, tf_3, tf_4, nf_l, nf_0, nf_1, nf_2, nf_11, cf_l, cf_0, sf_l, rf_l, rf_0, rf_1, rf_2, rf_3, mf_l, mf_z, mf_p, mf_n, mf_r0, mf_r1, mf_r2, mf_r3, mf_r4, mf_r5⟩ := hok
  have hown : s.vm.findClass RL = some m.cls := hown
  refine lv_aload_n hx hb dL_law_168 rfl (lv_at hl 3 rfl) ?_
  refine lv_aload_n hx hb dL_law_169 rfl (lv_at hl 4 rfl) ?_
  refine lv_iload hx hb dL_law_170 (lv_at hl 0 rfl) ?_
  refine lv_iconst (v := 1) hx hb dL_law_172 (by decide +kernel) ?_
  refine lv_iadd hx hb dL_law_173 ?_
  rw [show (0 + 1 : Int32) = 1 by decide]
  refine va_sld hx hb hX hbl hbA hS (i := 1) (by unfold vp_in; decide) dL_law_174 ?_
  refine lv_aload_n hx hb dL_law_175 rfl (lv_at hl 4 rfl) ?_
  refine lv_iload hx hb dL_law_176 (lv_at hl 0 rfl) ?_
  refine lv_iconst (v := 2) hx hb dL_law_178 (by decide +kernel) ?_
  refine lv_iadd hx hb dL_law_179 ?_
  rw [show (0 + 2 : Int32) = 2 by decide]
  refine va_sld hx hb hX hbl hbA hS (i := 2) (by unfold vp_in; decide) dL_law_180 ?_
  refine lv_i2l (v := ((xs (2 : Int32).toNatClampNeg).toInt64)) hx hb dL_law_181 rfl ?_
  refine lv_bipush (v := 32) hx hb dL_law_182 (by decide +kernel) ?_
  refine lv_lshl (v := (((xs (2 : Int32).toNatClampNeg).toInt64) <<< ((32 : Int32).toInt64 &&& 63))) hx hb dL_law_184 rfl ?_
  refine lv_aload_n hx hb dL_law_185 rfl (lv_at hl 4 rfl) ?_
  refine lv_iload hx hb dL_law_186 (lv_at hl 0 rfl) ?_
  refine lv_iconst (v := 3) hx hb dL_law_188 (by decide +kernel) ?_
  refine lv_iadd hx hb dL_law_189 ?_
  rw [show (0 + 3 : Int32) = 3 by decide]
  refine va_sld hx hb hX hbl hbA hS (i := 3) (by unfold vp_in; decide) dL_law_190 ?_
  refine lv_i2l (v := ((xs (3 : Int32).toNatClampNeg).toInt64)) hx hb dL_law_191 rfl ?_
  refine lv_ldc2 (v := 4294967295) hx hb hown (hts (.constantLong RL 103 (4294967295)) (List.mem_of_getElem? (i := 3008) (by decide +kernel))) dL_law_192 ?_
  refine lv_land hx hb dL_law_195 ?_
  refine lv_lor hx hb dL_law_196 ?_
  refine lv_aload_n hx hb dL_law_197 rfl (lv_at hl 1 rfl) ?_
  have hPc := hP.sub (ws' := [(x0, .inr (11, xf)), (tk, .inr (9, tf)), (tx, .inl (cx, 3000, .inl (fun _ => 0))), (tr, .inl (ct, 2, .inr (.inr (.inr (.inr (fun _ => none)))))), (o0, .inl (co, 1, .inr (.inl (fun _ => 0))))]) [0, 1, 2, 12, 20] rfl
  have hDc := hD.sub (ws' := [(x0, .inr (11, xf)), (tk, .inr (9, tf)), (tx, .inl (cx, 3000, .inl (fun _ => 0))), (tr, .inl (ct, 2, .inr (.inr (.inr (.inr (fun _ => none)))))), (o0, .inl (co, 1, .inr (.inl (fun _ => 0))))]) [0, 1, 2, 12, 20] (by decide) rfl
  have hKc := hK.sub (tys' := [(cx, .byte), (ct, .object "ScheduleHouse$Trial"), (co, .long)]) [0, 6, 13] rfl
  have hFc := va_free (wc := [(x0, .inr (11, xf)), (tk, .inr (9, tf)), (tx, .inl (cx, 3000, .inl (fun _ => 0))), (tr, .inl (ct, 2, .inr (.inr (.inr (.inr (fun _ => none)))))), (o0, .inl (co, 1, .inr (.inl (fun _ => 0))))]) hD hS hA [0, 1, 2, 12, 20] rfl
  refine va_calli (vx_runSW (As := [.ref x0, .int (xs (1 : Int32).toNatClampNeg), .long ((((xs (2 : Int32).toNatClampNeg).toInt64) <<< ((32 : Int32).toInt64 &&& 63)) ||| (((xs (3 : Int32).toNatClampNeg).toInt64) &&& 4294967295)), .ref o0]) (rest := []) ⟨hx, hb, hml, hown, hts⟩ (c_L_feed l D x0 o0 tk tx tr cx ct co xf tf (fun _ => 0) (fun _ => 0) (xs (1 : Int32).toNatClampNeg) ((((xs (2 : Int32).toNatClampNeg).toInt64) <<< ((32 : Int32).toInt64 &&& 63)) ||| (((xs (3 : Int32).toNatClampNeg).toInt64) &&& 4294967295)) H.size hlt xf_l xf_0 xf_6 tf_l tf_0 tf_1) (vx_cwSW 4 hts g_lw_0 rfl rfl rfl (by decide +kernel) ⟨Nat.le_of_ble_eq_true rfl, Nat.le_of_ble_eq_true rfl⟩) ⟨st_blind, fun U hU hW => ⟨rfl, st_call hU hW hPc hKc hDc hZ hS hFc hE⟩⟩ rfl rfl hl.1 rfl (lv_room (Nat.le_of_ble_eq_true rfl)) dL_law_198 ⟨Nat.le_of_ble_eq_true rfl, Nat.le_of_ble_eq_true rfl⟩) hS (fun q _ h => hFc q h) hFc (fun r1 u2 t H1 locs ht hvm hw hB hz1 hk1 hS => ?_)
  have hXX := hw
  obtain ⟨hP1, hK1, hD1⟩ := hB
  rw [ht] at hP1
  have hK1 := va_K.moved hvm.symm hK1
  obtain ⟨hP, hD⟩ := va_join (wr := [(so, .inl (cs, 702, .inl (fun _ => 0))), (pl, .inl (cp, 702, .inl (fun _ => 0))), (li, .inl (ci, 702, .inl (fun _ => 0))), (nm, .inr (6, nf)), (us, .inl (cu, 702, .inl (fun _ => 0))), (me, .inl (cm, 702, .inl (fun _ => 0))), (cd, .inr (0, cf)), (sp, .inr (8, sf)), (rd, .inr (7, rf)), (m0, .inr (12, mf)), (b0, .inl (d0, 3000, .inl (fun _ => 0))), (b1, .inl (d1, 710, .inl (fun _ => 0))), (b2, .inl (d2, 710, .inl (fun _ => 0))), (b3, .inl (d3, 710, .inl (fun _ => 0))), (b4, .inl (d4, 710, .inl (fun _ => 0))), (b5, .inl (d5, 2, .inl (fun _ => 0)))]) (w1 := [(o0, .inl (co, 1, .inr (.inl u2)))]) hP hD [0, 1, 2, 12, 20] [3, 4, 5, 6, 7, 8, 9, 10, 11, 13, 14, 15, 16, 17, 18, 19] rfl rfl (by decide) (by decide) hk1 hFc hP1 hD1
  have hK := (hK.sub (tys' := [(cs, .int), (cp, .int), (ci, .int), (cu, .int), (cm, .int), (d0, .byte), (d1, .int), (d2, .int), (d3, .int), (d4, .int), (d5, .boolean)]) [1, 2, 3, 4, 5, 7, 8, 9, 10, 11, 12] rfl).app hK1
  generalize H1 = H at hP hS ⊢
  have hP : va_P D vwCl [(so, .inl (cs, 702, .inl (fun _ => 0))), (pl, .inl (cp, 702, .inl (fun _ => 0))), (li, .inl (ci, 702, .inl (fun _ => 0))), (nm, .inr (6, nf)), (us, .inl (cu, 702, .inl (fun _ => 0))), (me, .inl (cm, 702, .inl (fun _ => 0))), (cd, .inr (0, cf)), (sp, .inr (8, sf)), (rd, .inr (7, rf)), (m0, .inr (12, mf)), (b0, .inl (d0, 3000, .inl (fun _ => 0))), (b1, .inl (d1, 710, .inl (fun _ => 0))), (b2, .inl (d2, 710, .inl (fun _ => 0))), (b3, .inl (d3, 710, .inl (fun _ => 0))), (b4, .inl (d4, 710, .inl (fun _ => 0))), (b5, .inl (d5, 2, .inl (fun _ => 0))), (o0, .inl (co, 1, .inr (.inl u2)))] H := hP
  have hD : va_D (fun q : Nat => s.heap.size ≤ q) [(so, .inl (cs, 702, .inl (fun _ => 0))), (pl, .inl (cp, 702, .inl (fun _ => 0))), (li, .inl (ci, 702, .inl (fun _ => 0))), (nm, .inr (6, nf)), (us, .inl (cu, 702, .inl (fun _ => 0))), (me, .inl (cm, 702, .inl (fun _ => 0))), (cd, .inr (0, cf)), (sp, .inr (8, sf)), (rd, .inr (7, rf)), (m0, .inr (12, mf)), (b0, .inl (d0, 3000, .inl (fun _ => 0))), (b1, .inl (d1, 710, .inl (fun _ => 0))), (b2, .inl (d2, 710, .inl (fun _ => 0))), (b3, .inl (d3, 710, .inl (fun _ => 0))), (b4, .inl (d4, 710, .inl (fun _ => 0))), (b5, .inl (d5, 2, .inl (fun _ => 0))), (o0, .inl (co, 1, .inr (.inl u2)))] := hD
  have hK : va_K D vwCl [(cs, .int), (cp, .int), (ci, .int), (cu, .int), (cm, .int), (d0, .byte), (d1, .int), (d2, .int), (d3, .int), (d4, .int), (d5, .boolean), (co, .long)] s := hK
  refine lv_istore (lv' := [(5, .int r1), (4, .int 0), (3, .ref o0), (2, .ref m0), (1, .ref x0), (0, .ref b)]) hx hb dL_law_201 hl (by decide) rfl (fun ls hl => ?_)
  refine lv_aload_n hx hb dL_law_203 rfl (lv_at hl 3 rfl) ?_
  refine lv_aload_n hx hb dL_law_204 rfl (lv_at hl 5 rfl) ?_
  refine lv_iload hx hb dL_law_205 (lv_at hl 1 rfl) ?_
  refine lv_iconst (v := 1) hx hb dL_law_207 (by decide +kernel) ?_
  refine lv_iadd hx hb dL_law_208 ?_
  rw [show (0 + 1 : Int32) = 1 by decide]
  refine va_sld hx hb hX hbl hbA hS (i := 1) (by unfold vp_in; decide) dL_law_209 ?_
  refine lv_aload_n hx hb dL_law_210 rfl (lv_at hl 5 rfl) ?_
  refine lv_iload hx hb dL_law_211 (lv_at hl 1 rfl) ?_
  refine lv_iconst (v := 2) hx hb dL_law_213 (by decide +kernel) ?_
  refine lv_iadd hx hb dL_law_214 ?_
  rw [show (0 + 2 : Int32) = 2 by decide]
  refine va_sld hx hb hX hbl hbA hS (i := 2) (by unfold vp_in; decide) dL_law_215 ?_
  refine lv_i2l (v := ((xs (2 : Int32).toNatClampNeg).toInt64)) hx hb dL_law_216 rfl ?_
  refine lv_bipush (v := 32) hx hb dL_law_217 (by decide +kernel) ?_
  refine lv_lshl (v := (((xs (2 : Int32).toNatClampNeg).toInt64) <<< ((32 : Int32).toInt64 &&& 63))) hx hb dL_law_219 rfl ?_
  refine lv_aload_n hx hb dL_law_220 rfl (lv_at hl 5 rfl) ?_
  refine lv_iload hx hb dL_law_221 (lv_at hl 1 rfl) ?_
  refine lv_iconst (v := 3) hx hb dL_law_223 (by decide +kernel) ?_
  refine lv_iadd hx hb dL_law_224 ?_
  rw [show (0 + 3 : Int32) = 3 by decide]
  refine va_sld hx hb hX hbl hbA hS (i := 3) (by unfold vp_in; decide) dL_law_225 ?_
  refine lv_i2l (v := ((xs (3 : Int32).toNatClampNeg).toInt64)) hx hb dL_law_226 rfl ?_
  refine lv_ldc2 (v := 4294967295) hx hb hown (hts (.constantLong RL 103 (4294967295)) (List.mem_of_getElem? (i := 3008) (by decide +kernel))) dL_law_227 ?_
  refine lv_land hx hb dL_law_230 ?_
  refine lv_lor hx hb dL_law_231 ?_
  have hPc := hP.sub (ws' := [(m0, .inr (12, mf)), (b0, .inl (d0, 3000, .inl (fun _ => 0))), (b5, .inl (d5, 2, .inl (fun _ => 0)))]) [9, 10, 15] rfl
  have hDc := hD.sub (ws' := [(m0, .inr (12, mf)), (b0, .inl (d0, 3000, .inl (fun _ => 0))), (b5, .inl (d5, 2, .inl (fun _ => 0)))]) [9, 10, 15] (by decide) rfl
  have hKc := hK.sub (tys' := [(d0, .byte), (d5, .boolean)]) [5, 10] rfl
  have hFc := va_free (wc := [(m0, .inr (12, mf)), (b0, .inl (d0, 3000, .inl (fun _ => 0))), (b5, .inl (d5, 2, .inl (fun _ => 0)))]) hD hS hA [9, 10, 15] rfl
  refine va_calli (va_runV (As := [.int (xs (1 : Int32).toNatClampNeg), .long ((((xs (2 : Int32).toNatClampNeg).toInt64) <<< ((32 : Int32).toInt64 &&& 63)) ||| (((xs (3 : Int32).toNatClampNeg).toInt64) &&& 4294967295))]) (rest := []) ⟨hx, hb, hml, hown, hts⟩ (c_m_feed l D m0 b0 b5 d0 d5 mf (fun _ => 0) (xs (1 : Int32).toNatClampNeg) ((((xs (2 : Int32).toNatClampNeg).toInt64) <<< ((32 : Int32).toInt64 &&& 63)) ||| (((xs (3 : Int32).toNatClampNeg).toInt64) &&& 4294967295)) H.size mf_l (mf_z 0 (by decide)) (mf_z 2 (by decide)) mf_r5 mf_r0) (cwV 2 hts g_lw_1 rfl rfl rfl (by decide +kernel) ⟨Nat.le_of_ble_eq_true rfl, Nat.le_of_ble_eq_true rfl⟩) ⟨st_blind, va_recv hKc hPc (ci := 12) (q0 := 0) rfl rfl, fun U hU hW => ⟨rfl, st_call hU hW hPc hKc hDc hZ hS hFc hE⟩⟩ rfl rfl hl.1 rfl (lv_room (Nat.le_of_ble_eq_true rfl)) dL_law_232 ⟨Nat.le_of_ble_eq_true rfl, Nat.le_of_ble_eq_true rfl⟩) hS (fun q _ h => hFc q h) hFc (fun r3 u4 t H1 locs ht hvm hw hB hz1 hk1 hS => ?_)
  obtain ⟨t9, ht9, hM⟩ := hw
  obtain ⟨hP1, hK1, hD1⟩ := hB
  rw [ht] at hP1
  have hK1 := va_K.moved hvm.symm hK1
  obtain ⟨hP, hD⟩ := va_join (wr := [(so, .inl (cs, 702, .inl (fun _ => 0))), (pl, .inl (cp, 702, .inl (fun _ => 0))), (li, .inl (ci, 702, .inl (fun _ => 0))), (nm, .inr (6, nf)), (us, .inl (cu, 702, .inl (fun _ => 0))), (me, .inl (cm, 702, .inl (fun _ => 0))), (cd, .inr (0, cf)), (sp, .inr (8, sf)), (rd, .inr (7, rf)), (b1, .inl (d1, 710, .inl (fun _ => 0))), (b2, .inl (d2, 710, .inl (fun _ => 0))), (b3, .inl (d3, 710, .inl (fun _ => 0))), (b4, .inl (d4, 710, .inl (fun _ => 0))), (o0, .inl (co, 1, .inr (.inl u2)))]) (w1 := [(m0, .inr (12, u4))]) hP hD [9, 10, 15] [0, 1, 2, 3, 4, 5, 6, 7, 8, 11, 12, 13, 14, 16] rfl rfl (by decide) (by decide) hk1 hFc hP1 hD1
  have hK := (hK.sub (tys' := [(cs, .int), (cp, .int), (ci, .int), (cu, .int), (cm, .int), (d1, .int), (d2, .int), (d3, .int), (d4, .int), (co, .long)]) [0, 1, 2, 3, 4, 6, 7, 8, 9, 11] rfl).app hK1
  generalize H1 = H at hP hS ⊢
  have hP : va_P D vwCl [(so, .inl (cs, 702, .inl (fun _ => 0))), (pl, .inl (cp, 702, .inl (fun _ => 0))), (li, .inl (ci, 702, .inl (fun _ => 0))), (nm, .inr (6, nf)), (us, .inl (cu, 702, .inl (fun _ => 0))), (me, .inl (cm, 702, .inl (fun _ => 0))), (cd, .inr (0, cf)), (sp, .inr (8, sf)), (rd, .inr (7, rf)), (b1, .inl (d1, 710, .inl (fun _ => 0))), (b2, .inl (d2, 710, .inl (fun _ => 0))), (b3, .inl (d3, 710, .inl (fun _ => 0))), (b4, .inl (d4, 710, .inl (fun _ => 0))), (o0, .inl (co, 1, .inr (.inl u2))), (m0, .inr (12, u4))] H := hP
  have hD : va_D (fun q : Nat => s.heap.size ≤ q) [(so, .inl (cs, 702, .inl (fun _ => 0))), (pl, .inl (cp, 702, .inl (fun _ => 0))), (li, .inl (ci, 702, .inl (fun _ => 0))), (nm, .inr (6, nf)), (us, .inl (cu, 702, .inl (fun _ => 0))), (me, .inl (cm, 702, .inl (fun _ => 0))), (cd, .inr (0, cf)), (sp, .inr (8, sf)), (rd, .inr (7, rf)), (b1, .inl (d1, 710, .inl (fun _ => 0))), (b2, .inl (d2, 710, .inl (fun _ => 0))), (b3, .inl (d3, 710, .inl (fun _ => 0))), (b4, .inl (d4, 710, .inl (fun _ => 0))), (o0, .inl (co, 1, .inr (.inl u2))), (m0, .inr (12, u4))] := hD
  have hK : va_K D vwCl [(cs, .int), (cp, .int), (ci, .int), (cu, .int), (cm, .int), (d1, .int), (d2, .int), (d3, .int), (d4, .int), (co, .long)] s := hK
  have ag := ag_feed (xs (1 : Int32).toNatClampNeg) r1 t9 r3 u2 hXX hM
  refine lv_istore (lv' := [(6, .int r3), (5, .int r1), (4, .int 0), (3, .ref o0), (2, .ref m0), (1, .ref x0), (0, .ref b)]) hx hb dL_law_235 hl (by decide) rfl (fun ls hl => ?_)
  refine lv_aload_n hx hb dL_law_237 rfl (lv_at hl 4 rfl) ?_
  have hPc := hP.sub (ws' := [(m0, .inr (12, u4))]) [14] rfl
  have hDc := hD.sub (ws' := [(m0, .inr (12, u4))]) [14] (by decide) rfl
  have hKc := hK.sub (tys' := []) [] rfl
  have hFc := va_free (wc := [(m0, .inr (12, u4))]) hD hS hA [14] rfl
  refine va_calli (va_runV (As := []) (rest := []) ⟨hx, hb, hml, hown, hts⟩ (c_m_thrown l D m0 u4 t9 H.size ht9) (cwV 0 hts g_lw_2 rfl rfl rfl (by decide +kernel) ⟨Nat.le_of_ble_eq_true rfl, Nat.le_of_ble_eq_true rfl⟩) ⟨st_blind, va_recv hKc hPc (ci := 12) (q0 := 0) rfl rfl, fun U hU hW => ⟨rfl, st_call hU hW hPc hKc hDc hZ hS hFc hE⟩⟩ rfl rfl hl.1 rfl (lv_room (Nat.le_of_ble_eq_true rfl)) dL_law_238 ⟨Nat.le_of_ble_eq_true rfl, Nat.le_of_ble_eq_true rfl⟩) hS (fun q _ h => hFc q h) hFc (fun r5 u6 t H1 locs ht hvm hw hB hz1 hk1 hS => ?_)
  obtain ⟨hP, hD⟩ := va_join (wr := [(so, .inl (cs, 702, .inl (fun _ => 0))), (pl, .inl (cp, 702, .inl (fun _ => 0))), (li, .inl (ci, 702, .inl (fun _ => 0))), (nm, .inr (6, nf)), (us, .inl (cu, 702, .inl (fun _ => 0))), (me, .inl (cm, 702, .inl (fun _ => 0))), (cd, .inr (0, cf)), (sp, .inr (8, sf)), (rd, .inr (7, rf)), (b1, .inl (d1, 710, .inl (fun _ => 0))), (b2, .inl (d2, 710, .inl (fun _ => 0))), (b3, .inl (d3, 710, .inl (fun _ => 0))), (b4, .inl (d4, 710, .inl (fun _ => 0))), (o0, .inl (co, 1, .inr (.inl u2)))]) (w1 := []) hP hD [14] [0, 1, 2, 3, 4, 5, 6, 7, 8, 9, 10, 11, 12, 13] rfl rfl (by decide) (by decide) hk1 hFc p_nil d_nil
  have hK := hK.sub (tys' := [(cs, .int), (cp, .int), (ci, .int), (cu, .int), (cm, .int), (d1, .int), (d2, .int), (d3, .int), (d4, .int), (co, .long)]) [0, 1, 2, 3, 4, 5, 6, 7, 8, 9] rfl
  generalize H1 = H at hP hS ⊢
  have hP : va_P D vwCl [(so, .inl (cs, 702, .inl (fun _ => 0))), (pl, .inl (cp, 702, .inl (fun _ => 0))), (li, .inl (ci, 702, .inl (fun _ => 0))), (nm, .inr (6, nf)), (us, .inl (cu, 702, .inl (fun _ => 0))), (me, .inl (cm, 702, .inl (fun _ => 0))), (cd, .inr (0, cf)), (sp, .inr (8, sf)), (rd, .inr (7, rf)), (b1, .inl (d1, 710, .inl (fun _ => 0))), (b2, .inl (d2, 710, .inl (fun _ => 0))), (b3, .inl (d3, 710, .inl (fun _ => 0))), (b4, .inl (d4, 710, .inl (fun _ => 0))), (o0, .inl (co, 1, .inr (.inl u2)))] H := hP
  have hD : va_D (fun q : Nat => s.heap.size ≤ q) [(so, .inl (cs, 702, .inl (fun _ => 0))), (pl, .inl (cp, 702, .inl (fun _ => 0))), (li, .inl (ci, 702, .inl (fun _ => 0))), (nm, .inr (6, nf)), (us, .inl (cu, 702, .inl (fun _ => 0))), (me, .inl (cm, 702, .inl (fun _ => 0))), (cd, .inr (0, cf)), (sp, .inr (8, sf)), (rd, .inr (7, rf)), (b1, .inl (d1, 710, .inl (fun _ => 0))), (b2, .inl (d2, 710, .inl (fun _ => 0))), (b3, .inl (d3, 710, .inl (fun _ => 0))), (b4, .inl (d4, 710, .inl (fun _ => 0))), (o0, .inl (co, 1, .inr (.inl u2)))] := hD
  have hK : va_K D vwCl [(cs, .int), (cp, .int), (ci, .int), (cu, .int), (cm, .int), (d1, .int), (d2, .int), (d3, .int), (d4, .int), (co, .long)] s := hK
  subst hw
  refine lv_iload hx hb dL_law_241 (lv_at hl 1 rfl) ?_
  refine lv_icmp_eq (tgt := 248) hx hb dL_law_243 (by decide) (fun _ => ?_) (fun c9 => absurd ag.1 c9)
  refine lv_iload hx hb dL_law_248 (lv_at hl 1 rfl) ?_
  refine lv_if_ne (tgt := 265) hx hb dL_law_250 (by decide) (fun c5 => ?_) (fun c5 => ?_)
  · refine lv_goto (tgt := 1894) hx hb dL_law_265 (by decide) ?_
    refine W.widen (k := 2000) (n := 2000000) (Nat.le_of_ble_eq_true rfl) (Nat.le_of_ble_eq_true rfl) ?_
    exact law_tail l C0 hS (lv_sub hl [2, 6] rfl)
  · refine lv_aload_n hx hb dL_law_253 rfl (lv_at hl 3 rfl) ?_
    refine lv_iconst (v := 0) hx hb dL_law_254 (by decide +kernel) ?_
    refine va_lald hx hb hK hP 13 9 rfl rfl (i := 0) (by unfold vp_in; decide) dL_law_255 ?_
    refine lv_iload hx hb dL_law_256 (lv_at hl 0 rfl) ?_
    refine lv_i2l (v := r3.toInt64) hx hb dL_law_258 rfl ?_
    rw [show u2 (0 : Int32).toNatClampNeg = r3.toInt64 from ag.2 c5]
    refine W.lcmp hx hb dL_law_259 ?_
    rw [cmp_eq]
    refine lv_if_eq (tgt := 265) hx hb dL_law_260 (by decide) (fun _ => ?_) (fun c9 => False.elim (by revert c9; decide))
    refine lv_goto (tgt := 1894) hx hb dL_law_265 (by decide) ?_
    refine W.widen (k := 2000) (n := 2000000) (Nat.le_of_ble_eq_true rfl) (Nat.le_of_ble_eq_true rfl) ?_
    exact law_tail l C0 hS (lv_sub hl [2, 6] rfl)
set_option maxHeartbeats 400000 in
set_option maxRecDepth 100000 in
theorem law_1 {p : Program} {e : Env} {s : State} {m : MethodId} {below : List Frame} {meth : Method} {c : Code} (l : Launch) (hlt : l.stackTraces = false) {b : Nat} {xs : Nat → Int32} (C0 : lw_At p s m meth c b 4 xs) (hE : ev s) (hZ : ev_Z (fun q : Nat => s.heap.size ≤ q) s s.heap) (D : va_G) (x0 tk tx so pl li nm us me cd sp rd tr m0 b0 b1 b2 b3 b4 b5 o0 : Nat) (cx cs cp ci cu cm ct d0 d1 d2 d3 d4 d5 co : ClassId) (xf tf nf cf sf rf mf : List Value) {H : Heap} {locs : List Loc} {ls : Array Slot} (hin : law_in D s H locs x0 tk tx so pl li nm us me cd sp rd tr m0 b0 b1 b2 b3 b4 b5 o0 cx cs cp ci cu cm ct d0 d1 d2 d3 d4 d5 co xf tf nf cf sf rf mf) (hl : lv_has ls 7 [(4, .int 0), (3, .ref o0), (2, .ref m0), (1, .ref x0), (0, .ref b)]) : W p l e room_1 s m #[Value.ref b] below meth c H locs 1000 1000000 (lw_Z below #[Value.ref b] s) (F0 m 268 ls []) := by
  obtain ⟨hx, hb, hr, hml, hown, hts, hX, hbl, hlocks, hgv⟩ := id C0
  have hA : ∀ q : Nat, s.heap.size ≤ q → (fun q : Nat => s.heap.size ≤ q) q := fun _ h => h
  have hbA : ¬ (fun q : Nat => s.heap.size ≤ q) b := Nat.not_le.mpr hbl
  obtain ⟨hok, hP, hD, hK, hS⟩ := hin
  obtain ⟨xf_l, xf_0, xf_1, xf_2, xf_3, xf_6, xf_9, xf_10, xf_11, xf_12, tf_l, tf_0, tf_1, tf_2, tf_3, tf_4, nf_l, nf_0, nf_1, nf_2, nf_11, cf_l, cf_0, sf_l, rf_l, rf_0, rf_1, rf_2, rf_3, mf_l, mf_z, mf_p, mf_n, mf_r0, mf_r1, mf_r2, mf_r3, mf_r4, mf_r5⟩ := hok
  have hown : s.vm.findClass RL = some m.cls := hown
  refine lv_aload_n hx hb dL_law_268 rfl (lv_at hl 3 rfl) ?_
  have hPc := hP.sub (ws' := [(x0, .inr (11, xf)), (tk, .inr (9, tf)), (tx, .inl (cx, 3000, .inl (fun _ => 0))), (tr, .inl (ct, 2, .inr (.inr (.inr (.inr (fun _ => none))))))]) [0, 1, 2, 12] rfl
  have hDc := hD.sub (ws' := [(x0, .inr (11, xf)), (tk, .inr (9, tf)), (tx, .inl (cx, 3000, .inl (fun _ => 0))), (tr, .inl (ct, 2, .inr (.inr (.inr (.inr (fun _ => none))))))]) [0, 1, 2, 12] (by decide) rfl
  have hKc := hK.sub (tys' := [(cx, .byte), (ct, .object "ScheduleHouse$Trial")]) [0, 6] rfl
  have hFc := va_free (wc := [(x0, .inr (11, xf)), (tk, .inr (9, tf)), (tx, .inl (cx, 3000, .inl (fun _ => 0))), (tr, .inl (ct, 2, .inr (.inr (.inr (.inr (fun _ => none))))))]) hD hS hA [0, 1, 2, 12] rfl
  refine va_calli (va_runV (As := []) (rest := []) ⟨hx, hb, hml, hown, hts⟩ (c_wipe l D x0 tk tx tr cx ct xf tf (fun _ => 0) H.size xf_l xf_0 xf_6 tf_l tf_0 tf_1) (cwV 0 hts g_lw_3 rfl rfl rfl (by decide +kernel) ⟨Nat.le_of_ble_eq_true rfl, Nat.le_of_ble_eq_true rfl⟩) ⟨st_blind, va_recv hKc hPc (ci := 11) (q0 := 0) rfl rfl, fun U hU hW => ⟨rfl, st_call hU hW hPc hKc hDc hZ hS hFc hE⟩⟩ rfl rfl hl.1 rfl (lv_room (Nat.le_of_ble_eq_true rfl)) dL_law_269 ⟨Nat.le_of_ble_eq_true rfl, Nat.le_of_ble_eq_true rfl⟩) hS (fun q _ h => hFc q h) hFc (fun r1 u2 t H1 locs ht hvm hw hB hz1 hk1 hS => ?_)
  obtain ⟨hP, hD⟩ := va_join (wr := [(so, .inl (cs, 702, .inl (fun _ => 0))), (pl, .inl (cp, 702, .inl (fun _ => 0))), (li, .inl (ci, 702, .inl (fun _ => 0))), (nm, .inr (6, nf)), (us, .inl (cu, 702, .inl (fun _ => 0))), (me, .inl (cm, 702, .inl (fun _ => 0))), (cd, .inr (0, cf)), (sp, .inr (8, sf)), (rd, .inr (7, rf)), (m0, .inr (12, mf)), (b0, .inl (d0, 3000, .inl (fun _ => 0))), (b1, .inl (d1, 710, .inl (fun _ => 0))), (b2, .inl (d2, 710, .inl (fun _ => 0))), (b3, .inl (d3, 710, .inl (fun _ => 0))), (b4, .inl (d4, 710, .inl (fun _ => 0))), (b5, .inl (d5, 2, .inl (fun _ => 0))), (o0, .inl (co, 1, .inr (.inl (fun _ => 0))))]) (w1 := []) hP hD [0, 1, 2, 12] [3, 4, 5, 6, 7, 8, 9, 10, 11, 13, 14, 15, 16, 17, 18, 19, 20] rfl rfl (by decide) (by decide) hk1 hFc p_nil d_nil
  have hK := hK.sub (tys' := [(cs, .int), (cp, .int), (ci, .int), (cu, .int), (cm, .int), (d0, .byte), (d1, .int), (d2, .int), (d3, .int), (d4, .int), (d5, .boolean), (co, .long)]) [1, 2, 3, 4, 5, 7, 8, 9, 10, 11, 12, 13] rfl
  generalize H1 = H at hP hS ⊢
  have hP : va_P D vwCl [(so, .inl (cs, 702, .inl (fun _ => 0))), (pl, .inl (cp, 702, .inl (fun _ => 0))), (li, .inl (ci, 702, .inl (fun _ => 0))), (nm, .inr (6, nf)), (us, .inl (cu, 702, .inl (fun _ => 0))), (me, .inl (cm, 702, .inl (fun _ => 0))), (cd, .inr (0, cf)), (sp, .inr (8, sf)), (rd, .inr (7, rf)), (m0, .inr (12, mf)), (b0, .inl (d0, 3000, .inl (fun _ => 0))), (b1, .inl (d1, 710, .inl (fun _ => 0))), (b2, .inl (d2, 710, .inl (fun _ => 0))), (b3, .inl (d3, 710, .inl (fun _ => 0))), (b4, .inl (d4, 710, .inl (fun _ => 0))), (b5, .inl (d5, 2, .inl (fun _ => 0))), (o0, .inl (co, 1, .inr (.inl (fun _ => 0))))] H := hP
  have hD : va_D (fun q : Nat => s.heap.size ≤ q) [(so, .inl (cs, 702, .inl (fun _ => 0))), (pl, .inl (cp, 702, .inl (fun _ => 0))), (li, .inl (ci, 702, .inl (fun _ => 0))), (nm, .inr (6, nf)), (us, .inl (cu, 702, .inl (fun _ => 0))), (me, .inl (cm, 702, .inl (fun _ => 0))), (cd, .inr (0, cf)), (sp, .inr (8, sf)), (rd, .inr (7, rf)), (m0, .inr (12, mf)), (b0, .inl (d0, 3000, .inl (fun _ => 0))), (b1, .inl (d1, 710, .inl (fun _ => 0))), (b2, .inl (d2, 710, .inl (fun _ => 0))), (b3, .inl (d3, 710, .inl (fun _ => 0))), (b4, .inl (d4, 710, .inl (fun _ => 0))), (b5, .inl (d5, 2, .inl (fun _ => 0))), (o0, .inl (co, 1, .inr (.inl (fun _ => 0))))] := hD
  have hK : va_K D vwCl [(cs, .int), (cp, .int), (ci, .int), (cu, .int), (cm, .int), (d0, .byte), (d1, .int), (d2, .int), (d3, .int), (d4, .int), (d5, .boolean), (co, .long)] s := hK
  subst hw
  refine lv_aload_n hx hb dL_law_272 rfl (lv_at hl 2 rfl) ?_
  have hPc := hP.sub (ws' := [(m0, .inr (12, mf)), (b5, .inl (d5, 2, .inl (fun _ => 0)))]) [9, 15] rfl
  have hDc := hD.sub (ws' := [(m0, .inr (12, mf)), (b5, .inl (d5, 2, .inl (fun _ => 0)))]) [9, 15] (by decide) rfl
  have hKc := hK.sub (tys' := [(d5, .boolean)]) [10] rfl
  have hFc := va_free (wc := [(m0, .inr (12, mf)), (b5, .inl (d5, 2, .inl (fun _ => 0)))]) hD hS hA [9, 15] rfl
  refine va_calli (va_runV (As := []) (rest := [.int 0]) ⟨hx, hb, hml, hown, hts⟩ (c_m_wipe l D m0 b5 d5 mf H.size mf_l (mf_z 0 (by decide)) (mf_z 2 (by decide)) mf_r5) (cwV 0 hts g_lw_4 rfl rfl rfl (by decide +kernel) ⟨Nat.le_of_ble_eq_true rfl, Nat.le_of_ble_eq_true rfl⟩) ⟨st_blind, va_recv hKc hPc (ci := 12) (q0 := 0) rfl rfl, fun U hU hW => ⟨rfl, st_call hU hW hPc hKc hDc hZ hS hFc hE⟩⟩ rfl rfl hl.1 rfl (lv_room (Nat.le_of_ble_eq_true rfl)) dL_law_273 ⟨Nat.le_of_ble_eq_true rfl, Nat.le_of_ble_eq_true rfl⟩) hS (fun q _ h => hFc q h) hFc (fun r3 u4 t H1 locs ht hvm hw hB hz1 hk1 hS => ?_)
  obtain ⟨hP, hD⟩ := va_join (wr := [(so, .inl (cs, 702, .inl (fun _ => 0))), (pl, .inl (cp, 702, .inl (fun _ => 0))), (li, .inl (ci, 702, .inl (fun _ => 0))), (nm, .inr (6, nf)), (us, .inl (cu, 702, .inl (fun _ => 0))), (me, .inl (cm, 702, .inl (fun _ => 0))), (cd, .inr (0, cf)), (sp, .inr (8, sf)), (rd, .inr (7, rf)), (b0, .inl (d0, 3000, .inl (fun _ => 0))), (b1, .inl (d1, 710, .inl (fun _ => 0))), (b2, .inl (d2, 710, .inl (fun _ => 0))), (b3, .inl (d3, 710, .inl (fun _ => 0))), (b4, .inl (d4, 710, .inl (fun _ => 0))), (o0, .inl (co, 1, .inr (.inl (fun _ => 0))))]) (w1 := []) hP hD [9, 15] [0, 1, 2, 3, 4, 5, 6, 7, 8, 10, 11, 12, 13, 14, 16] rfl rfl (by decide) (by decide) hk1 hFc p_nil d_nil
  have hK := hK.sub (tys' := [(cs, .int), (cp, .int), (ci, .int), (cu, .int), (cm, .int), (d0, .byte), (d1, .int), (d2, .int), (d3, .int), (d4, .int), (co, .long)]) [0, 1, 2, 3, 4, 5, 6, 7, 8, 9, 11] rfl
  generalize H1 = H at hP hS ⊢
  have hP : va_P D vwCl [(so, .inl (cs, 702, .inl (fun _ => 0))), (pl, .inl (cp, 702, .inl (fun _ => 0))), (li, .inl (ci, 702, .inl (fun _ => 0))), (nm, .inr (6, nf)), (us, .inl (cu, 702, .inl (fun _ => 0))), (me, .inl (cm, 702, .inl (fun _ => 0))), (cd, .inr (0, cf)), (sp, .inr (8, sf)), (rd, .inr (7, rf)), (b0, .inl (d0, 3000, .inl (fun _ => 0))), (b1, .inl (d1, 710, .inl (fun _ => 0))), (b2, .inl (d2, 710, .inl (fun _ => 0))), (b3, .inl (d3, 710, .inl (fun _ => 0))), (b4, .inl (d4, 710, .inl (fun _ => 0))), (o0, .inl (co, 1, .inr (.inl (fun _ => 0))))] H := hP
  have hD : va_D (fun q : Nat => s.heap.size ≤ q) [(so, .inl (cs, 702, .inl (fun _ => 0))), (pl, .inl (cp, 702, .inl (fun _ => 0))), (li, .inl (ci, 702, .inl (fun _ => 0))), (nm, .inr (6, nf)), (us, .inl (cu, 702, .inl (fun _ => 0))), (me, .inl (cm, 702, .inl (fun _ => 0))), (cd, .inr (0, cf)), (sp, .inr (8, sf)), (rd, .inr (7, rf)), (b0, .inl (d0, 3000, .inl (fun _ => 0))), (b1, .inl (d1, 710, .inl (fun _ => 0))), (b2, .inl (d2, 710, .inl (fun _ => 0))), (b3, .inl (d3, 710, .inl (fun _ => 0))), (b4, .inl (d4, 710, .inl (fun _ => 0))), (o0, .inl (co, 1, .inr (.inl (fun _ => 0))))] := hD
  have hK : va_K D vwCl [(cs, .int), (cp, .int), (ci, .int), (cu, .int), (cm, .int), (d0, .byte), (d1, .int), (d2, .int), (d3, .int), (d4, .int), (co, .long)] s := hK
  subst hw
  refine lv_icmp_eq (tgt := 1894) hx hb dL_law_276 (by decide) (fun _ => ?_) (fun c9 => absurd rfl c9)
  refine W.widen (k := 2000) (n := 2000000) (Nat.le_of_ble_eq_true rfl) (Nat.le_of_ble_eq_true rfl) ?_
  exact law_tail l C0 hS (lv_sub hl [0, 4] rfl)
set_option maxHeartbeats 400000 in
set_option maxRecDepth 100000 in
theorem law_2 {p : Program} {e : Env} {s : State} {m : MethodId} {below : List Frame} {meth : Method} {c : Code} (l : Launch) (hlt : l.stackTraces = false) {b : Nat} {xs : Nat → Int32} (C0 : lw_At p s m meth c b 4 xs) (hE : ev s) (hZ : ev_Z (fun q : Nat => s.heap.size ≤ q) s s.heap) (D : va_G) (x0 tk tx so pl li nm us me cd sp rd tr m0 b0 b1 b2 b3 b4 b5 o0 : Nat) (cx cs cp ci cu cm ct d0 d1 d2 d3 d4 d5 co : ClassId) (xf tf nf cf sf rf mf : List Value) {H : Heap} {locs : List Loc} {ls : Array Slot} (hin : law_in D s H locs x0 tk tx so pl li nm us me cd sp rd tr m0 b0 b1 b2 b3 b4 b5 o0 cx cs cp ci cu cm ct d0 d1 d2 d3 d4 d5 co xf tf nf cf sf rf mf) (hl : lv_has ls 7 [(4, .int 0), (3, .ref o0), (2, .ref m0), (1, .ref x0), (0, .ref b)]) : W p l e room_1 s m #[Value.ref b] below meth c H locs 1000 1000000 (lw_Z below #[Value.ref b] s) (F0 m 281 ls []) := by
  obtain ⟨hx, hb, hr, hml, hown, hts, hX, hbl, hlocks, hgv⟩ := id C0
  have hA : ∀ q : Nat, s.heap.size ≤ q → (fun q : Nat => s.heap.size ≤ q) q := fun _ h => h
  have hbA : ¬ (fun q : Nat => s.heap.size ≤ q) b := Nat.not_le.mpr hbl
  obtain ⟨hok, hP, hD, hK, hS⟩ := hin
  obtain ⟨xf_l, xf_0, xf_1, xf_2, xf_3, xf_6, xf_9, xf_10, xf_11, xf_12, tf_l, tf_0, tf_1, tf_2, tf_3, tf_4, nf_l, nf_0, nf_1, nf_2, nf_11, cf_l, cf_0, sf_l, rf_l, rf_0, rf_1, rf_2, rf_3, mf_l, mf_z, mf_p, mf_n, mf_r0, mf_r1, mf_r2, mf_r3, mf_r4, mf_r5⟩ := hok
  have hown : s.vm.findClass RL = some m.cls := hown
  refine lv_aload_n hx hb dL_law_281 rfl (lv_at hl 3 rfl) ?_
  have hPc := hP.sub (ws' := [(x0, .inr (11, xf)), (tk, .inr (9, tf)), (so, .inl (cs, 702, .inl (fun _ => 0))), (pl, .inl (cp, 702, .inl (fun _ => 0))), (li, .inl (ci, 702, .inl (fun _ => 0))), (nm, .inr (6, nf)), (us, .inl (cu, 702, .inl (fun _ => 0))), (me, .inl (cm, 702, .inl (fun _ => 0))), (cd, .inr (0, cf)), (sp, .inr (8, sf)), (rd, .inr (7, rf)), (tr, .inl (ct, 2, .inr (.inr (.inr (.inr (fun _ => none))))))]) [0, 1, 3, 4, 5, 6, 7, 8, 9, 10, 11, 12] rfl
  have hDc := hD.sub (ws' := [(x0, .inr (11, xf)), (tk, .inr (9, tf)), (so, .inl (cs, 702, .inl (fun _ => 0))), (pl, .inl (cp, 702, .inl (fun _ => 0))), (li, .inl (ci, 702, .inl (fun _ => 0))), (nm, .inr (6, nf)), (us, .inl (cu, 702, .inl (fun _ => 0))), (me, .inl (cm, 702, .inl (fun _ => 0))), (cd, .inr (0, cf)), (sp, .inr (8, sf)), (rd, .inr (7, rf)), (tr, .inl (ct, 2, .inr (.inr (.inr (.inr (fun _ => none))))))]) [0, 1, 3, 4, 5, 6, 7, 8, 9, 10, 11, 12] (by decide) rfl
  have hKc := hK.sub (tys' := [(cs, .int), (cp, .int), (ci, .int), (cu, .int), (cm, .int), (ct, .object "ScheduleHouse$Trial")]) [1, 2, 3, 4, 5, 6] rfl
  have hFc := va_free (wc := [(x0, .inr (11, xf)), (tk, .inr (9, tf)), (so, .inl (cs, 702, .inl (fun _ => 0))), (pl, .inl (cp, 702, .inl (fun _ => 0))), (li, .inl (ci, 702, .inl (fun _ => 0))), (nm, .inr (6, nf)), (us, .inl (cu, 702, .inl (fun _ => 0))), (me, .inl (cm, 702, .inl (fun _ => 0))), (cd, .inr (0, cf)), (sp, .inr (8, sf)), (rd, .inr (7, rf)), (tr, .inl (ct, 2, .inr (.inr (.inr (.inr (fun _ => none))))))]) hD hS hA [0, 1, 3, 4, 5, 6, 7, 8, 9, 10, 11, 12] rfl
  refine va_calli (vx_runVW (As := []) (rest := []) ⟨hx, hb, hml, hown, hts⟩ (c_compile l D x0 tk so pl li nm us me cd sp rd tr cs cp ci cu cm ct xf tf nf cf sf rf (fun _ => 0) (fun _ => 0) (fun _ => 0) (fun _ => 0) (fun _ => 0) H.size xf_l xf_0 xf_1 xf_2 xf_3 xf_6 tf_l tf_1 tf_2 tf_3 tf_4 nf_l nf_0 nf_1 nf_2 nf_11 cf_l cf_0 sf_l rf_l rf_0 rf_1 rf_2 rf_3) (vx_cwVW 0 hts g_lw_5 rfl rfl rfl (by decide +kernel) ⟨Nat.le_of_ble_eq_true rfl, Nat.le_of_ble_eq_true rfl⟩) ⟨st_blind, va_recv hKc hPc (ci := 11) (q0 := 0) rfl rfl, fun U hU hW => ⟨rfl, st_call hU hW hPc hKc hDc hZ hS hFc hE⟩⟩ rfl rfl hl.1 rfl (lv_room (Nat.le_of_ble_eq_true rfl)) dL_law_282 ⟨Nat.le_of_ble_eq_true rfl, Nat.le_of_ble_eq_true rfl⟩) hS (fun q _ h => hFc q h) hFc (fun r1 u2 t H1 locs ht hvm hw hB hz1 hk1 hS => ?_)
  obtain ⟨hP, hD⟩ := va_join (wr := [(tx, .inl (cx, 3000, .inl (fun _ => 0))), (m0, .inr (12, mf)), (b0, .inl (d0, 3000, .inl (fun _ => 0))), (b1, .inl (d1, 710, .inl (fun _ => 0))), (b2, .inl (d2, 710, .inl (fun _ => 0))), (b3, .inl (d3, 710, .inl (fun _ => 0))), (b4, .inl (d4, 710, .inl (fun _ => 0))), (b5, .inl (d5, 2, .inl (fun _ => 0))), (o0, .inl (co, 1, .inr (.inl (fun _ => 0))))]) (w1 := []) hP hD [0, 1, 3, 4, 5, 6, 7, 8, 9, 10, 11, 12] [2, 13, 14, 15, 16, 17, 18, 19, 20] rfl rfl (by decide) (by decide) hk1 hFc p_nil d_nil
  have hK := hK.sub (tys' := [(cx, .byte), (d0, .byte), (d1, .int), (d2, .int), (d3, .int), (d4, .int), (d5, .boolean), (co, .long)]) [0, 7, 8, 9, 10, 11, 12, 13] rfl
  generalize H1 = H at hP hS ⊢
  have hP : va_P D vwCl [(tx, .inl (cx, 3000, .inl (fun _ => 0))), (m0, .inr (12, mf)), (b0, .inl (d0, 3000, .inl (fun _ => 0))), (b1, .inl (d1, 710, .inl (fun _ => 0))), (b2, .inl (d2, 710, .inl (fun _ => 0))), (b3, .inl (d3, 710, .inl (fun _ => 0))), (b4, .inl (d4, 710, .inl (fun _ => 0))), (b5, .inl (d5, 2, .inl (fun _ => 0))), (o0, .inl (co, 1, .inr (.inl (fun _ => 0))))] H := hP
  have hD : va_D (fun q : Nat => s.heap.size ≤ q) [(tx, .inl (cx, 3000, .inl (fun _ => 0))), (m0, .inr (12, mf)), (b0, .inl (d0, 3000, .inl (fun _ => 0))), (b1, .inl (d1, 710, .inl (fun _ => 0))), (b2, .inl (d2, 710, .inl (fun _ => 0))), (b3, .inl (d3, 710, .inl (fun _ => 0))), (b4, .inl (d4, 710, .inl (fun _ => 0))), (b5, .inl (d5, 2, .inl (fun _ => 0))), (o0, .inl (co, 1, .inr (.inl (fun _ => 0))))] := hD
  have hK : va_K D vwCl [(cx, .byte), (d0, .byte), (d1, .int), (d2, .int), (d3, .int), (d4, .int), (d5, .boolean), (co, .long)] s := hK
  subst hw
  refine lv_aload_n hx hb dL_law_285 rfl (lv_at hl 2 rfl) ?_
  have hPc := hP.sub (ws' := [(m0, .inr (12, mf)), (b1, .inl (d1, 710, .inl (fun _ => 0))), (b2, .inl (d2, 710, .inl (fun _ => 0))), (b4, .inl (d4, 710, .inl (fun _ => 0))), (b3, .inl (d3, 710, .inl (fun _ => 0))), (b5, .inl (d5, 2, .inl (fun _ => 0)))]) [1, 3, 4, 6, 5, 7] rfl
  have hDc := hD.sub (ws' := [(m0, .inr (12, mf)), (b1, .inl (d1, 710, .inl (fun _ => 0))), (b2, .inl (d2, 710, .inl (fun _ => 0))), (b4, .inl (d4, 710, .inl (fun _ => 0))), (b3, .inl (d3, 710, .inl (fun _ => 0))), (b5, .inl (d5, 2, .inl (fun _ => 0)))]) [1, 3, 4, 6, 5, 7] (by decide) rfl
  have hKc := hK.sub (tys' := [(d1, .int), (d2, .int), (d4, .int), (d3, .int), (d5, .boolean)]) [2, 3, 5, 4, 6] rfl
  have hFc := va_free (wc := [(m0, .inr (12, mf)), (b1, .inl (d1, 710, .inl (fun _ => 0))), (b2, .inl (d2, 710, .inl (fun _ => 0))), (b4, .inl (d4, 710, .inl (fun _ => 0))), (b3, .inl (d3, 710, .inl (fun _ => 0))), (b5, .inl (d5, 2, .inl (fun _ => 0)))]) hD hS hA [1, 3, 4, 6, 5, 7] rfl
  refine va_calli (va_runV (As := []) (rest := [.int 0]) ⟨hx, hb, hml, hown, hts⟩ (c_m_compile l D m0 b1 b2 b4 b3 b5 d1 d2 d4 d3 d5 mf (fun _ => 0) (fun _ => 0) (fun _ => 0) (fun _ => 0) H.size mf_l (mf_z 0 (by decide)) (mf_z 2 (by decide)) (mf_z 42 (by decide)) (mf_z 3 (by decide)) mf_r1 mf_r2 mf_r4 mf_r3 mf_r5) (cwV 0 hts g_lw_6 rfl rfl rfl (by decide +kernel) ⟨Nat.le_of_ble_eq_true rfl, Nat.le_of_ble_eq_true rfl⟩) ⟨st_blind, va_recv hKc hPc (ci := 12) (q0 := 0) rfl rfl, fun U hU hW => ⟨rfl, st_call hU hW hPc hKc hDc hZ hS hFc hE⟩⟩ rfl rfl hl.1 rfl (lv_room (Nat.le_of_ble_eq_true rfl)) dL_law_286 ⟨Nat.le_of_ble_eq_true rfl, Nat.le_of_ble_eq_true rfl⟩) hS (fun q _ h => hFc q h) hFc (fun r3 u4 t H1 locs ht hvm hw hB hz1 hk1 hS => ?_)
  obtain ⟨hP, hD⟩ := va_join (wr := [(tx, .inl (cx, 3000, .inl (fun _ => 0))), (b0, .inl (d0, 3000, .inl (fun _ => 0))), (o0, .inl (co, 1, .inr (.inl (fun _ => 0))))]) (w1 := []) hP hD [1, 3, 4, 6, 5, 7] [0, 2, 8] rfl rfl (by decide) (by decide) hk1 hFc p_nil d_nil
  have hK := hK.sub (tys' := [(cx, .byte), (d0, .byte), (co, .long)]) [0, 1, 7] rfl
  generalize H1 = H at hP hS ⊢
  have hP : va_P D vwCl [(tx, .inl (cx, 3000, .inl (fun _ => 0))), (b0, .inl (d0, 3000, .inl (fun _ => 0))), (o0, .inl (co, 1, .inr (.inl (fun _ => 0))))] H := hP
  have hD : va_D (fun q : Nat => s.heap.size ≤ q) [(tx, .inl (cx, 3000, .inl (fun _ => 0))), (b0, .inl (d0, 3000, .inl (fun _ => 0))), (o0, .inl (co, 1, .inr (.inl (fun _ => 0))))] := hD
  have hK : va_K D vwCl [(cx, .byte), (d0, .byte), (co, .long)] s := hK
  subst hw
  refine lv_icmp_eq (tgt := 1894) hx hb dL_law_289 (by decide) (fun _ => ?_) (fun c9 => absurd rfl c9)
  refine W.widen (k := 2000) (n := 2000000) (Nat.le_of_ble_eq_true rfl) (Nat.le_of_ble_eq_true rfl) ?_
  exact law_tail l C0 hS (lv_sub hl [0, 4] rfl)
set_option maxHeartbeats 400000 in
set_option maxRecDepth 100000 in
theorem law_3 {p : Program} {e : Env} {s : State} {m : MethodId} {below : List Frame} {meth : Method} {c : Code} (l : Launch) (hlt : l.stackTraces = false) {b : Nat} {xs : Nat → Int32} (C0 : lw_At p s m meth c b 4 xs) (hE : ev s) (hZ : ev_Z (fun q : Nat => s.heap.size ≤ q) s s.heap) (D : va_G) (x0 tk tx so pl li nm us me cd sp rd tr m0 b0 b1 b2 b3 b4 b5 o0 : Nat) (cx cs cp ci cu cm ct d0 d1 d2 d3 d4 d5 co : ClassId) (xf tf nf cf sf rf mf : List Value) {H : Heap} {locs : List Loc} {ls : Array Slot} (hin : law_in D s H locs x0 tk tx so pl li nm us me cd sp rd tr m0 b0 b1 b2 b3 b4 b5 o0 cx cs cp ci cu cm ct d0 d1 d2 d3 d4 d5 co xf tf nf cf sf rf mf) (hl : lv_has ls 7 [(4, .int 0), (3, .ref o0), (2, .ref m0), (1, .ref x0), (0, .ref b)]) : W p l e room_1 s m #[Value.ref b] below meth c H locs 1000 1000000 (lw_Z below #[Value.ref b] s) (F0 m 294 ls []) := by
  obtain ⟨hx, hb, hr, hml, hown, hts, hX, hbl, hlocks, hgv⟩ := id C0
  have hA : ∀ q : Nat, s.heap.size ≤ q → (fun q : Nat => s.heap.size ≤ q) q := fun _ h => h
  have hbA : ¬ (fun q : Nat => s.heap.size ≤ q) b := Nat.not_le.mpr hbl
  obtain ⟨hok, hP, hD, hK, hS⟩ := hin
  obtain ⟨xf_l, xf_0, xf_1, xf_2, xf_3, xf_6, xf_9, xf_10, xf_11, xf_12, tf_l, tf_0, tf_1, tf_2, tf_3, tf_4, nf_l, nf_0, nf_1, nf_2, nf_11, cf_l, cf_0, sf_l, rf_l, rf_0, rf_1, rf_2, rf_3, mf_l, mf_z, mf_p, mf_n, mf_r0, mf_r1, mf_r2, mf_r3, mf_r4, mf_r5⟩ := hok
  have hown : s.vm.findClass RL = some m.cls := hown
  refine lv_aload_n hx hb dL_law_294 rfl (lv_at hl 3 rfl) ?_
  refine lv_aload_n hx hb dL_law_295 rfl (lv_at hl 4 rfl) ?_
  refine lv_iload hx hb dL_law_296 (lv_at hl 0 rfl) ?_
  refine lv_iconst (v := 1) hx hb dL_law_298 (by decide +kernel) ?_
  refine lv_iadd hx hb dL_law_299 ?_
  rw [show (0 + 1 : Int32) = 1 by decide]
  refine va_sld hx hb hX hbl hbA hS (i := 1) (by unfold vp_in; decide) dL_law_300 ?_
  refine lv_aload_n hx hb dL_law_301 rfl (lv_at hl 1 rfl) ?_
  have hPc := hP.sub (ws' := [(x0, .inr (11, xf)), (o0, .inl (co, 1, .inr (.inl (fun _ => 0))))]) [0, 20] rfl
  have hDc := hD.sub (ws' := [(x0, .inr (11, xf)), (o0, .inl (co, 1, .inr (.inl (fun _ => 0))))]) [0, 20] (by decide) rfl
  have hKc := hK.sub (tys' := [(co, .long)]) [13] rfl
  have hFc := va_free (wc := [(x0, .inr (11, xf)), (o0, .inl (co, 1, .inr (.inl (fun _ => 0))))]) hD hS hA [0, 20] rfl
  refine va_calli (vx_runSW (As := [.ref x0, .int (xs (1 : Int32).toNatClampNeg), .ref o0]) (rest := []) ⟨hx, hb, hml, hown, hts⟩ (c_L_fault l D x0 o0 co xf (fun _ => 0) (xs (1 : Int32).toNatClampNeg) H.size hlt xf_11 xf_12) (vx_cwSW 3 hts g_lw_7 rfl rfl rfl (by decide +kernel) ⟨Nat.le_of_ble_eq_true rfl, Nat.le_of_ble_eq_true rfl⟩) ⟨st_blind, fun U hU hW => ⟨rfl, st_call hU hW hPc hKc hDc hZ hS hFc hE⟩⟩ rfl rfl hl.1 rfl (lv_room (Nat.le_of_ble_eq_true rfl)) dL_law_302 ⟨Nat.le_of_ble_eq_true rfl, Nat.le_of_ble_eq_true rfl⟩) hS (fun q _ h => hFc q h) hFc (fun r1 u2 t H1 locs ht hvm hw hB hz1 hk1 hS => ?_)
  have hXX := hw
  obtain ⟨hP1, hK1, hD1⟩ := hB
  rw [ht] at hP1
  have hK1 := va_K.moved hvm.symm hK1
  obtain ⟨hP, hD⟩ := va_join (wr := [(tk, .inr (9, tf)), (tx, .inl (cx, 3000, .inl (fun _ => 0))), (so, .inl (cs, 702, .inl (fun _ => 0))), (pl, .inl (cp, 702, .inl (fun _ => 0))), (li, .inl (ci, 702, .inl (fun _ => 0))), (nm, .inr (6, nf)), (us, .inl (cu, 702, .inl (fun _ => 0))), (me, .inl (cm, 702, .inl (fun _ => 0))), (cd, .inr (0, cf)), (sp, .inr (8, sf)), (rd, .inr (7, rf)), (tr, .inl (ct, 2, .inr (.inr (.inr (.inr (fun _ => none)))))), (m0, .inr (12, mf)), (b0, .inl (d0, 3000, .inl (fun _ => 0))), (b1, .inl (d1, 710, .inl (fun _ => 0))), (b2, .inl (d2, 710, .inl (fun _ => 0))), (b3, .inl (d3, 710, .inl (fun _ => 0))), (b4, .inl (d4, 710, .inl (fun _ => 0))), (b5, .inl (d5, 2, .inl (fun _ => 0)))]) (w1 := [(o0, .inl (co, 1, .inr (.inl u2)))]) hP hD [0, 20] [1, 2, 3, 4, 5, 6, 7, 8, 9, 10, 11, 12, 13, 14, 15, 16, 17, 18, 19] rfl rfl (by decide) (by decide) hk1 hFc hP1 hD1
  have hK := (hK.sub (tys' := [(cx, .byte), (cs, .int), (cp, .int), (ci, .int), (cu, .int), (cm, .int), (ct, .object "ScheduleHouse$Trial"), (d0, .byte), (d1, .int), (d2, .int), (d3, .int), (d4, .int), (d5, .boolean)]) [0, 1, 2, 3, 4, 5, 6, 7, 8, 9, 10, 11, 12] rfl).app hK1
  generalize H1 = H at hP hS ⊢
  have hP : va_P D vwCl [(tk, .inr (9, tf)), (tx, .inl (cx, 3000, .inl (fun _ => 0))), (so, .inl (cs, 702, .inl (fun _ => 0))), (pl, .inl (cp, 702, .inl (fun _ => 0))), (li, .inl (ci, 702, .inl (fun _ => 0))), (nm, .inr (6, nf)), (us, .inl (cu, 702, .inl (fun _ => 0))), (me, .inl (cm, 702, .inl (fun _ => 0))), (cd, .inr (0, cf)), (sp, .inr (8, sf)), (rd, .inr (7, rf)), (tr, .inl (ct, 2, .inr (.inr (.inr (.inr (fun _ => none)))))), (m0, .inr (12, mf)), (b0, .inl (d0, 3000, .inl (fun _ => 0))), (b1, .inl (d1, 710, .inl (fun _ => 0))), (b2, .inl (d2, 710, .inl (fun _ => 0))), (b3, .inl (d3, 710, .inl (fun _ => 0))), (b4, .inl (d4, 710, .inl (fun _ => 0))), (b5, .inl (d5, 2, .inl (fun _ => 0))), (o0, .inl (co, 1, .inr (.inl u2)))] H := hP
  have hD : va_D (fun q : Nat => s.heap.size ≤ q) [(tk, .inr (9, tf)), (tx, .inl (cx, 3000, .inl (fun _ => 0))), (so, .inl (cs, 702, .inl (fun _ => 0))), (pl, .inl (cp, 702, .inl (fun _ => 0))), (li, .inl (ci, 702, .inl (fun _ => 0))), (nm, .inr (6, nf)), (us, .inl (cu, 702, .inl (fun _ => 0))), (me, .inl (cm, 702, .inl (fun _ => 0))), (cd, .inr (0, cf)), (sp, .inr (8, sf)), (rd, .inr (7, rf)), (tr, .inl (ct, 2, .inr (.inr (.inr (.inr (fun _ => none)))))), (m0, .inr (12, mf)), (b0, .inl (d0, 3000, .inl (fun _ => 0))), (b1, .inl (d1, 710, .inl (fun _ => 0))), (b2, .inl (d2, 710, .inl (fun _ => 0))), (b3, .inl (d3, 710, .inl (fun _ => 0))), (b4, .inl (d4, 710, .inl (fun _ => 0))), (b5, .inl (d5, 2, .inl (fun _ => 0))), (o0, .inl (co, 1, .inr (.inl u2)))] := hD
  have hK : va_K D vwCl [(cx, .byte), (cs, .int), (cp, .int), (ci, .int), (cu, .int), (cm, .int), (ct, .object "ScheduleHouse$Trial"), (d0, .byte), (d1, .int), (d2, .int), (d3, .int), (d4, .int), (d5, .boolean), (co, .long)] s := hK
  refine lv_istore (lv' := [(5, .int r1), (4, .int 0), (3, .ref o0), (2, .ref m0), (1, .ref x0), (0, .ref b)]) hx hb dL_law_305 hl (by decide) rfl (fun ls hl => ?_)
  refine lv_aload_n hx hb dL_law_307 rfl (lv_at hl 3 rfl) ?_
  refine lv_aload_n hx hb dL_law_308 rfl (lv_at hl 5 rfl) ?_
  refine lv_iload hx hb dL_law_309 (lv_at hl 1 rfl) ?_
  refine lv_iconst (v := 1) hx hb dL_law_311 (by decide +kernel) ?_
  refine lv_iadd hx hb dL_law_312 ?_
  rw [show (0 + 1 : Int32) = 1 by decide]
  refine va_sld hx hb hX hbl hbA hS (i := 1) (by unfold vp_in; decide) dL_law_313 ?_
  have hPc := hP.sub (ws' := [(m0, .inr (12, mf))]) [12] rfl
  have hDc := hD.sub (ws' := [(m0, .inr (12, mf))]) [12] (by decide) rfl
  have hKc := hK.sub (tys' := []) [] rfl
  have hFc := va_free (wc := [(m0, .inr (12, mf))]) hD hS hA [12] rfl
  refine va_calli (va_runV (As := [.int (xs (1 : Int32).toNatClampNeg)]) (rest := []) ⟨hx, hb, hml, hown, hts⟩ (c_m_fault_ l D m0 mf (xs (1 : Int32).toNatClampNeg) H.size mf_l (mf_z 0 (by decide)) mf_p mf_n) (cwV 1 hts g_lw_8 rfl rfl rfl (by decide +kernel) ⟨Nat.le_of_ble_eq_true rfl, Nat.le_of_ble_eq_true rfl⟩) ⟨st_blind, va_recv hKc hPc (ci := 12) (q0 := 0) rfl rfl, fun U hU hW => ⟨rfl, st_call hU hW hPc hKc hDc hZ hS hFc hE⟩⟩ rfl rfl hl.1 rfl (lv_room (Nat.le_of_ble_eq_true rfl)) dL_law_314 ⟨Nat.le_of_ble_eq_true rfl, Nat.le_of_ble_eq_true rfl⟩) hS (fun q _ h => hFc q h) hFc (fun r3 u4 t H1 locs ht hvm hw hB hz1 hk1 hS => ?_)
  obtain ⟨t9, ht9, hM⟩ := hw
  obtain ⟨hP1, hK1, hD1⟩ := hB
  rw [ht] at hP1
  have hK1 := va_K.moved hvm.symm hK1
  obtain ⟨hP, hD⟩ := va_join (wr := [(tk, .inr (9, tf)), (tx, .inl (cx, 3000, .inl (fun _ => 0))), (so, .inl (cs, 702, .inl (fun _ => 0))), (pl, .inl (cp, 702, .inl (fun _ => 0))), (li, .inl (ci, 702, .inl (fun _ => 0))), (nm, .inr (6, nf)), (us, .inl (cu, 702, .inl (fun _ => 0))), (me, .inl (cm, 702, .inl (fun _ => 0))), (cd, .inr (0, cf)), (sp, .inr (8, sf)), (rd, .inr (7, rf)), (tr, .inl (ct, 2, .inr (.inr (.inr (.inr (fun _ => none)))))), (b0, .inl (d0, 3000, .inl (fun _ => 0))), (b1, .inl (d1, 710, .inl (fun _ => 0))), (b2, .inl (d2, 710, .inl (fun _ => 0))), (b3, .inl (d3, 710, .inl (fun _ => 0))), (b4, .inl (d4, 710, .inl (fun _ => 0))), (b5, .inl (d5, 2, .inl (fun _ => 0))), (o0, .inl (co, 1, .inr (.inl u2)))]) (w1 := [(m0, .inr (12, u4))]) hP hD [12] [0, 1, 2, 3, 4, 5, 6, 7, 8, 9, 10, 11, 13, 14, 15, 16, 17, 18, 19] rfl rfl (by decide) (by decide) hk1 hFc hP1 hD1
  have hK := (hK.sub (tys' := [(cx, .byte), (cs, .int), (cp, .int), (ci, .int), (cu, .int), (cm, .int), (ct, .object "ScheduleHouse$Trial"), (d0, .byte), (d1, .int), (d2, .int), (d3, .int), (d4, .int), (d5, .boolean), (co, .long)]) [0, 1, 2, 3, 4, 5, 6, 7, 8, 9, 10, 11, 12, 13] rfl).app hK1
  generalize H1 = H at hP hS ⊢
  have hP : va_P D vwCl [(tk, .inr (9, tf)), (tx, .inl (cx, 3000, .inl (fun _ => 0))), (so, .inl (cs, 702, .inl (fun _ => 0))), (pl, .inl (cp, 702, .inl (fun _ => 0))), (li, .inl (ci, 702, .inl (fun _ => 0))), (nm, .inr (6, nf)), (us, .inl (cu, 702, .inl (fun _ => 0))), (me, .inl (cm, 702, .inl (fun _ => 0))), (cd, .inr (0, cf)), (sp, .inr (8, sf)), (rd, .inr (7, rf)), (tr, .inl (ct, 2, .inr (.inr (.inr (.inr (fun _ => none)))))), (b0, .inl (d0, 3000, .inl (fun _ => 0))), (b1, .inl (d1, 710, .inl (fun _ => 0))), (b2, .inl (d2, 710, .inl (fun _ => 0))), (b3, .inl (d3, 710, .inl (fun _ => 0))), (b4, .inl (d4, 710, .inl (fun _ => 0))), (b5, .inl (d5, 2, .inl (fun _ => 0))), (o0, .inl (co, 1, .inr (.inl u2))), (m0, .inr (12, u4))] H := hP
  have hD : va_D (fun q : Nat => s.heap.size ≤ q) [(tk, .inr (9, tf)), (tx, .inl (cx, 3000, .inl (fun _ => 0))), (so, .inl (cs, 702, .inl (fun _ => 0))), (pl, .inl (cp, 702, .inl (fun _ => 0))), (li, .inl (ci, 702, .inl (fun _ => 0))), (nm, .inr (6, nf)), (us, .inl (cu, 702, .inl (fun _ => 0))), (me, .inl (cm, 702, .inl (fun _ => 0))), (cd, .inr (0, cf)), (sp, .inr (8, sf)), (rd, .inr (7, rf)), (tr, .inl (ct, 2, .inr (.inr (.inr (.inr (fun _ => none)))))), (b0, .inl (d0, 3000, .inl (fun _ => 0))), (b1, .inl (d1, 710, .inl (fun _ => 0))), (b2, .inl (d2, 710, .inl (fun _ => 0))), (b3, .inl (d3, 710, .inl (fun _ => 0))), (b4, .inl (d4, 710, .inl (fun _ => 0))), (b5, .inl (d5, 2, .inl (fun _ => 0))), (o0, .inl (co, 1, .inr (.inl u2))), (m0, .inr (12, u4))] := hD
  have hK : va_K D vwCl [(cx, .byte), (cs, .int), (cp, .int), (ci, .int), (cu, .int), (cm, .int), (ct, .object "ScheduleHouse$Trial"), (d0, .byte), (d1, .int), (d2, .int), (d3, .int), (d4, .int), (d5, .boolean), (co, .long)] s := hK
  have ag := ag_fault (xs (1 : Int32).toNatClampNeg) r1 t9 r3 u2 hXX hM
  refine lv_istore (lv' := [(6, .int r3), (5, .int r1), (4, .int 0), (3, .ref o0), (2, .ref m0), (1, .ref x0), (0, .ref b)]) hx hb dL_law_317 hl (by decide) rfl (fun ls hl => ?_)
  refine lv_aload_n hx hb dL_law_319 rfl (lv_at hl 4 rfl) ?_
  have hPc := hP.sub (ws' := [(m0, .inr (12, u4))]) [19] rfl
  have hDc := hD.sub (ws' := [(m0, .inr (12, u4))]) [19] (by decide) rfl
  have hKc := hK.sub (tys' := []) [] rfl
  have hFc := va_free (wc := [(m0, .inr (12, u4))]) hD hS hA [19] rfl
  refine va_calli (va_runV (As := []) (rest := []) ⟨hx, hb, hml, hown, hts⟩ (c_m_thrown l D m0 u4 t9 H.size ht9) (cwV 0 hts g_lw_2 rfl rfl rfl (by decide +kernel) ⟨Nat.le_of_ble_eq_true rfl, Nat.le_of_ble_eq_true rfl⟩) ⟨st_blind, va_recv hKc hPc (ci := 12) (q0 := 0) rfl rfl, fun U hU hW => ⟨rfl, st_call hU hW hPc hKc hDc hZ hS hFc hE⟩⟩ rfl rfl hl.1 rfl (lv_room (Nat.le_of_ble_eq_true rfl)) dL_law_320 ⟨Nat.le_of_ble_eq_true rfl, Nat.le_of_ble_eq_true rfl⟩) hS (fun q _ h => hFc q h) hFc (fun r5 u6 t H1 locs ht hvm hw hB hz1 hk1 hS => ?_)
  obtain ⟨hP, hD⟩ := va_join (wr := [(tk, .inr (9, tf)), (tx, .inl (cx, 3000, .inl (fun _ => 0))), (so, .inl (cs, 702, .inl (fun _ => 0))), (pl, .inl (cp, 702, .inl (fun _ => 0))), (li, .inl (ci, 702, .inl (fun _ => 0))), (nm, .inr (6, nf)), (us, .inl (cu, 702, .inl (fun _ => 0))), (me, .inl (cm, 702, .inl (fun _ => 0))), (cd, .inr (0, cf)), (sp, .inr (8, sf)), (rd, .inr (7, rf)), (tr, .inl (ct, 2, .inr (.inr (.inr (.inr (fun _ => none)))))), (b0, .inl (d0, 3000, .inl (fun _ => 0))), (b1, .inl (d1, 710, .inl (fun _ => 0))), (b2, .inl (d2, 710, .inl (fun _ => 0))), (b3, .inl (d3, 710, .inl (fun _ => 0))), (b4, .inl (d4, 710, .inl (fun _ => 0))), (b5, .inl (d5, 2, .inl (fun _ => 0))), (o0, .inl (co, 1, .inr (.inl u2)))]) (w1 := []) hP hD [19] [0, 1, 2, 3, 4, 5, 6, 7, 8, 9, 10, 11, 12, 13, 14, 15, 16, 17, 18] rfl rfl (by decide) (by decide) hk1 hFc p_nil d_nil
  have hK := hK.sub (tys' := [(cx, .byte), (cs, .int), (cp, .int), (ci, .int), (cu, .int), (cm, .int), (ct, .object "ScheduleHouse$Trial"), (d0, .byte), (d1, .int), (d2, .int), (d3, .int), (d4, .int), (d5, .boolean), (co, .long)]) [0, 1, 2, 3, 4, 5, 6, 7, 8, 9, 10, 11, 12, 13] rfl
  generalize H1 = H at hP hS ⊢
  have hP : va_P D vwCl [(tk, .inr (9, tf)), (tx, .inl (cx, 3000, .inl (fun _ => 0))), (so, .inl (cs, 702, .inl (fun _ => 0))), (pl, .inl (cp, 702, .inl (fun _ => 0))), (li, .inl (ci, 702, .inl (fun _ => 0))), (nm, .inr (6, nf)), (us, .inl (cu, 702, .inl (fun _ => 0))), (me, .inl (cm, 702, .inl (fun _ => 0))), (cd, .inr (0, cf)), (sp, .inr (8, sf)), (rd, .inr (7, rf)), (tr, .inl (ct, 2, .inr (.inr (.inr (.inr (fun _ => none)))))), (b0, .inl (d0, 3000, .inl (fun _ => 0))), (b1, .inl (d1, 710, .inl (fun _ => 0))), (b2, .inl (d2, 710, .inl (fun _ => 0))), (b3, .inl (d3, 710, .inl (fun _ => 0))), (b4, .inl (d4, 710, .inl (fun _ => 0))), (b5, .inl (d5, 2, .inl (fun _ => 0))), (o0, .inl (co, 1, .inr (.inl u2)))] H := hP
  have hD : va_D (fun q : Nat => s.heap.size ≤ q) [(tk, .inr (9, tf)), (tx, .inl (cx, 3000, .inl (fun _ => 0))), (so, .inl (cs, 702, .inl (fun _ => 0))), (pl, .inl (cp, 702, .inl (fun _ => 0))), (li, .inl (ci, 702, .inl (fun _ => 0))), (nm, .inr (6, nf)), (us, .inl (cu, 702, .inl (fun _ => 0))), (me, .inl (cm, 702, .inl (fun _ => 0))), (cd, .inr (0, cf)), (sp, .inr (8, sf)), (rd, .inr (7, rf)), (tr, .inl (ct, 2, .inr (.inr (.inr (.inr (fun _ => none)))))), (b0, .inl (d0, 3000, .inl (fun _ => 0))), (b1, .inl (d1, 710, .inl (fun _ => 0))), (b2, .inl (d2, 710, .inl (fun _ => 0))), (b3, .inl (d3, 710, .inl (fun _ => 0))), (b4, .inl (d4, 710, .inl (fun _ => 0))), (b5, .inl (d5, 2, .inl (fun _ => 0))), (o0, .inl (co, 1, .inr (.inl u2)))] := hD
  have hK : va_K D vwCl [(cx, .byte), (cs, .int), (cp, .int), (ci, .int), (cu, .int), (cm, .int), (ct, .object "ScheduleHouse$Trial"), (d0, .byte), (d1, .int), (d2, .int), (d3, .int), (d4, .int), (d5, .boolean), (co, .long)] s := hK
  subst hw
  refine lv_iload hx hb dL_law_323 (lv_at hl 1 rfl) ?_
  refine lv_icmp_eq (tgt := 330) hx hb dL_law_325 (by decide) (fun _ => ?_) (fun c9 => absurd ag.1 c9)
  refine lv_iload hx hb dL_law_330 (lv_at hl 1 rfl) ?_
  refine lv_if_ne (tgt := 347) hx hb dL_law_332 (by decide) (fun c5 => ?_) (fun c5 => ?_)
  · refine lv_goto (tgt := 1894) hx hb dL_law_347 (by decide) ?_
    refine W.widen (k := 2000) (n := 2000000) (Nat.le_of_ble_eq_true rfl) (Nat.le_of_ble_eq_true rfl) ?_
    exact law_tail l C0 hS (lv_sub hl [2, 6] rfl)
  · refine lv_aload_n hx hb dL_law_335 rfl (lv_at hl 3 rfl) ?_
    refine lv_iconst (v := 0) hx hb dL_law_336 (by decide +kernel) ?_
    refine va_lald hx hb hK hP 18 13 rfl rfl (i := 0) (by unfold vp_in; decide) dL_law_337 ?_
    refine lv_iload hx hb dL_law_338 (lv_at hl 0 rfl) ?_
    refine lv_i2l (v := r3.toInt64) hx hb dL_law_340 rfl ?_
    rw [show u2 (0 : Int32).toNatClampNeg = r3.toInt64 from ag.2 c5]
    refine W.lcmp hx hb dL_law_341 ?_
    rw [cmp_eq]
    refine lv_if_eq (tgt := 347) hx hb dL_law_342 (by decide) (fun _ => ?_) (fun c9 => False.elim (by revert c9; decide))
    refine lv_goto (tgt := 1894) hx hb dL_law_347 (by decide) ?_
    refine W.widen (k := 2000) (n := 2000000) (Nat.le_of_ble_eq_true rfl) (Nat.le_of_ble_eq_true rfl) ?_
    exact law_tail l C0 hS (lv_sub hl [2, 6] rfl)
set_option maxHeartbeats 400000 in
set_option maxRecDepth 100000 in
theorem law_4 {p : Program} {e : Env} {s : State} {m : MethodId} {below : List Frame} {meth : Method} {c : Code} (l : Launch) (hlt : l.stackTraces = false) {b : Nat} {xs : Nat → Int32} (C0 : lw_At p s m meth c b 4 xs) (hE : ev s) (hZ : ev_Z (fun q : Nat => s.heap.size ≤ q) s s.heap) (D : va_G) (x0 tk tx so pl li nm us me cd sp rd tr m0 b0 b1 b2 b3 b4 b5 o0 : Nat) (cx cs cp ci cu cm ct d0 d1 d2 d3 d4 d5 co : ClassId) (xf tf nf cf sf rf mf : List Value) {H : Heap} {locs : List Loc} {ls : Array Slot} (hin : law_in D s H locs x0 tk tx so pl li nm us me cd sp rd tr m0 b0 b1 b2 b3 b4 b5 o0 cx cs cp ci cu cm ct d0 d1 d2 d3 d4 d5 co xf tf nf cf sf rf mf) (hl : lv_has ls 7 [(4, .int 0), (3, .ref o0), (2, .ref m0), (1, .ref x0), (0, .ref b)]) : W p l e room_1 s m #[Value.ref b] below meth c H locs 1000 1000000 (lw_Z below #[Value.ref b] s) (F0 m 350 ls []) := by
  obtain ⟨hx, hb, hr, hml, hown, hts, hX, hbl, hlocks, hgv⟩ := id C0
  have hA : ∀ q : Nat, s.heap.size ≤ q → (fun q : Nat => s.heap.size ≤ q) q := fun _ h => h
  have hbA : ¬ (fun q : Nat => s.heap.size ≤ q) b := Nat.not_le.mpr hbl
  obtain ⟨hok, hP, hD, hK, hS⟩ := hin
  obtain ⟨xf_l, xf_0, xf_1, xf_2, xf_3, xf_6, xf_9, xf_10, xf_11, xf_12, tf_l, tf_0, tf_1, tf_2, tf_3, tf_4, nf_l, nf_0, nf_1, nf_2, nf_11, cf_l, cf_0, sf_l, rf_l, rf_0, rf_1, rf_2, rf_3, mf_l, mf_z, mf_p, mf_n, mf_r0, mf_r1, mf_r2, mf_r3, mf_r4, mf_r5⟩ := hok
  have hown : s.vm.findClass RL = some m.cls := hown
  refine lv_aload_n hx hb dL_law_350 rfl (lv_at hl 3 rfl) ?_
  refine lv_aload_n hx hb dL_law_351 rfl (lv_at hl 4 rfl) ?_
  refine lv_iload hx hb dL_law_352 (lv_at hl 0 rfl) ?_
  refine lv_iconst (v := 1) hx hb dL_law_354 (by decide +kernel) ?_
  refine lv_iadd hx hb dL_law_355 ?_
  rw [show (0 + 1 : Int32) = 1 by decide]
  refine va_sld hx hb hX hbl hbA hS (i := 1) (by unfold vp_in; decide) dL_law_356 ?_
  refine lv_aload_n hx hb dL_law_357 rfl (lv_at hl 1 rfl) ?_
  have hPc := hP.sub (ws' := [(x0, .inr (11, xf)), (o0, .inl (co, 1, .inr (.inl (fun _ => 0))))]) [0, 20] rfl
  have hDc := hD.sub (ws' := [(x0, .inr (11, xf)), (o0, .inl (co, 1, .inr (.inl (fun _ => 0))))]) [0, 20] (by decide) rfl
  have hKc := hK.sub (tys' := [(co, .long)]) [13] rfl
  have hFc := va_free (wc := [(x0, .inr (11, xf)), (o0, .inl (co, 1, .inr (.inl (fun _ => 0))))]) hD hS hA [0, 20] rfl
  refine va_calli (vx_runSW (As := [.ref x0, .int (xs (1 : Int32).toNatClampNeg), .ref o0]) (rest := []) ⟨hx, hb, hml, hown, hts⟩ (c_L_count l D x0 o0 co xf (fun _ => 0) (xs (1 : Int32).toNatClampNeg) H.size hlt xf_9) (vx_cwSW 3 hts g_lw_9 rfl rfl rfl (by decide +kernel) ⟨Nat.le_of_ble_eq_true rfl, Nat.le_of_ble_eq_true rfl⟩) ⟨st_blind, fun U hU hW => ⟨rfl, st_call hU hW hPc hKc hDc hZ hS hFc hE⟩⟩ rfl rfl hl.1 rfl (lv_room (Nat.le_of_ble_eq_true rfl)) dL_law_358 ⟨Nat.le_of_ble_eq_true rfl, Nat.le_of_ble_eq_true rfl⟩) hS (fun q _ h => hFc q h) hFc (fun r1 u2 t H1 locs ht hvm hw hB hz1 hk1 hS => ?_)
  have hXX := hw
  obtain ⟨hP1, hK1, hD1⟩ := hB
  rw [ht] at hP1
  have hK1 := va_K.moved hvm.symm hK1
  obtain ⟨hP, hD⟩ := va_join (wr := [(tk, .inr (9, tf)), (tx, .inl (cx, 3000, .inl (fun _ => 0))), (so, .inl (cs, 702, .inl (fun _ => 0))), (pl, .inl (cp, 702, .inl (fun _ => 0))), (li, .inl (ci, 702, .inl (fun _ => 0))), (nm, .inr (6, nf)), (us, .inl (cu, 702, .inl (fun _ => 0))), (me, .inl (cm, 702, .inl (fun _ => 0))), (cd, .inr (0, cf)), (sp, .inr (8, sf)), (rd, .inr (7, rf)), (tr, .inl (ct, 2, .inr (.inr (.inr (.inr (fun _ => none)))))), (m0, .inr (12, mf)), (b0, .inl (d0, 3000, .inl (fun _ => 0))), (b1, .inl (d1, 710, .inl (fun _ => 0))), (b2, .inl (d2, 710, .inl (fun _ => 0))), (b3, .inl (d3, 710, .inl (fun _ => 0))), (b4, .inl (d4, 710, .inl (fun _ => 0))), (b5, .inl (d5, 2, .inl (fun _ => 0)))]) (w1 := [(o0, .inl (co, 1, .inr (.inl u2)))]) hP hD [0, 20] [1, 2, 3, 4, 5, 6, 7, 8, 9, 10, 11, 12, 13, 14, 15, 16, 17, 18, 19] rfl rfl (by decide) (by decide) hk1 hFc hP1 hD1
  have hK := (hK.sub (tys' := [(cx, .byte), (cs, .int), (cp, .int), (ci, .int), (cu, .int), (cm, .int), (ct, .object "ScheduleHouse$Trial"), (d0, .byte), (d1, .int), (d2, .int), (d3, .int), (d4, .int), (d5, .boolean)]) [0, 1, 2, 3, 4, 5, 6, 7, 8, 9, 10, 11, 12] rfl).app hK1
  generalize H1 = H at hP hS ⊢
  have hP : va_P D vwCl [(tk, .inr (9, tf)), (tx, .inl (cx, 3000, .inl (fun _ => 0))), (so, .inl (cs, 702, .inl (fun _ => 0))), (pl, .inl (cp, 702, .inl (fun _ => 0))), (li, .inl (ci, 702, .inl (fun _ => 0))), (nm, .inr (6, nf)), (us, .inl (cu, 702, .inl (fun _ => 0))), (me, .inl (cm, 702, .inl (fun _ => 0))), (cd, .inr (0, cf)), (sp, .inr (8, sf)), (rd, .inr (7, rf)), (tr, .inl (ct, 2, .inr (.inr (.inr (.inr (fun _ => none)))))), (m0, .inr (12, mf)), (b0, .inl (d0, 3000, .inl (fun _ => 0))), (b1, .inl (d1, 710, .inl (fun _ => 0))), (b2, .inl (d2, 710, .inl (fun _ => 0))), (b3, .inl (d3, 710, .inl (fun _ => 0))), (b4, .inl (d4, 710, .inl (fun _ => 0))), (b5, .inl (d5, 2, .inl (fun _ => 0))), (o0, .inl (co, 1, .inr (.inl u2)))] H := hP
  have hD : va_D (fun q : Nat => s.heap.size ≤ q) [(tk, .inr (9, tf)), (tx, .inl (cx, 3000, .inl (fun _ => 0))), (so, .inl (cs, 702, .inl (fun _ => 0))), (pl, .inl (cp, 702, .inl (fun _ => 0))), (li, .inl (ci, 702, .inl (fun _ => 0))), (nm, .inr (6, nf)), (us, .inl (cu, 702, .inl (fun _ => 0))), (me, .inl (cm, 702, .inl (fun _ => 0))), (cd, .inr (0, cf)), (sp, .inr (8, sf)), (rd, .inr (7, rf)), (tr, .inl (ct, 2, .inr (.inr (.inr (.inr (fun _ => none)))))), (m0, .inr (12, mf)), (b0, .inl (d0, 3000, .inl (fun _ => 0))), (b1, .inl (d1, 710, .inl (fun _ => 0))), (b2, .inl (d2, 710, .inl (fun _ => 0))), (b3, .inl (d3, 710, .inl (fun _ => 0))), (b4, .inl (d4, 710, .inl (fun _ => 0))), (b5, .inl (d5, 2, .inl (fun _ => 0))), (o0, .inl (co, 1, .inr (.inl u2)))] := hD
  have hK : va_K D vwCl [(cx, .byte), (cs, .int), (cp, .int), (ci, .int), (cu, .int), (cm, .int), (ct, .object "ScheduleHouse$Trial"), (d0, .byte), (d1, .int), (d2, .int), (d3, .int), (d4, .int), (d5, .boolean), (co, .long)] s := hK
  refine lv_istore (lv' := [(5, .int r1), (4, .int 0), (3, .ref o0), (2, .ref m0), (1, .ref x0), (0, .ref b)]) hx hb dL_law_361 hl (by decide) rfl (fun ls hl => ?_)
  refine lv_aload_n hx hb dL_law_363 rfl (lv_at hl 3 rfl) ?_
  refine lv_aload_n hx hb dL_law_364 rfl (lv_at hl 5 rfl) ?_
  refine lv_iload hx hb dL_law_365 (lv_at hl 1 rfl) ?_
  refine lv_iconst (v := 1) hx hb dL_law_367 (by decide +kernel) ?_
  refine lv_iadd hx hb dL_law_368 ?_
  rw [show (0 + 1 : Int32) = 1 by decide]
  refine va_sld hx hb hX hbl hbA hS (i := 1) (by unfold vp_in; decide) dL_law_369 ?_
  have hPc := hP.sub (ws' := [(m0, .inr (12, mf))]) [12] rfl
  have hDc := hD.sub (ws' := [(m0, .inr (12, mf))]) [12] (by decide) rfl
  have hKc := hK.sub (tys' := []) [] rfl
  have hFc := va_free (wc := [(m0, .inr (12, mf))]) hD hS hA [12] rfl
  refine va_calli (va_runV (As := [.int (xs (1 : Int32).toNatClampNeg)]) (rest := []) ⟨hx, hb, hml, hown, hts⟩ (c_m_count l D m0 mf (xs (1 : Int32).toNatClampNeg) H.size mf_l (mf_z 0 (by decide)) (mf_z 23 (by decide)) (mf_z 24 (by decide)) (mf_z 25 (by decide)) (mf_z 26 (by decide)) (mf_z 27 (by decide))) (cwV 1 hts g_lw_10 rfl rfl rfl (by decide +kernel) ⟨Nat.le_of_ble_eq_true rfl, Nat.le_of_ble_eq_true rfl⟩) ⟨st_blind, va_recv hKc hPc (ci := 12) (q0 := 0) rfl rfl, fun U hU hW => ⟨rfl, st_call hU hW hPc hKc hDc hZ hS hFc hE⟩⟩ rfl rfl hl.1 rfl (lv_room (Nat.le_of_ble_eq_true rfl)) dL_law_370 ⟨Nat.le_of_ble_eq_true rfl, Nat.le_of_ble_eq_true rfl⟩) hS (fun q _ h => hFc q h) hFc (fun r3 u4 t H1 locs ht hvm hw hB hz1 hk1 hS => ?_)
  obtain ⟨t9, ht9, hM⟩ := hw
  obtain ⟨hP1, hK1, hD1⟩ := hB
  rw [ht] at hP1
  have hK1 := va_K.moved hvm.symm hK1
  obtain ⟨hP, hD⟩ := va_join (wr := [(tk, .inr (9, tf)), (tx, .inl (cx, 3000, .inl (fun _ => 0))), (so, .inl (cs, 702, .inl (fun _ => 0))), (pl, .inl (cp, 702, .inl (fun _ => 0))), (li, .inl (ci, 702, .inl (fun _ => 0))), (nm, .inr (6, nf)), (us, .inl (cu, 702, .inl (fun _ => 0))), (me, .inl (cm, 702, .inl (fun _ => 0))), (cd, .inr (0, cf)), (sp, .inr (8, sf)), (rd, .inr (7, rf)), (tr, .inl (ct, 2, .inr (.inr (.inr (.inr (fun _ => none)))))), (b0, .inl (d0, 3000, .inl (fun _ => 0))), (b1, .inl (d1, 710, .inl (fun _ => 0))), (b2, .inl (d2, 710, .inl (fun _ => 0))), (b3, .inl (d3, 710, .inl (fun _ => 0))), (b4, .inl (d4, 710, .inl (fun _ => 0))), (b5, .inl (d5, 2, .inl (fun _ => 0))), (o0, .inl (co, 1, .inr (.inl u2)))]) (w1 := [(m0, .inr (12, u4))]) hP hD [12] [0, 1, 2, 3, 4, 5, 6, 7, 8, 9, 10, 11, 13, 14, 15, 16, 17, 18, 19] rfl rfl (by decide) (by decide) hk1 hFc hP1 hD1
  have hK := (hK.sub (tys' := [(cx, .byte), (cs, .int), (cp, .int), (ci, .int), (cu, .int), (cm, .int), (ct, .object "ScheduleHouse$Trial"), (d0, .byte), (d1, .int), (d2, .int), (d3, .int), (d4, .int), (d5, .boolean), (co, .long)]) [0, 1, 2, 3, 4, 5, 6, 7, 8, 9, 10, 11, 12, 13] rfl).app hK1
  generalize H1 = H at hP hS ⊢
  have hP : va_P D vwCl [(tk, .inr (9, tf)), (tx, .inl (cx, 3000, .inl (fun _ => 0))), (so, .inl (cs, 702, .inl (fun _ => 0))), (pl, .inl (cp, 702, .inl (fun _ => 0))), (li, .inl (ci, 702, .inl (fun _ => 0))), (nm, .inr (6, nf)), (us, .inl (cu, 702, .inl (fun _ => 0))), (me, .inl (cm, 702, .inl (fun _ => 0))), (cd, .inr (0, cf)), (sp, .inr (8, sf)), (rd, .inr (7, rf)), (tr, .inl (ct, 2, .inr (.inr (.inr (.inr (fun _ => none)))))), (b0, .inl (d0, 3000, .inl (fun _ => 0))), (b1, .inl (d1, 710, .inl (fun _ => 0))), (b2, .inl (d2, 710, .inl (fun _ => 0))), (b3, .inl (d3, 710, .inl (fun _ => 0))), (b4, .inl (d4, 710, .inl (fun _ => 0))), (b5, .inl (d5, 2, .inl (fun _ => 0))), (o0, .inl (co, 1, .inr (.inl u2))), (m0, .inr (12, u4))] H := hP
  have hD : va_D (fun q : Nat => s.heap.size ≤ q) [(tk, .inr (9, tf)), (tx, .inl (cx, 3000, .inl (fun _ => 0))), (so, .inl (cs, 702, .inl (fun _ => 0))), (pl, .inl (cp, 702, .inl (fun _ => 0))), (li, .inl (ci, 702, .inl (fun _ => 0))), (nm, .inr (6, nf)), (us, .inl (cu, 702, .inl (fun _ => 0))), (me, .inl (cm, 702, .inl (fun _ => 0))), (cd, .inr (0, cf)), (sp, .inr (8, sf)), (rd, .inr (7, rf)), (tr, .inl (ct, 2, .inr (.inr (.inr (.inr (fun _ => none)))))), (b0, .inl (d0, 3000, .inl (fun _ => 0))), (b1, .inl (d1, 710, .inl (fun _ => 0))), (b2, .inl (d2, 710, .inl (fun _ => 0))), (b3, .inl (d3, 710, .inl (fun _ => 0))), (b4, .inl (d4, 710, .inl (fun _ => 0))), (b5, .inl (d5, 2, .inl (fun _ => 0))), (o0, .inl (co, 1, .inr (.inl u2))), (m0, .inr (12, u4))] := hD
  have hK : va_K D vwCl [(cx, .byte), (cs, .int), (cp, .int), (ci, .int), (cu, .int), (cm, .int), (ct, .object "ScheduleHouse$Trial"), (d0, .byte), (d1, .int), (d2, .int), (d3, .int), (d4, .int), (d5, .boolean), (co, .long)] s := hK
  have ag := ag_count (xs (1 : Int32).toNatClampNeg) r1 t9 r3 u2 hXX hM
  refine lv_istore (lv' := [(6, .int r3), (5, .int r1), (4, .int 0), (3, .ref o0), (2, .ref m0), (1, .ref x0), (0, .ref b)]) hx hb dL_law_373 hl (by decide) rfl (fun ls hl => ?_)
  refine lv_aload_n hx hb dL_law_375 rfl (lv_at hl 4 rfl) ?_
  have hPc := hP.sub (ws' := [(m0, .inr (12, u4))]) [19] rfl
  have hDc := hD.sub (ws' := [(m0, .inr (12, u4))]) [19] (by decide) rfl
  have hKc := hK.sub (tys' := []) [] rfl
  have hFc := va_free (wc := [(m0, .inr (12, u4))]) hD hS hA [19] rfl
  refine va_calli (va_runV (As := []) (rest := []) ⟨hx, hb, hml, hown, hts⟩ (c_m_thrown l D m0 u4 t9 H.size ht9) (cwV 0 hts g_lw_2 rfl rfl rfl (by decide +kernel) ⟨Nat.le_of_ble_eq_true rfl, Nat.le_of_ble_eq_true rfl⟩) ⟨st_blind, va_recv hKc hPc (ci := 12) (q0 := 0) rfl rfl, fun U hU hW => ⟨rfl, st_call hU hW hPc hKc hDc hZ hS hFc hE⟩⟩ rfl rfl hl.1 rfl (lv_room (Nat.le_of_ble_eq_true rfl)) dL_law_376 ⟨Nat.le_of_ble_eq_true rfl, Nat.le_of_ble_eq_true rfl⟩) hS (fun q _ h => hFc q h) hFc (fun r5 u6 t H1 locs ht hvm hw hB hz1 hk1 hS => ?_)
  obtain ⟨hP, hD⟩ := va_join (wr := [(tk, .inr (9, tf)), (tx, .inl (cx, 3000, .inl (fun _ => 0))), (so, .inl (cs, 702, .inl (fun _ => 0))), (pl, .inl (cp, 702, .inl (fun _ => 0))), (li, .inl (ci, 702, .inl (fun _ => 0))), (nm, .inr (6, nf)), (us, .inl (cu, 702, .inl (fun _ => 0))), (me, .inl (cm, 702, .inl (fun _ => 0))), (cd, .inr (0, cf)), (sp, .inr (8, sf)), (rd, .inr (7, rf)), (tr, .inl (ct, 2, .inr (.inr (.inr (.inr (fun _ => none)))))), (b0, .inl (d0, 3000, .inl (fun _ => 0))), (b1, .inl (d1, 710, .inl (fun _ => 0))), (b2, .inl (d2, 710, .inl (fun _ => 0))), (b3, .inl (d3, 710, .inl (fun _ => 0))), (b4, .inl (d4, 710, .inl (fun _ => 0))), (b5, .inl (d5, 2, .inl (fun _ => 0))), (o0, .inl (co, 1, .inr (.inl u2)))]) (w1 := []) hP hD [19] [0, 1, 2, 3, 4, 5, 6, 7, 8, 9, 10, 11, 12, 13, 14, 15, 16, 17, 18] rfl rfl (by decide) (by decide) hk1 hFc p_nil d_nil
  have hK := hK.sub (tys' := [(cx, .byte), (cs, .int), (cp, .int), (ci, .int), (cu, .int), (cm, .int), (ct, .object "ScheduleHouse$Trial"), (d0, .byte), (d1, .int), (d2, .int), (d3, .int), (d4, .int), (d5, .boolean), (co, .long)]) [0, 1, 2, 3, 4, 5, 6, 7, 8, 9, 10, 11, 12, 13] rfl
  generalize H1 = H at hP hS ⊢
  have hP : va_P D vwCl [(tk, .inr (9, tf)), (tx, .inl (cx, 3000, .inl (fun _ => 0))), (so, .inl (cs, 702, .inl (fun _ => 0))), (pl, .inl (cp, 702, .inl (fun _ => 0))), (li, .inl (ci, 702, .inl (fun _ => 0))), (nm, .inr (6, nf)), (us, .inl (cu, 702, .inl (fun _ => 0))), (me, .inl (cm, 702, .inl (fun _ => 0))), (cd, .inr (0, cf)), (sp, .inr (8, sf)), (rd, .inr (7, rf)), (tr, .inl (ct, 2, .inr (.inr (.inr (.inr (fun _ => none)))))), (b0, .inl (d0, 3000, .inl (fun _ => 0))), (b1, .inl (d1, 710, .inl (fun _ => 0))), (b2, .inl (d2, 710, .inl (fun _ => 0))), (b3, .inl (d3, 710, .inl (fun _ => 0))), (b4, .inl (d4, 710, .inl (fun _ => 0))), (b5, .inl (d5, 2, .inl (fun _ => 0))), (o0, .inl (co, 1, .inr (.inl u2)))] H := hP
  have hD : va_D (fun q : Nat => s.heap.size ≤ q) [(tk, .inr (9, tf)), (tx, .inl (cx, 3000, .inl (fun _ => 0))), (so, .inl (cs, 702, .inl (fun _ => 0))), (pl, .inl (cp, 702, .inl (fun _ => 0))), (li, .inl (ci, 702, .inl (fun _ => 0))), (nm, .inr (6, nf)), (us, .inl (cu, 702, .inl (fun _ => 0))), (me, .inl (cm, 702, .inl (fun _ => 0))), (cd, .inr (0, cf)), (sp, .inr (8, sf)), (rd, .inr (7, rf)), (tr, .inl (ct, 2, .inr (.inr (.inr (.inr (fun _ => none)))))), (b0, .inl (d0, 3000, .inl (fun _ => 0))), (b1, .inl (d1, 710, .inl (fun _ => 0))), (b2, .inl (d2, 710, .inl (fun _ => 0))), (b3, .inl (d3, 710, .inl (fun _ => 0))), (b4, .inl (d4, 710, .inl (fun _ => 0))), (b5, .inl (d5, 2, .inl (fun _ => 0))), (o0, .inl (co, 1, .inr (.inl u2)))] := hD
  have hK : va_K D vwCl [(cx, .byte), (cs, .int), (cp, .int), (ci, .int), (cu, .int), (cm, .int), (ct, .object "ScheduleHouse$Trial"), (d0, .byte), (d1, .int), (d2, .int), (d3, .int), (d4, .int), (d5, .boolean), (co, .long)] s := hK
  subst hw
  refine lv_iload hx hb dL_law_379 (lv_at hl 1 rfl) ?_
  refine lv_icmp_eq (tgt := 386) hx hb dL_law_381 (by decide) (fun _ => ?_) (fun c9 => absurd ag.1 c9)
  refine lv_iload hx hb dL_law_386 (lv_at hl 1 rfl) ?_
  refine lv_if_ne (tgt := 403) hx hb dL_law_388 (by decide) (fun c5 => ?_) (fun c5 => ?_)
  · refine lv_goto (tgt := 1894) hx hb dL_law_403 (by decide) ?_
    refine W.widen (k := 2000) (n := 2000000) (Nat.le_of_ble_eq_true rfl) (Nat.le_of_ble_eq_true rfl) ?_
    exact law_tail l C0 hS (lv_sub hl [2, 6] rfl)
  · refine lv_aload_n hx hb dL_law_391 rfl (lv_at hl 3 rfl) ?_
    refine lv_iconst (v := 0) hx hb dL_law_392 (by decide +kernel) ?_
    refine va_lald hx hb hK hP 18 13 rfl rfl (i := 0) (by unfold vp_in; decide) dL_law_393 ?_
    refine lv_iload hx hb dL_law_394 (lv_at hl 0 rfl) ?_
    refine lv_i2l (v := r3.toInt64) hx hb dL_law_396 rfl ?_
    rw [show u2 (0 : Int32).toNatClampNeg = r3.toInt64 from ag.2 c5]
    refine W.lcmp hx hb dL_law_397 ?_
    rw [cmp_eq]
    refine lv_if_eq (tgt := 403) hx hb dL_law_398 (by decide) (fun _ => ?_) (fun c9 => False.elim (by revert c9; decide))
    refine lv_goto (tgt := 1894) hx hb dL_law_403 (by decide) ?_
    refine W.widen (k := 2000) (n := 2000000) (Nat.le_of_ble_eq_true rfl) (Nat.le_of_ble_eq_true rfl) ?_
    exact law_tail l C0 hS (lv_sub hl [2, 6] rfl)
set_option maxHeartbeats 400000 in
set_option maxRecDepth 100000 in
theorem law_5 {p : Program} {e : Env} {s : State} {m : MethodId} {below : List Frame} {meth : Method} {c : Code} (l : Launch) (hlt : l.stackTraces = false) {b : Nat} {xs : Nat → Int32} (C0 : lw_At p s m meth c b 4 xs) (hE : ev s) (hZ : ev_Z (fun q : Nat => s.heap.size ≤ q) s s.heap) (D : va_G) (x0 tk tx so pl li nm us me cd sp rd tr m0 b0 b1 b2 b3 b4 b5 o0 : Nat) (cx cs cp ci cu cm ct d0 d1 d2 d3 d4 d5 co : ClassId) (xf tf nf cf sf rf mf : List Value) {H : Heap} {locs : List Loc} {ls : Array Slot} (hin : law_in D s H locs x0 tk tx so pl li nm us me cd sp rd tr m0 b0 b1 b2 b3 b4 b5 o0 cx cs cp ci cu cm ct d0 d1 d2 d3 d4 d5 co xf tf nf cf sf rf mf) (hl : lv_has ls 7 [(4, .int 0), (3, .ref o0), (2, .ref m0), (1, .ref x0), (0, .ref b)]) : W p l e room_1 s m #[Value.ref b] below meth c H locs 1000 1000000 (lw_Z below #[Value.ref b] s) (F0 m 406 ls []) := by
  obtain ⟨hx, hb, hr, hml, hown, hts, hX, hbl, hlocks, hgv⟩ := id C0
  have hA : ∀ q : Nat, s.heap.size ≤ q → (fun q : Nat => s.heap.size ≤ q) q := fun _ h => h
  have hbA : ¬ (fun q : Nat => s.heap.size ≤ q) b := Nat.not_le.mpr hbl
  obtain ⟨hok, hP, hD, hK, hS⟩ := hin
  obtain ⟨xf_l, xf_0, xf_1, xf_2, xf_3, xf_6, xf_9, xf_10, xf_11, xf_12, tf_l, tf_0, tf_1, tf_2, tf_3, tf_4, nf_l, nf_0, nf_1, nf_2, nf_11, cf_l, cf_0, sf_l, rf_l, rf_0, rf_1, rf_2, rf_3, mf_l, mf_z, mf_p, mf_n, mf_r0, mf_r1, mf_r2, mf_r3, mf_r4, mf_r5⟩ := hok
  have hown : s.vm.findClass RL = some m.cls := hown
  refine lv_aload_n hx hb dL_law_406 rfl (lv_at hl 3 rfl) ?_
  refine lv_aload_n hx hb dL_law_407 rfl (lv_at hl 4 rfl) ?_
  refine lv_iload hx hb dL_law_408 (lv_at hl 0 rfl) ?_
  refine lv_iconst (v := 1) hx hb dL_law_410 (by decide +kernel) ?_
  refine lv_iadd hx hb dL_law_411 ?_
  rw [show (0 + 1 : Int32) = 1 by decide]
  refine va_sld hx hb hX hbl hbA hS (i := 1) (by unfold vp_in; decide) dL_law_412 ?_
  refine lv_aload_n hx hb dL_law_413 rfl (lv_at hl 1 rfl) ?_
  have hPc := hP.sub (ws' := [(x0, .inr (11, xf))]) [0] rfl
  have hDc := hD.sub (ws' := [(x0, .inr (11, xf))]) [0] (by decide) rfl
  have hKc := hK.sub (tys' := []) [] rfl
  have hFc := va_free (wc := [(x0, .inr (11, xf))]) hD hS hA [0] rfl
  refine va_calli (vx_runSW (As := [.ref x0, .int (xs (1 : Int32).toNatClampNeg), .ref o0]) (rest := []) ⟨hx, hb, hml, hown, hts⟩ (c_L_begin l D x0 o0 xf (xs (1 : Int32).toNatClampNeg) H.size hlt xf_9) (vx_cwSW 3 hts g_lw_11 rfl rfl rfl (by decide +kernel) ⟨Nat.le_of_ble_eq_true rfl, Nat.le_of_ble_eq_true rfl⟩) ⟨st_blind, fun U hU hW => ⟨rfl, st_call hU hW hPc hKc hDc hZ hS hFc hE⟩⟩ rfl rfl hl.1 rfl (lv_room (Nat.le_of_ble_eq_true rfl)) dL_law_414 ⟨Nat.le_of_ble_eq_true rfl, Nat.le_of_ble_eq_true rfl⟩) hS (fun q _ h => hFc q h) hFc (fun r1 u2 t H1 locs ht hvm hw hB hz1 hk1 hS => ?_)
  obtain ⟨hP, hD⟩ := va_join (wr := [(tk, .inr (9, tf)), (tx, .inl (cx, 3000, .inl (fun _ => 0))), (so, .inl (cs, 702, .inl (fun _ => 0))), (pl, .inl (cp, 702, .inl (fun _ => 0))), (li, .inl (ci, 702, .inl (fun _ => 0))), (nm, .inr (6, nf)), (us, .inl (cu, 702, .inl (fun _ => 0))), (me, .inl (cm, 702, .inl (fun _ => 0))), (cd, .inr (0, cf)), (sp, .inr (8, sf)), (rd, .inr (7, rf)), (tr, .inl (ct, 2, .inr (.inr (.inr (.inr (fun _ => none)))))), (m0, .inr (12, mf)), (b0, .inl (d0, 3000, .inl (fun _ => 0))), (b1, .inl (d1, 710, .inl (fun _ => 0))), (b2, .inl (d2, 710, .inl (fun _ => 0))), (b3, .inl (d3, 710, .inl (fun _ => 0))), (b4, .inl (d4, 710, .inl (fun _ => 0))), (b5, .inl (d5, 2, .inl (fun _ => 0))), (o0, .inl (co, 1, .inr (.inl (fun _ => 0))))]) (w1 := []) hP hD [0] [1, 2, 3, 4, 5, 6, 7, 8, 9, 10, 11, 12, 13, 14, 15, 16, 17, 18, 19, 20] rfl rfl (by decide) (by decide) hk1 hFc p_nil d_nil
  have hK := hK.sub (tys' := [(cx, .byte), (cs, .int), (cp, .int), (ci, .int), (cu, .int), (cm, .int), (ct, .object "ScheduleHouse$Trial"), (d0, .byte), (d1, .int), (d2, .int), (d3, .int), (d4, .int), (d5, .boolean), (co, .long)]) [0, 1, 2, 3, 4, 5, 6, 7, 8, 9, 10, 11, 12, 13] rfl
  generalize H1 = H at hP hS ⊢
  have hP : va_P D vwCl [(tk, .inr (9, tf)), (tx, .inl (cx, 3000, .inl (fun _ => 0))), (so, .inl (cs, 702, .inl (fun _ => 0))), (pl, .inl (cp, 702, .inl (fun _ => 0))), (li, .inl (ci, 702, .inl (fun _ => 0))), (nm, .inr (6, nf)), (us, .inl (cu, 702, .inl (fun _ => 0))), (me, .inl (cm, 702, .inl (fun _ => 0))), (cd, .inr (0, cf)), (sp, .inr (8, sf)), (rd, .inr (7, rf)), (tr, .inl (ct, 2, .inr (.inr (.inr (.inr (fun _ => none)))))), (m0, .inr (12, mf)), (b0, .inl (d0, 3000, .inl (fun _ => 0))), (b1, .inl (d1, 710, .inl (fun _ => 0))), (b2, .inl (d2, 710, .inl (fun _ => 0))), (b3, .inl (d3, 710, .inl (fun _ => 0))), (b4, .inl (d4, 710, .inl (fun _ => 0))), (b5, .inl (d5, 2, .inl (fun _ => 0))), (o0, .inl (co, 1, .inr (.inl (fun _ => 0))))] H := hP
  have hD : va_D (fun q : Nat => s.heap.size ≤ q) [(tk, .inr (9, tf)), (tx, .inl (cx, 3000, .inl (fun _ => 0))), (so, .inl (cs, 702, .inl (fun _ => 0))), (pl, .inl (cp, 702, .inl (fun _ => 0))), (li, .inl (ci, 702, .inl (fun _ => 0))), (nm, .inr (6, nf)), (us, .inl (cu, 702, .inl (fun _ => 0))), (me, .inl (cm, 702, .inl (fun _ => 0))), (cd, .inr (0, cf)), (sp, .inr (8, sf)), (rd, .inr (7, rf)), (tr, .inl (ct, 2, .inr (.inr (.inr (.inr (fun _ => none)))))), (m0, .inr (12, mf)), (b0, .inl (d0, 3000, .inl (fun _ => 0))), (b1, .inl (d1, 710, .inl (fun _ => 0))), (b2, .inl (d2, 710, .inl (fun _ => 0))), (b3, .inl (d3, 710, .inl (fun _ => 0))), (b4, .inl (d4, 710, .inl (fun _ => 0))), (b5, .inl (d5, 2, .inl (fun _ => 0))), (o0, .inl (co, 1, .inr (.inl (fun _ => 0))))] := hD
  have hK : va_K D vwCl [(cx, .byte), (cs, .int), (cp, .int), (ci, .int), (cu, .int), (cm, .int), (ct, .object "ScheduleHouse$Trial"), (d0, .byte), (d1, .int), (d2, .int), (d3, .int), (d4, .int), (d5, .boolean), (co, .long)] s := hK
  subst hw
  refine lv_istore (lv' := [(5, .int 1), (4, .int 0), (3, .ref o0), (2, .ref m0), (1, .ref x0), (0, .ref b)]) hx hb dL_law_417 hl (by decide) rfl (fun ls hl => ?_)
  refine lv_aload_n hx hb dL_law_419 rfl (lv_at hl 3 rfl) ?_
  refine lv_aload_n hx hb dL_law_420 rfl (lv_at hl 5 rfl) ?_
  refine lv_iload hx hb dL_law_421 (lv_at hl 1 rfl) ?_
  refine lv_iconst (v := 1) hx hb dL_law_423 (by decide +kernel) ?_
  refine lv_iadd hx hb dL_law_424 ?_
  rw [show (0 + 1 : Int32) = 1 by decide]
  refine va_sld hx hb hX hbl hbA hS (i := 1) (by unfold vp_in; decide) dL_law_425 ?_
  have hPc := hP.sub (ws' := [(m0, .inr (12, mf))]) [12] rfl
  have hDc := hD.sub (ws' := [(m0, .inr (12, mf))]) [12] (by decide) rfl
  have hKc := hK.sub (tys' := []) [] rfl
  have hFc := va_free (wc := [(m0, .inr (12, mf))]) hD hS hA [12] rfl
  refine va_calli (va_runV (As := [.int (xs (1 : Int32).toNatClampNeg)]) (rest := []) ⟨hx, hb, hml, hown, hts⟩ (c_m_begin l D m0 mf (xs (1 : Int32).toNatClampNeg) H.size mf_l (mf_z 0 (by decide)) (mf_z 66 (by decide))) (cwV 1 hts g_lw_12 rfl rfl rfl (by decide +kernel) ⟨Nat.le_of_ble_eq_true rfl, Nat.le_of_ble_eq_true rfl⟩) ⟨st_blind, va_recv hKc hPc (ci := 12) (q0 := 0) rfl rfl, fun U hU hW => ⟨rfl, st_call hU hW hPc hKc hDc hZ hS hFc hE⟩⟩ rfl rfl hl.1 rfl (lv_room (Nat.le_of_ble_eq_true rfl)) dL_law_426 ⟨Nat.le_of_ble_eq_true rfl, Nat.le_of_ble_eq_true rfl⟩) hS (fun q _ h => hFc q h) hFc (fun r3 u4 t H1 locs ht hvm hw hB hz1 hk1 hS => ?_)
  have ht9 := hw
  obtain ⟨hP1, hK1, hD1⟩ := hB
  rw [ht] at hP1
  have hK1 := va_K.moved hvm.symm hK1
  obtain ⟨hP, hD⟩ := va_join (wr := [(tk, .inr (9, tf)), (tx, .inl (cx, 3000, .inl (fun _ => 0))), (so, .inl (cs, 702, .inl (fun _ => 0))), (pl, .inl (cp, 702, .inl (fun _ => 0))), (li, .inl (ci, 702, .inl (fun _ => 0))), (nm, .inr (6, nf)), (us, .inl (cu, 702, .inl (fun _ => 0))), (me, .inl (cm, 702, .inl (fun _ => 0))), (cd, .inr (0, cf)), (sp, .inr (8, sf)), (rd, .inr (7, rf)), (tr, .inl (ct, 2, .inr (.inr (.inr (.inr (fun _ => none)))))), (b0, .inl (d0, 3000, .inl (fun _ => 0))), (b1, .inl (d1, 710, .inl (fun _ => 0))), (b2, .inl (d2, 710, .inl (fun _ => 0))), (b3, .inl (d3, 710, .inl (fun _ => 0))), (b4, .inl (d4, 710, .inl (fun _ => 0))), (b5, .inl (d5, 2, .inl (fun _ => 0))), (o0, .inl (co, 1, .inr (.inl (fun _ => 0))))]) (w1 := [(m0, .inr (12, u4))]) hP hD [12] [0, 1, 2, 3, 4, 5, 6, 7, 8, 9, 10, 11, 13, 14, 15, 16, 17, 18, 19] rfl rfl (by decide) (by decide) hk1 hFc hP1 hD1
  have hK := (hK.sub (tys' := [(cx, .byte), (cs, .int), (cp, .int), (ci, .int), (cu, .int), (cm, .int), (ct, .object "ScheduleHouse$Trial"), (d0, .byte), (d1, .int), (d2, .int), (d3, .int), (d4, .int), (d5, .boolean), (co, .long)]) [0, 1, 2, 3, 4, 5, 6, 7, 8, 9, 10, 11, 12, 13] rfl).app hK1
  generalize H1 = H at hP hS ⊢
  have hP : va_P D vwCl [(tk, .inr (9, tf)), (tx, .inl (cx, 3000, .inl (fun _ => 0))), (so, .inl (cs, 702, .inl (fun _ => 0))), (pl, .inl (cp, 702, .inl (fun _ => 0))), (li, .inl (ci, 702, .inl (fun _ => 0))), (nm, .inr (6, nf)), (us, .inl (cu, 702, .inl (fun _ => 0))), (me, .inl (cm, 702, .inl (fun _ => 0))), (cd, .inr (0, cf)), (sp, .inr (8, sf)), (rd, .inr (7, rf)), (tr, .inl (ct, 2, .inr (.inr (.inr (.inr (fun _ => none)))))), (b0, .inl (d0, 3000, .inl (fun _ => 0))), (b1, .inl (d1, 710, .inl (fun _ => 0))), (b2, .inl (d2, 710, .inl (fun _ => 0))), (b3, .inl (d3, 710, .inl (fun _ => 0))), (b4, .inl (d4, 710, .inl (fun _ => 0))), (b5, .inl (d5, 2, .inl (fun _ => 0))), (o0, .inl (co, 1, .inr (.inl (fun _ => 0)))), (m0, .inr (12, u4))] H := hP
  have hD : va_D (fun q : Nat => s.heap.size ≤ q) [(tk, .inr (9, tf)), (tx, .inl (cx, 3000, .inl (fun _ => 0))), (so, .inl (cs, 702, .inl (fun _ => 0))), (pl, .inl (cp, 702, .inl (fun _ => 0))), (li, .inl (ci, 702, .inl (fun _ => 0))), (nm, .inr (6, nf)), (us, .inl (cu, 702, .inl (fun _ => 0))), (me, .inl (cm, 702, .inl (fun _ => 0))), (cd, .inr (0, cf)), (sp, .inr (8, sf)), (rd, .inr (7, rf)), (tr, .inl (ct, 2, .inr (.inr (.inr (.inr (fun _ => none)))))), (b0, .inl (d0, 3000, .inl (fun _ => 0))), (b1, .inl (d1, 710, .inl (fun _ => 0))), (b2, .inl (d2, 710, .inl (fun _ => 0))), (b3, .inl (d3, 710, .inl (fun _ => 0))), (b4, .inl (d4, 710, .inl (fun _ => 0))), (b5, .inl (d5, 2, .inl (fun _ => 0))), (o0, .inl (co, 1, .inr (.inl (fun _ => 0)))), (m0, .inr (12, u4))] := hD
  have hK : va_K D vwCl [(cx, .byte), (cs, .int), (cp, .int), (ci, .int), (cu, .int), (cm, .int), (ct, .object "ScheduleHouse$Trial"), (d0, .byte), (d1, .int), (d2, .int), (d3, .int), (d4, .int), (d5, .boolean), (co, .long)] s := hK
  refine lv_istore (lv' := [(6, .int r3), (5, .int 1), (4, .int 0), (3, .ref o0), (2, .ref m0), (1, .ref x0), (0, .ref b)]) hx hb dL_law_429 hl (by decide) rfl (fun ls hl => ?_)
  refine lv_aload_n hx hb dL_law_431 rfl (lv_at hl 4 rfl) ?_
  have hPc := hP.sub (ws' := [(m0, .inr (12, u4))]) [19] rfl
  have hDc := hD.sub (ws' := [(m0, .inr (12, u4))]) [19] (by decide) rfl
  have hKc := hK.sub (tys' := []) [] rfl
  have hFc := va_free (wc := [(m0, .inr (12, u4))]) hD hS hA [19] rfl
  refine va_calli (va_runV (As := []) (rest := []) ⟨hx, hb, hml, hown, hts⟩ (c_m_thrown l D m0 u4 1 H.size ht9) (cwV 0 hts g_lw_2 rfl rfl rfl (by decide +kernel) ⟨Nat.le_of_ble_eq_true rfl, Nat.le_of_ble_eq_true rfl⟩) ⟨st_blind, va_recv hKc hPc (ci := 12) (q0 := 0) rfl rfl, fun U hU hW => ⟨rfl, st_call hU hW hPc hKc hDc hZ hS hFc hE⟩⟩ rfl rfl hl.1 rfl (lv_room (Nat.le_of_ble_eq_true rfl)) dL_law_432 ⟨Nat.le_of_ble_eq_true rfl, Nat.le_of_ble_eq_true rfl⟩) hS (fun q _ h => hFc q h) hFc (fun r5 u6 t H1 locs ht hvm hw hB hz1 hk1 hS => ?_)
  obtain ⟨hP, hD⟩ := va_join (wr := [(tk, .inr (9, tf)), (tx, .inl (cx, 3000, .inl (fun _ => 0))), (so, .inl (cs, 702, .inl (fun _ => 0))), (pl, .inl (cp, 702, .inl (fun _ => 0))), (li, .inl (ci, 702, .inl (fun _ => 0))), (nm, .inr (6, nf)), (us, .inl (cu, 702, .inl (fun _ => 0))), (me, .inl (cm, 702, .inl (fun _ => 0))), (cd, .inr (0, cf)), (sp, .inr (8, sf)), (rd, .inr (7, rf)), (tr, .inl (ct, 2, .inr (.inr (.inr (.inr (fun _ => none)))))), (b0, .inl (d0, 3000, .inl (fun _ => 0))), (b1, .inl (d1, 710, .inl (fun _ => 0))), (b2, .inl (d2, 710, .inl (fun _ => 0))), (b3, .inl (d3, 710, .inl (fun _ => 0))), (b4, .inl (d4, 710, .inl (fun _ => 0))), (b5, .inl (d5, 2, .inl (fun _ => 0))), (o0, .inl (co, 1, .inr (.inl (fun _ => 0))))]) (w1 := []) hP hD [19] [0, 1, 2, 3, 4, 5, 6, 7, 8, 9, 10, 11, 12, 13, 14, 15, 16, 17, 18] rfl rfl (by decide) (by decide) hk1 hFc p_nil d_nil
  have hK := hK.sub (tys' := [(cx, .byte), (cs, .int), (cp, .int), (ci, .int), (cu, .int), (cm, .int), (ct, .object "ScheduleHouse$Trial"), (d0, .byte), (d1, .int), (d2, .int), (d3, .int), (d4, .int), (d5, .boolean), (co, .long)]) [0, 1, 2, 3, 4, 5, 6, 7, 8, 9, 10, 11, 12, 13] rfl
  generalize H1 = H at hP hS ⊢
  have hP : va_P D vwCl [(tk, .inr (9, tf)), (tx, .inl (cx, 3000, .inl (fun _ => 0))), (so, .inl (cs, 702, .inl (fun _ => 0))), (pl, .inl (cp, 702, .inl (fun _ => 0))), (li, .inl (ci, 702, .inl (fun _ => 0))), (nm, .inr (6, nf)), (us, .inl (cu, 702, .inl (fun _ => 0))), (me, .inl (cm, 702, .inl (fun _ => 0))), (cd, .inr (0, cf)), (sp, .inr (8, sf)), (rd, .inr (7, rf)), (tr, .inl (ct, 2, .inr (.inr (.inr (.inr (fun _ => none)))))), (b0, .inl (d0, 3000, .inl (fun _ => 0))), (b1, .inl (d1, 710, .inl (fun _ => 0))), (b2, .inl (d2, 710, .inl (fun _ => 0))), (b3, .inl (d3, 710, .inl (fun _ => 0))), (b4, .inl (d4, 710, .inl (fun _ => 0))), (b5, .inl (d5, 2, .inl (fun _ => 0))), (o0, .inl (co, 1, .inr (.inl (fun _ => 0))))] H := hP
  have hD : va_D (fun q : Nat => s.heap.size ≤ q) [(tk, .inr (9, tf)), (tx, .inl (cx, 3000, .inl (fun _ => 0))), (so, .inl (cs, 702, .inl (fun _ => 0))), (pl, .inl (cp, 702, .inl (fun _ => 0))), (li, .inl (ci, 702, .inl (fun _ => 0))), (nm, .inr (6, nf)), (us, .inl (cu, 702, .inl (fun _ => 0))), (me, .inl (cm, 702, .inl (fun _ => 0))), (cd, .inr (0, cf)), (sp, .inr (8, sf)), (rd, .inr (7, rf)), (tr, .inl (ct, 2, .inr (.inr (.inr (.inr (fun _ => none)))))), (b0, .inl (d0, 3000, .inl (fun _ => 0))), (b1, .inl (d1, 710, .inl (fun _ => 0))), (b2, .inl (d2, 710, .inl (fun _ => 0))), (b3, .inl (d3, 710, .inl (fun _ => 0))), (b4, .inl (d4, 710, .inl (fun _ => 0))), (b5, .inl (d5, 2, .inl (fun _ => 0))), (o0, .inl (co, 1, .inr (.inl (fun _ => 0))))] := hD
  have hK : va_K D vwCl [(cx, .byte), (cs, .int), (cp, .int), (ci, .int), (cu, .int), (cm, .int), (ct, .object "ScheduleHouse$Trial"), (d0, .byte), (d1, .int), (d2, .int), (d3, .int), (d4, .int), (d5, .boolean), (co, .long)] s := hK
  subst hw
  refine lv_iload hx hb dL_law_435 (lv_at hl 1 rfl) ?_
  refine lv_icmp_eq (tgt := 442) hx hb dL_law_437 (by decide) (fun _ => ?_) (fun c9 => absurd rfl c9)
  refine lv_iload hx hb dL_law_442 (lv_at hl 1 rfl) ?_
  refine lv_if_ne (tgt := 459) hx hb dL_law_444 (by decide) (fun _ => ?_) (fun c9 => False.elim (by revert c9; decide))
  refine lv_goto (tgt := 1894) hx hb dL_law_459 (by decide) ?_
  refine W.widen (k := 2000) (n := 2000000) (Nat.le_of_ble_eq_true rfl) (Nat.le_of_ble_eq_true rfl) ?_
  exact law_tail l C0 hS (lv_sub hl [2, 6] rfl)
set_option maxHeartbeats 400000 in
set_option maxRecDepth 100000 in
theorem law_6 {p : Program} {e : Env} {s : State} {m : MethodId} {below : List Frame} {meth : Method} {c : Code} (l : Launch) (hlt : l.stackTraces = false) {b : Nat} {xs : Nat → Int32} (C0 : lw_At p s m meth c b 4 xs) (hE : ev s) (hZ : ev_Z (fun q : Nat => s.heap.size ≤ q) s s.heap) (D : va_G) (x0 tk tx so pl li nm us me cd sp rd tr m0 b0 b1 b2 b3 b4 b5 o0 : Nat) (cx cs cp ci cu cm ct d0 d1 d2 d3 d4 d5 co : ClassId) (xf tf nf cf sf rf mf : List Value) {H : Heap} {locs : List Loc} {ls : Array Slot} (hin : law_in D s H locs x0 tk tx so pl li nm us me cd sp rd tr m0 b0 b1 b2 b3 b4 b5 o0 cx cs cp ci cu cm ct d0 d1 d2 d3 d4 d5 co xf tf nf cf sf rf mf) (hl : lv_has ls 7 [(4, .int 0), (3, .ref o0), (2, .ref m0), (1, .ref x0), (0, .ref b)]) : W p l e room_1 s m #[Value.ref b] below meth c H locs 1000 1000000 (lw_Z below #[Value.ref b] s) (F0 m 462 ls []) := by
  obtain ⟨hx, hb, hr, hml, hown, hts, hX, hbl, hlocks, hgv⟩ := id C0
  have hA : ∀ q : Nat, s.heap.size ≤ q → (fun q : Nat => s.heap.size ≤ q) q := fun _ h => h
  have hbA : ¬ (fun q : Nat => s.heap.size ≤ q) b := Nat.not_le.mpr hbl
  obtain ⟨hok, hP, hD, hK, hS⟩ := hin
  obtain ⟨xf_l, xf_0, xf_1, xf_2, xf_3, xf_6, xf_9, xf_10, xf_11, xf_12, tf_l, tf_0, tf_1, tf_2, tf_3, tf_4, nf_l, nf_0, nf_1, nf_2, nf_11, cf_l, cf_0, sf_l, rf_l, rf_0, rf_1, rf_2, rf_3, mf_l, mf_z, mf_p, mf_n, mf_r0, mf_r1, mf_r2, mf_r3, mf_r4, mf_r5⟩ := hok
  have hown : s.vm.findClass RL = some m.cls := hown
  refine lv_aload_n hx hb dL_law_462 rfl (lv_at hl 3 rfl) ?_
  refine lv_aload_n hx hb dL_law_463 rfl (lv_at hl 1 rfl) ?_
  have hPc := hP.sub (ws' := [(x0, .inr (11, xf))]) [0] rfl
  have hDc := hD.sub (ws' := [(x0, .inr (11, xf))]) [0] (by decide) rfl
  have hKc := hK.sub (tys' := []) [] rfl
  have hFc := va_free (wc := [(x0, .inr (11, xf))]) hD hS hA [0] rfl
  refine va_calli (vx_runSW (As := [.ref x0, .ref o0]) (rest := []) ⟨hx, hb, hml, hown, hts⟩ (c_L_choices l D x0 o0 xf H.size hlt xf_10) (vx_cwSW 2 hts g_lw_13 rfl rfl rfl (by decide +kernel) ⟨Nat.le_of_ble_eq_true rfl, Nat.le_of_ble_eq_true rfl⟩) ⟨st_blind, fun U hU hW => ⟨rfl, st_call hU hW hPc hKc hDc hZ hS hFc hE⟩⟩ rfl rfl hl.1 rfl (lv_room (Nat.le_of_ble_eq_true rfl)) dL_law_464 ⟨Nat.le_of_ble_eq_true rfl, Nat.le_of_ble_eq_true rfl⟩) hS (fun q _ h => hFc q h) hFc (fun r1 u2 t H1 locs ht hvm hw hB hz1 hk1 hS => ?_)
  obtain ⟨hP, hD⟩ := va_join (wr := [(tk, .inr (9, tf)), (tx, .inl (cx, 3000, .inl (fun _ => 0))), (so, .inl (cs, 702, .inl (fun _ => 0))), (pl, .inl (cp, 702, .inl (fun _ => 0))), (li, .inl (ci, 702, .inl (fun _ => 0))), (nm, .inr (6, nf)), (us, .inl (cu, 702, .inl (fun _ => 0))), (me, .inl (cm, 702, .inl (fun _ => 0))), (cd, .inr (0, cf)), (sp, .inr (8, sf)), (rd, .inr (7, rf)), (tr, .inl (ct, 2, .inr (.inr (.inr (.inr (fun _ => none)))))), (m0, .inr (12, mf)), (b0, .inl (d0, 3000, .inl (fun _ => 0))), (b1, .inl (d1, 710, .inl (fun _ => 0))), (b2, .inl (d2, 710, .inl (fun _ => 0))), (b3, .inl (d3, 710, .inl (fun _ => 0))), (b4, .inl (d4, 710, .inl (fun _ => 0))), (b5, .inl (d5, 2, .inl (fun _ => 0))), (o0, .inl (co, 1, .inr (.inl (fun _ => 0))))]) (w1 := []) hP hD [0] [1, 2, 3, 4, 5, 6, 7, 8, 9, 10, 11, 12, 13, 14, 15, 16, 17, 18, 19, 20] rfl rfl (by decide) (by decide) hk1 hFc p_nil d_nil
  have hK := hK.sub (tys' := [(cx, .byte), (cs, .int), (cp, .int), (ci, .int), (cu, .int), (cm, .int), (ct, .object "ScheduleHouse$Trial"), (d0, .byte), (d1, .int), (d2, .int), (d3, .int), (d4, .int), (d5, .boolean), (co, .long)]) [0, 1, 2, 3, 4, 5, 6, 7, 8, 9, 10, 11, 12, 13] rfl
  generalize H1 = H at hP hS ⊢
  have hP : va_P D vwCl [(tk, .inr (9, tf)), (tx, .inl (cx, 3000, .inl (fun _ => 0))), (so, .inl (cs, 702, .inl (fun _ => 0))), (pl, .inl (cp, 702, .inl (fun _ => 0))), (li, .inl (ci, 702, .inl (fun _ => 0))), (nm, .inr (6, nf)), (us, .inl (cu, 702, .inl (fun _ => 0))), (me, .inl (cm, 702, .inl (fun _ => 0))), (cd, .inr (0, cf)), (sp, .inr (8, sf)), (rd, .inr (7, rf)), (tr, .inl (ct, 2, .inr (.inr (.inr (.inr (fun _ => none)))))), (m0, .inr (12, mf)), (b0, .inl (d0, 3000, .inl (fun _ => 0))), (b1, .inl (d1, 710, .inl (fun _ => 0))), (b2, .inl (d2, 710, .inl (fun _ => 0))), (b3, .inl (d3, 710, .inl (fun _ => 0))), (b4, .inl (d4, 710, .inl (fun _ => 0))), (b5, .inl (d5, 2, .inl (fun _ => 0))), (o0, .inl (co, 1, .inr (.inl (fun _ => 0))))] H := hP
  have hD : va_D (fun q : Nat => s.heap.size ≤ q) [(tk, .inr (9, tf)), (tx, .inl (cx, 3000, .inl (fun _ => 0))), (so, .inl (cs, 702, .inl (fun _ => 0))), (pl, .inl (cp, 702, .inl (fun _ => 0))), (li, .inl (ci, 702, .inl (fun _ => 0))), (nm, .inr (6, nf)), (us, .inl (cu, 702, .inl (fun _ => 0))), (me, .inl (cm, 702, .inl (fun _ => 0))), (cd, .inr (0, cf)), (sp, .inr (8, sf)), (rd, .inr (7, rf)), (tr, .inl (ct, 2, .inr (.inr (.inr (.inr (fun _ => none)))))), (m0, .inr (12, mf)), (b0, .inl (d0, 3000, .inl (fun _ => 0))), (b1, .inl (d1, 710, .inl (fun _ => 0))), (b2, .inl (d2, 710, .inl (fun _ => 0))), (b3, .inl (d3, 710, .inl (fun _ => 0))), (b4, .inl (d4, 710, .inl (fun _ => 0))), (b5, .inl (d5, 2, .inl (fun _ => 0))), (o0, .inl (co, 1, .inr (.inl (fun _ => 0))))] := hD
  have hK : va_K D vwCl [(cx, .byte), (cs, .int), (cp, .int), (ci, .int), (cu, .int), (cm, .int), (ct, .object "ScheduleHouse$Trial"), (d0, .byte), (d1, .int), (d2, .int), (d3, .int), (d4, .int), (d5, .boolean), (co, .long)] s := hK
  subst hw
  refine lv_istore (lv' := [(5, .int 1), (4, .int 0), (3, .ref o0), (2, .ref m0), (1, .ref x0), (0, .ref b)]) hx hb dL_law_467 hl (by decide) rfl (fun ls hl => ?_)
  refine lv_aload_n hx hb dL_law_469 rfl (lv_at hl 3 rfl) ?_
  have hPc := hP.sub (ws' := [(m0, .inr (12, mf))]) [12] rfl
  have hDc := hD.sub (ws' := [(m0, .inr (12, mf))]) [12] (by decide) rfl
  have hKc := hK.sub (tys' := []) [] rfl
  have hFc := va_free (wc := [(m0, .inr (12, mf))]) hD hS hA [12] rfl
  refine va_calli (va_runV (As := []) (rest := []) ⟨hx, hb, hml, hown, hts⟩ (c_m_choices l D m0 mf H.size mf_l (mf_z 0 (by decide)) (mf_z 67 (by decide))) (cwV 0 hts g_lw_14 rfl rfl rfl (by decide +kernel) ⟨Nat.le_of_ble_eq_true rfl, Nat.le_of_ble_eq_true rfl⟩) ⟨st_blind, va_recv hKc hPc (ci := 12) (q0 := 0) rfl rfl, fun U hU hW => ⟨rfl, st_call hU hW hPc hKc hDc hZ hS hFc hE⟩⟩ rfl rfl hl.1 rfl (lv_room (Nat.le_of_ble_eq_true rfl)) dL_law_470 ⟨Nat.le_of_ble_eq_true rfl, Nat.le_of_ble_eq_true rfl⟩) hS (fun q _ h => hFc q h) hFc (fun r3 u4 t H1 locs ht hvm hw hB hz1 hk1 hS => ?_)
  have ht9 := hw
  obtain ⟨hP1, hK1, hD1⟩ := hB
  rw [ht] at hP1
  have hK1 := va_K.moved hvm.symm hK1
  obtain ⟨hP, hD⟩ := va_join (wr := [(tk, .inr (9, tf)), (tx, .inl (cx, 3000, .inl (fun _ => 0))), (so, .inl (cs, 702, .inl (fun _ => 0))), (pl, .inl (cp, 702, .inl (fun _ => 0))), (li, .inl (ci, 702, .inl (fun _ => 0))), (nm, .inr (6, nf)), (us, .inl (cu, 702, .inl (fun _ => 0))), (me, .inl (cm, 702, .inl (fun _ => 0))), (cd, .inr (0, cf)), (sp, .inr (8, sf)), (rd, .inr (7, rf)), (tr, .inl (ct, 2, .inr (.inr (.inr (.inr (fun _ => none)))))), (b0, .inl (d0, 3000, .inl (fun _ => 0))), (b1, .inl (d1, 710, .inl (fun _ => 0))), (b2, .inl (d2, 710, .inl (fun _ => 0))), (b3, .inl (d3, 710, .inl (fun _ => 0))), (b4, .inl (d4, 710, .inl (fun _ => 0))), (b5, .inl (d5, 2, .inl (fun _ => 0))), (o0, .inl (co, 1, .inr (.inl (fun _ => 0))))]) (w1 := [(m0, .inr (12, u4))]) hP hD [12] [0, 1, 2, 3, 4, 5, 6, 7, 8, 9, 10, 11, 13, 14, 15, 16, 17, 18, 19] rfl rfl (by decide) (by decide) hk1 hFc hP1 hD1
  have hK := (hK.sub (tys' := [(cx, .byte), (cs, .int), (cp, .int), (ci, .int), (cu, .int), (cm, .int), (ct, .object "ScheduleHouse$Trial"), (d0, .byte), (d1, .int), (d2, .int), (d3, .int), (d4, .int), (d5, .boolean), (co, .long)]) [0, 1, 2, 3, 4, 5, 6, 7, 8, 9, 10, 11, 12, 13] rfl).app hK1
  generalize H1 = H at hP hS ⊢
  have hP : va_P D vwCl [(tk, .inr (9, tf)), (tx, .inl (cx, 3000, .inl (fun _ => 0))), (so, .inl (cs, 702, .inl (fun _ => 0))), (pl, .inl (cp, 702, .inl (fun _ => 0))), (li, .inl (ci, 702, .inl (fun _ => 0))), (nm, .inr (6, nf)), (us, .inl (cu, 702, .inl (fun _ => 0))), (me, .inl (cm, 702, .inl (fun _ => 0))), (cd, .inr (0, cf)), (sp, .inr (8, sf)), (rd, .inr (7, rf)), (tr, .inl (ct, 2, .inr (.inr (.inr (.inr (fun _ => none)))))), (b0, .inl (d0, 3000, .inl (fun _ => 0))), (b1, .inl (d1, 710, .inl (fun _ => 0))), (b2, .inl (d2, 710, .inl (fun _ => 0))), (b3, .inl (d3, 710, .inl (fun _ => 0))), (b4, .inl (d4, 710, .inl (fun _ => 0))), (b5, .inl (d5, 2, .inl (fun _ => 0))), (o0, .inl (co, 1, .inr (.inl (fun _ => 0)))), (m0, .inr (12, u4))] H := hP
  have hD : va_D (fun q : Nat => s.heap.size ≤ q) [(tk, .inr (9, tf)), (tx, .inl (cx, 3000, .inl (fun _ => 0))), (so, .inl (cs, 702, .inl (fun _ => 0))), (pl, .inl (cp, 702, .inl (fun _ => 0))), (li, .inl (ci, 702, .inl (fun _ => 0))), (nm, .inr (6, nf)), (us, .inl (cu, 702, .inl (fun _ => 0))), (me, .inl (cm, 702, .inl (fun _ => 0))), (cd, .inr (0, cf)), (sp, .inr (8, sf)), (rd, .inr (7, rf)), (tr, .inl (ct, 2, .inr (.inr (.inr (.inr (fun _ => none)))))), (b0, .inl (d0, 3000, .inl (fun _ => 0))), (b1, .inl (d1, 710, .inl (fun _ => 0))), (b2, .inl (d2, 710, .inl (fun _ => 0))), (b3, .inl (d3, 710, .inl (fun _ => 0))), (b4, .inl (d4, 710, .inl (fun _ => 0))), (b5, .inl (d5, 2, .inl (fun _ => 0))), (o0, .inl (co, 1, .inr (.inl (fun _ => 0)))), (m0, .inr (12, u4))] := hD
  have hK : va_K D vwCl [(cx, .byte), (cs, .int), (cp, .int), (ci, .int), (cu, .int), (cm, .int), (ct, .object "ScheduleHouse$Trial"), (d0, .byte), (d1, .int), (d2, .int), (d3, .int), (d4, .int), (d5, .boolean), (co, .long)] s := hK
  refine lv_istore (lv' := [(6, .int r3), (5, .int 1), (4, .int 0), (3, .ref o0), (2, .ref m0), (1, .ref x0), (0, .ref b)]) hx hb dL_law_473 hl (by decide) rfl (fun ls hl => ?_)
  refine lv_aload_n hx hb dL_law_475 rfl (lv_at hl 4 rfl) ?_
  have hPc := hP.sub (ws' := [(m0, .inr (12, u4))]) [19] rfl
  have hDc := hD.sub (ws' := [(m0, .inr (12, u4))]) [19] (by decide) rfl
  have hKc := hK.sub (tys' := []) [] rfl
  have hFc := va_free (wc := [(m0, .inr (12, u4))]) hD hS hA [19] rfl
  refine va_calli (va_runV (As := []) (rest := []) ⟨hx, hb, hml, hown, hts⟩ (c_m_thrown l D m0 u4 1 H.size ht9) (cwV 0 hts g_lw_2 rfl rfl rfl (by decide +kernel) ⟨Nat.le_of_ble_eq_true rfl, Nat.le_of_ble_eq_true rfl⟩) ⟨st_blind, va_recv hKc hPc (ci := 12) (q0 := 0) rfl rfl, fun U hU hW => ⟨rfl, st_call hU hW hPc hKc hDc hZ hS hFc hE⟩⟩ rfl rfl hl.1 rfl (lv_room (Nat.le_of_ble_eq_true rfl)) dL_law_476 ⟨Nat.le_of_ble_eq_true rfl, Nat.le_of_ble_eq_true rfl⟩) hS (fun q _ h => hFc q h) hFc (fun r5 u6 t H1 locs ht hvm hw hB hz1 hk1 hS => ?_)
  obtain ⟨hP, hD⟩ := va_join (wr := [(tk, .inr (9, tf)), (tx, .inl (cx, 3000, .inl (fun _ => 0))), (so, .inl (cs, 702, .inl (fun _ => 0))), (pl, .inl (cp, 702, .inl (fun _ => 0))), (li, .inl (ci, 702, .inl (fun _ => 0))), (nm, .inr (6, nf)), (us, .inl (cu, 702, .inl (fun _ => 0))), (me, .inl (cm, 702, .inl (fun _ => 0))), (cd, .inr (0, cf)), (sp, .inr (8, sf)), (rd, .inr (7, rf)), (tr, .inl (ct, 2, .inr (.inr (.inr (.inr (fun _ => none)))))), (b0, .inl (d0, 3000, .inl (fun _ => 0))), (b1, .inl (d1, 710, .inl (fun _ => 0))), (b2, .inl (d2, 710, .inl (fun _ => 0))), (b3, .inl (d3, 710, .inl (fun _ => 0))), (b4, .inl (d4, 710, .inl (fun _ => 0))), (b5, .inl (d5, 2, .inl (fun _ => 0))), (o0, .inl (co, 1, .inr (.inl (fun _ => 0))))]) (w1 := []) hP hD [19] [0, 1, 2, 3, 4, 5, 6, 7, 8, 9, 10, 11, 12, 13, 14, 15, 16, 17, 18] rfl rfl (by decide) (by decide) hk1 hFc p_nil d_nil
  have hK := hK.sub (tys' := [(cx, .byte), (cs, .int), (cp, .int), (ci, .int), (cu, .int), (cm, .int), (ct, .object "ScheduleHouse$Trial"), (d0, .byte), (d1, .int), (d2, .int), (d3, .int), (d4, .int), (d5, .boolean), (co, .long)]) [0, 1, 2, 3, 4, 5, 6, 7, 8, 9, 10, 11, 12, 13] rfl
  generalize H1 = H at hP hS ⊢
  have hP : va_P D vwCl [(tk, .inr (9, tf)), (tx, .inl (cx, 3000, .inl (fun _ => 0))), (so, .inl (cs, 702, .inl (fun _ => 0))), (pl, .inl (cp, 702, .inl (fun _ => 0))), (li, .inl (ci, 702, .inl (fun _ => 0))), (nm, .inr (6, nf)), (us, .inl (cu, 702, .inl (fun _ => 0))), (me, .inl (cm, 702, .inl (fun _ => 0))), (cd, .inr (0, cf)), (sp, .inr (8, sf)), (rd, .inr (7, rf)), (tr, .inl (ct, 2, .inr (.inr (.inr (.inr (fun _ => none)))))), (b0, .inl (d0, 3000, .inl (fun _ => 0))), (b1, .inl (d1, 710, .inl (fun _ => 0))), (b2, .inl (d2, 710, .inl (fun _ => 0))), (b3, .inl (d3, 710, .inl (fun _ => 0))), (b4, .inl (d4, 710, .inl (fun _ => 0))), (b5, .inl (d5, 2, .inl (fun _ => 0))), (o0, .inl (co, 1, .inr (.inl (fun _ => 0))))] H := hP
  have hD : va_D (fun q : Nat => s.heap.size ≤ q) [(tk, .inr (9, tf)), (tx, .inl (cx, 3000, .inl (fun _ => 0))), (so, .inl (cs, 702, .inl (fun _ => 0))), (pl, .inl (cp, 702, .inl (fun _ => 0))), (li, .inl (ci, 702, .inl (fun _ => 0))), (nm, .inr (6, nf)), (us, .inl (cu, 702, .inl (fun _ => 0))), (me, .inl (cm, 702, .inl (fun _ => 0))), (cd, .inr (0, cf)), (sp, .inr (8, sf)), (rd, .inr (7, rf)), (tr, .inl (ct, 2, .inr (.inr (.inr (.inr (fun _ => none)))))), (b0, .inl (d0, 3000, .inl (fun _ => 0))), (b1, .inl (d1, 710, .inl (fun _ => 0))), (b2, .inl (d2, 710, .inl (fun _ => 0))), (b3, .inl (d3, 710, .inl (fun _ => 0))), (b4, .inl (d4, 710, .inl (fun _ => 0))), (b5, .inl (d5, 2, .inl (fun _ => 0))), (o0, .inl (co, 1, .inr (.inl (fun _ => 0))))] := hD
  have hK : va_K D vwCl [(cx, .byte), (cs, .int), (cp, .int), (ci, .int), (cu, .int), (cm, .int), (ct, .object "ScheduleHouse$Trial"), (d0, .byte), (d1, .int), (d2, .int), (d3, .int), (d4, .int), (d5, .boolean), (co, .long)] s := hK
  subst hw
  refine lv_iload hx hb dL_law_479 (lv_at hl 1 rfl) ?_
  refine lv_icmp_eq (tgt := 486) hx hb dL_law_481 (by decide) (fun _ => ?_) (fun c9 => absurd rfl c9)
  refine lv_iload hx hb dL_law_486 (lv_at hl 1 rfl) ?_
  refine lv_if_ne (tgt := 503) hx hb dL_law_488 (by decide) (fun _ => ?_) (fun c9 => False.elim (by revert c9; decide))
  refine lv_goto (tgt := 1894) hx hb dL_law_503 (by decide) ?_
  refine W.widen (k := 2000) (n := 2000000) (Nat.le_of_ble_eq_true rfl) (Nat.le_of_ble_eq_true rfl) ?_
  exact law_tail l C0 hS (lv_sub hl [2, 6] rfl)
set_option maxHeartbeats 400000 in
set_option maxRecDepth 100000 in
theorem law_7 {p : Program} {e : Env} {s : State} {m : MethodId} {below : List Frame} {meth : Method} {c : Code} (l : Launch) (hlt : l.stackTraces = false) {b : Nat} {xs : Nat → Int32} (C0 : lw_At p s m meth c b 4 xs) (hE : ev s) (hZ : ev_Z (fun q : Nat => s.heap.size ≤ q) s s.heap) (D : va_G) (x0 tk tx so pl li nm us me cd sp rd tr m0 b0 b1 b2 b3 b4 b5 o0 : Nat) (cx cs cp ci cu cm ct d0 d1 d2 d3 d4 d5 co : ClassId) (xf tf nf cf sf rf mf : List Value) {H : Heap} {locs : List Loc} {ls : Array Slot} (hin : law_in D s H locs x0 tk tx so pl li nm us me cd sp rd tr m0 b0 b1 b2 b3 b4 b5 o0 cx cs cp ci cu cm ct d0 d1 d2 d3 d4 d5 co xf tf nf cf sf rf mf) (hl : lv_has ls 7 [(4, .int 0), (3, .ref o0), (2, .ref m0), (1, .ref x0), (0, .ref b)]) : W p l e room_1 s m #[Value.ref b] below meth c H locs 1000 1000000 (lw_Z below #[Value.ref b] s) (F0 m 506 ls []) := by
  obtain ⟨hx, hb, hr, hml, hown, hts, hX, hbl, hlocks, hgv⟩ := id C0
  have hA : ∀ q : Nat, s.heap.size ≤ q → (fun q : Nat => s.heap.size ≤ q) q := fun _ h => h
  have hbA : ¬ (fun q : Nat => s.heap.size ≤ q) b := Nat.not_le.mpr hbl
  obtain ⟨hok, hP, hD, hK, hS⟩ := hin
  obtain ⟨xf_l, xf_0, xf_1, xf_2, xf_3, xf_6, xf_9, xf_10, xf_11, xf_12, tf_l, tf_0, tf_1, tf_2, tf_3, tf_4, nf_l, nf_0, nf_1, nf_2, nf_11, cf_l, cf_0, sf_l, rf_l, rf_0, rf_1, rf_2, rf_3, mf_l, mf_z, mf_p, mf_n, mf_r0, mf_r1, mf_r2, mf_r3, mf_r4, mf_r5⟩ := hok
  have hown : s.vm.findClass RL = some m.cls := hown
  refine lv_aload_n hx hb dL_law_506 rfl (lv_at hl 3 rfl) ?_
  refine lv_aload_n hx hb dL_law_507 rfl (lv_at hl 4 rfl) ?_
  refine lv_iload hx hb dL_law_508 (lv_at hl 0 rfl) ?_
  refine lv_iconst (v := 1) hx hb dL_law_510 (by decide +kernel) ?_
  refine lv_iadd hx hb dL_law_511 ?_
  rw [show (0 + 1 : Int32) = 1 by decide]
  refine va_sld hx hb hX hbl hbA hS (i := 1) (by unfold vp_in; decide) dL_law_512 ?_
  refine lv_aload_n hx hb dL_law_513 rfl (lv_at hl 4 rfl) ?_
  refine lv_iload hx hb dL_law_514 (lv_at hl 0 rfl) ?_
  refine lv_iconst (v := 2) hx hb dL_law_516 (by decide +kernel) ?_
  refine lv_iadd hx hb dL_law_517 ?_
  rw [show (0 + 2 : Int32) = 2 by decide]
  refine va_sld hx hb hX hbl hbA hS (i := 2) (by unfold vp_in; decide) dL_law_518 ?_
  refine lv_aload_n hx hb dL_law_519 rfl (lv_at hl 1 rfl) ?_
  have hPc := hP.sub (ws' := [(x0, .inr (11, xf))]) [0] rfl
  have hDc := hD.sub (ws' := [(x0, .inr (11, xf))]) [0] (by decide) rfl
  have hKc := hK.sub (tys' := []) [] rfl
  have hFc := va_free (wc := [(x0, .inr (11, xf))]) hD hS hA [0] rfl
  refine va_calli (vx_runSW (As := [.ref x0, .int (xs (1 : Int32).toNatClampNeg), .int (xs (2 : Int32).toNatClampNeg), .ref o0]) (rest := []) ⟨hx, hb, hml, hown, hts⟩ (c_L_choice l D x0 o0 xf (xs (1 : Int32).toNatClampNeg) (xs (2 : Int32).toNatClampNeg) H.size hlt xf_10) (vx_cwSW 4 hts g_lw_15 rfl rfl rfl (by decide +kernel) ⟨Nat.le_of_ble_eq_true rfl, Nat.le_of_ble_eq_true rfl⟩) ⟨st_blind, fun U hU hW => ⟨rfl, st_call hU hW hPc hKc hDc hZ hS hFc hE⟩⟩ rfl rfl hl.1 rfl (lv_room (Nat.le_of_ble_eq_true rfl)) dL_law_520 ⟨Nat.le_of_ble_eq_true rfl, Nat.le_of_ble_eq_true rfl⟩) hS (fun q _ h => hFc q h) hFc (fun r1 u2 t H1 locs ht hvm hw hB hz1 hk1 hS => ?_)
  obtain ⟨hP, hD⟩ := va_join (wr := [(tk, .inr (9, tf)), (tx, .inl (cx, 3000, .inl (fun _ => 0))), (so, .inl (cs, 702, .inl (fun _ => 0))), (pl, .inl (cp, 702, .inl (fun _ => 0))), (li, .inl (ci, 702, .inl (fun _ => 0))), (nm, .inr (6, nf)), (us, .inl (cu, 702, .inl (fun _ => 0))), (me, .inl (cm, 702, .inl (fun _ => 0))), (cd, .inr (0, cf)), (sp, .inr (8, sf)), (rd, .inr (7, rf)), (tr, .inl (ct, 2, .inr (.inr (.inr (.inr (fun _ => none)))))), (m0, .inr (12, mf)), (b0, .inl (d0, 3000, .inl (fun _ => 0))), (b1, .inl (d1, 710, .inl (fun _ => 0))), (b2, .inl (d2, 710, .inl (fun _ => 0))), (b3, .inl (d3, 710, .inl (fun _ => 0))), (b4, .inl (d4, 710, .inl (fun _ => 0))), (b5, .inl (d5, 2, .inl (fun _ => 0))), (o0, .inl (co, 1, .inr (.inl (fun _ => 0))))]) (w1 := []) hP hD [0] [1, 2, 3, 4, 5, 6, 7, 8, 9, 10, 11, 12, 13, 14, 15, 16, 17, 18, 19, 20] rfl rfl (by decide) (by decide) hk1 hFc p_nil d_nil
  have hK := hK.sub (tys' := [(cx, .byte), (cs, .int), (cp, .int), (ci, .int), (cu, .int), (cm, .int), (ct, .object "ScheduleHouse$Trial"), (d0, .byte), (d1, .int), (d2, .int), (d3, .int), (d4, .int), (d5, .boolean), (co, .long)]) [0, 1, 2, 3, 4, 5, 6, 7, 8, 9, 10, 11, 12, 13] rfl
  generalize H1 = H at hP hS ⊢
  have hP : va_P D vwCl [(tk, .inr (9, tf)), (tx, .inl (cx, 3000, .inl (fun _ => 0))), (so, .inl (cs, 702, .inl (fun _ => 0))), (pl, .inl (cp, 702, .inl (fun _ => 0))), (li, .inl (ci, 702, .inl (fun _ => 0))), (nm, .inr (6, nf)), (us, .inl (cu, 702, .inl (fun _ => 0))), (me, .inl (cm, 702, .inl (fun _ => 0))), (cd, .inr (0, cf)), (sp, .inr (8, sf)), (rd, .inr (7, rf)), (tr, .inl (ct, 2, .inr (.inr (.inr (.inr (fun _ => none)))))), (m0, .inr (12, mf)), (b0, .inl (d0, 3000, .inl (fun _ => 0))), (b1, .inl (d1, 710, .inl (fun _ => 0))), (b2, .inl (d2, 710, .inl (fun _ => 0))), (b3, .inl (d3, 710, .inl (fun _ => 0))), (b4, .inl (d4, 710, .inl (fun _ => 0))), (b5, .inl (d5, 2, .inl (fun _ => 0))), (o0, .inl (co, 1, .inr (.inl (fun _ => 0))))] H := hP
  have hD : va_D (fun q : Nat => s.heap.size ≤ q) [(tk, .inr (9, tf)), (tx, .inl (cx, 3000, .inl (fun _ => 0))), (so, .inl (cs, 702, .inl (fun _ => 0))), (pl, .inl (cp, 702, .inl (fun _ => 0))), (li, .inl (ci, 702, .inl (fun _ => 0))), (nm, .inr (6, nf)), (us, .inl (cu, 702, .inl (fun _ => 0))), (me, .inl (cm, 702, .inl (fun _ => 0))), (cd, .inr (0, cf)), (sp, .inr (8, sf)), (rd, .inr (7, rf)), (tr, .inl (ct, 2, .inr (.inr (.inr (.inr (fun _ => none)))))), (m0, .inr (12, mf)), (b0, .inl (d0, 3000, .inl (fun _ => 0))), (b1, .inl (d1, 710, .inl (fun _ => 0))), (b2, .inl (d2, 710, .inl (fun _ => 0))), (b3, .inl (d3, 710, .inl (fun _ => 0))), (b4, .inl (d4, 710, .inl (fun _ => 0))), (b5, .inl (d5, 2, .inl (fun _ => 0))), (o0, .inl (co, 1, .inr (.inl (fun _ => 0))))] := hD
  have hK : va_K D vwCl [(cx, .byte), (cs, .int), (cp, .int), (ci, .int), (cu, .int), (cm, .int), (ct, .object "ScheduleHouse$Trial"), (d0, .byte), (d1, .int), (d2, .int), (d3, .int), (d4, .int), (d5, .boolean), (co, .long)] s := hK
  subst hw
  refine lv_istore (lv' := [(5, .int 1), (4, .int 0), (3, .ref o0), (2, .ref m0), (1, .ref x0), (0, .ref b)]) hx hb dL_law_523 hl (by decide) rfl (fun ls hl => ?_)
  refine lv_aload_n hx hb dL_law_525 rfl (lv_at hl 3 rfl) ?_
  refine lv_aload_n hx hb dL_law_526 rfl (lv_at hl 5 rfl) ?_
  refine lv_iload hx hb dL_law_527 (lv_at hl 1 rfl) ?_
  refine lv_iconst (v := 1) hx hb dL_law_529 (by decide +kernel) ?_
  refine lv_iadd hx hb dL_law_530 ?_
  rw [show (0 + 1 : Int32) = 1 by decide]
  refine va_sld hx hb hX hbl hbA hS (i := 1) (by unfold vp_in; decide) dL_law_531 ?_
  refine lv_aload_n hx hb dL_law_532 rfl (lv_at hl 5 rfl) ?_
  refine lv_iload hx hb dL_law_533 (lv_at hl 1 rfl) ?_
  refine lv_iconst (v := 2) hx hb dL_law_535 (by decide +kernel) ?_
  refine lv_iadd hx hb dL_law_536 ?_
  rw [show (0 + 2 : Int32) = 2 by decide]
  refine va_sld hx hb hX hbl hbA hS (i := 2) (by unfold vp_in; decide) dL_law_537 ?_
  have hPc := hP.sub (ws' := [(m0, .inr (12, mf))]) [12] rfl
  have hDc := hD.sub (ws' := [(m0, .inr (12, mf))]) [12] (by decide) rfl
  have hKc := hK.sub (tys' := []) [] rfl
  have hFc := va_free (wc := [(m0, .inr (12, mf))]) hD hS hA [12] rfl
  refine va_calli (va_runV (As := [.int (xs (1 : Int32).toNatClampNeg), .int (xs (2 : Int32).toNatClampNeg)]) (rest := []) ⟨hx, hb, hml, hown, hts⟩ (c_m_choice l D m0 mf (xs (1 : Int32).toNatClampNeg) (xs (2 : Int32).toNatClampNeg) H.size mf_l (mf_z 0 (by decide)) (mf_z 67 (by decide))) (cwV 2 hts g_lw_16 rfl rfl rfl (by decide +kernel) ⟨Nat.le_of_ble_eq_true rfl, Nat.le_of_ble_eq_true rfl⟩) ⟨st_blind, va_recv hKc hPc (ci := 12) (q0 := 0) rfl rfl, fun U hU hW => ⟨rfl, st_call hU hW hPc hKc hDc hZ hS hFc hE⟩⟩ rfl rfl hl.1 rfl (lv_room (Nat.le_of_ble_eq_true rfl)) dL_law_538 ⟨Nat.le_of_ble_eq_true rfl, Nat.le_of_ble_eq_true rfl⟩) hS (fun q _ h => hFc q h) hFc (fun r3 u4 t H1 locs ht hvm hw hB hz1 hk1 hS => ?_)
  have ht9 := hw
  obtain ⟨hP1, hK1, hD1⟩ := hB
  rw [ht] at hP1
  have hK1 := va_K.moved hvm.symm hK1
  obtain ⟨hP, hD⟩ := va_join (wr := [(tk, .inr (9, tf)), (tx, .inl (cx, 3000, .inl (fun _ => 0))), (so, .inl (cs, 702, .inl (fun _ => 0))), (pl, .inl (cp, 702, .inl (fun _ => 0))), (li, .inl (ci, 702, .inl (fun _ => 0))), (nm, .inr (6, nf)), (us, .inl (cu, 702, .inl (fun _ => 0))), (me, .inl (cm, 702, .inl (fun _ => 0))), (cd, .inr (0, cf)), (sp, .inr (8, sf)), (rd, .inr (7, rf)), (tr, .inl (ct, 2, .inr (.inr (.inr (.inr (fun _ => none)))))), (b0, .inl (d0, 3000, .inl (fun _ => 0))), (b1, .inl (d1, 710, .inl (fun _ => 0))), (b2, .inl (d2, 710, .inl (fun _ => 0))), (b3, .inl (d3, 710, .inl (fun _ => 0))), (b4, .inl (d4, 710, .inl (fun _ => 0))), (b5, .inl (d5, 2, .inl (fun _ => 0))), (o0, .inl (co, 1, .inr (.inl (fun _ => 0))))]) (w1 := [(m0, .inr (12, u4))]) hP hD [12] [0, 1, 2, 3, 4, 5, 6, 7, 8, 9, 10, 11, 13, 14, 15, 16, 17, 18, 19] rfl rfl (by decide) (by decide) hk1 hFc hP1 hD1
  have hK := (hK.sub (tys' := [(cx, .byte), (cs, .int), (cp, .int), (ci, .int), (cu, .int), (cm, .int), (ct, .object "ScheduleHouse$Trial"), (d0, .byte), (d1, .int), (d2, .int), (d3, .int), (d4, .int), (d5, .boolean), (co, .long)]) [0, 1, 2, 3, 4, 5, 6, 7, 8, 9, 10, 11, 12, 13] rfl).app hK1
  generalize H1 = H at hP hS ⊢
  have hP : va_P D vwCl [(tk, .inr (9, tf)), (tx, .inl (cx, 3000, .inl (fun _ => 0))), (so, .inl (cs, 702, .inl (fun _ => 0))), (pl, .inl (cp, 702, .inl (fun _ => 0))), (li, .inl (ci, 702, .inl (fun _ => 0))), (nm, .inr (6, nf)), (us, .inl (cu, 702, .inl (fun _ => 0))), (me, .inl (cm, 702, .inl (fun _ => 0))), (cd, .inr (0, cf)), (sp, .inr (8, sf)), (rd, .inr (7, rf)), (tr, .inl (ct, 2, .inr (.inr (.inr (.inr (fun _ => none)))))), (b0, .inl (d0, 3000, .inl (fun _ => 0))), (b1, .inl (d1, 710, .inl (fun _ => 0))), (b2, .inl (d2, 710, .inl (fun _ => 0))), (b3, .inl (d3, 710, .inl (fun _ => 0))), (b4, .inl (d4, 710, .inl (fun _ => 0))), (b5, .inl (d5, 2, .inl (fun _ => 0))), (o0, .inl (co, 1, .inr (.inl (fun _ => 0)))), (m0, .inr (12, u4))] H := hP
  have hD : va_D (fun q : Nat => s.heap.size ≤ q) [(tk, .inr (9, tf)), (tx, .inl (cx, 3000, .inl (fun _ => 0))), (so, .inl (cs, 702, .inl (fun _ => 0))), (pl, .inl (cp, 702, .inl (fun _ => 0))), (li, .inl (ci, 702, .inl (fun _ => 0))), (nm, .inr (6, nf)), (us, .inl (cu, 702, .inl (fun _ => 0))), (me, .inl (cm, 702, .inl (fun _ => 0))), (cd, .inr (0, cf)), (sp, .inr (8, sf)), (rd, .inr (7, rf)), (tr, .inl (ct, 2, .inr (.inr (.inr (.inr (fun _ => none)))))), (b0, .inl (d0, 3000, .inl (fun _ => 0))), (b1, .inl (d1, 710, .inl (fun _ => 0))), (b2, .inl (d2, 710, .inl (fun _ => 0))), (b3, .inl (d3, 710, .inl (fun _ => 0))), (b4, .inl (d4, 710, .inl (fun _ => 0))), (b5, .inl (d5, 2, .inl (fun _ => 0))), (o0, .inl (co, 1, .inr (.inl (fun _ => 0)))), (m0, .inr (12, u4))] := hD
  have hK : va_K D vwCl [(cx, .byte), (cs, .int), (cp, .int), (ci, .int), (cu, .int), (cm, .int), (ct, .object "ScheduleHouse$Trial"), (d0, .byte), (d1, .int), (d2, .int), (d3, .int), (d4, .int), (d5, .boolean), (co, .long)] s := hK
  refine lv_istore (lv' := [(6, .int r3), (5, .int 1), (4, .int 0), (3, .ref o0), (2, .ref m0), (1, .ref x0), (0, .ref b)]) hx hb dL_law_541 hl (by decide) rfl (fun ls hl => ?_)
  refine lv_aload_n hx hb dL_law_543 rfl (lv_at hl 4 rfl) ?_
  have hPc := hP.sub (ws' := [(m0, .inr (12, u4))]) [19] rfl
  have hDc := hD.sub (ws' := [(m0, .inr (12, u4))]) [19] (by decide) rfl
  have hKc := hK.sub (tys' := []) [] rfl
  have hFc := va_free (wc := [(m0, .inr (12, u4))]) hD hS hA [19] rfl
  refine va_calli (va_runV (As := []) (rest := []) ⟨hx, hb, hml, hown, hts⟩ (c_m_thrown l D m0 u4 1 H.size ht9) (cwV 0 hts g_lw_2 rfl rfl rfl (by decide +kernel) ⟨Nat.le_of_ble_eq_true rfl, Nat.le_of_ble_eq_true rfl⟩) ⟨st_blind, va_recv hKc hPc (ci := 12) (q0 := 0) rfl rfl, fun U hU hW => ⟨rfl, st_call hU hW hPc hKc hDc hZ hS hFc hE⟩⟩ rfl rfl hl.1 rfl (lv_room (Nat.le_of_ble_eq_true rfl)) dL_law_544 ⟨Nat.le_of_ble_eq_true rfl, Nat.le_of_ble_eq_true rfl⟩) hS (fun q _ h => hFc q h) hFc (fun r5 u6 t H1 locs ht hvm hw hB hz1 hk1 hS => ?_)
  obtain ⟨hP, hD⟩ := va_join (wr := [(tk, .inr (9, tf)), (tx, .inl (cx, 3000, .inl (fun _ => 0))), (so, .inl (cs, 702, .inl (fun _ => 0))), (pl, .inl (cp, 702, .inl (fun _ => 0))), (li, .inl (ci, 702, .inl (fun _ => 0))), (nm, .inr (6, nf)), (us, .inl (cu, 702, .inl (fun _ => 0))), (me, .inl (cm, 702, .inl (fun _ => 0))), (cd, .inr (0, cf)), (sp, .inr (8, sf)), (rd, .inr (7, rf)), (tr, .inl (ct, 2, .inr (.inr (.inr (.inr (fun _ => none)))))), (b0, .inl (d0, 3000, .inl (fun _ => 0))), (b1, .inl (d1, 710, .inl (fun _ => 0))), (b2, .inl (d2, 710, .inl (fun _ => 0))), (b3, .inl (d3, 710, .inl (fun _ => 0))), (b4, .inl (d4, 710, .inl (fun _ => 0))), (b5, .inl (d5, 2, .inl (fun _ => 0))), (o0, .inl (co, 1, .inr (.inl (fun _ => 0))))]) (w1 := []) hP hD [19] [0, 1, 2, 3, 4, 5, 6, 7, 8, 9, 10, 11, 12, 13, 14, 15, 16, 17, 18] rfl rfl (by decide) (by decide) hk1 hFc p_nil d_nil
  have hK := hK.sub (tys' := [(cx, .byte), (cs, .int), (cp, .int), (ci, .int), (cu, .int), (cm, .int), (ct, .object "ScheduleHouse$Trial"), (d0, .byte), (d1, .int), (d2, .int), (d3, .int), (d4, .int), (d5, .boolean), (co, .long)]) [0, 1, 2, 3, 4, 5, 6, 7, 8, 9, 10, 11, 12, 13] rfl
  generalize H1 = H at hP hS ⊢
  have hP : va_P D vwCl [(tk, .inr (9, tf)), (tx, .inl (cx, 3000, .inl (fun _ => 0))), (so, .inl (cs, 702, .inl (fun _ => 0))), (pl, .inl (cp, 702, .inl (fun _ => 0))), (li, .inl (ci, 702, .inl (fun _ => 0))), (nm, .inr (6, nf)), (us, .inl (cu, 702, .inl (fun _ => 0))), (me, .inl (cm, 702, .inl (fun _ => 0))), (cd, .inr (0, cf)), (sp, .inr (8, sf)), (rd, .inr (7, rf)), (tr, .inl (ct, 2, .inr (.inr (.inr (.inr (fun _ => none)))))), (b0, .inl (d0, 3000, .inl (fun _ => 0))), (b1, .inl (d1, 710, .inl (fun _ => 0))), (b2, .inl (d2, 710, .inl (fun _ => 0))), (b3, .inl (d3, 710, .inl (fun _ => 0))), (b4, .inl (d4, 710, .inl (fun _ => 0))), (b5, .inl (d5, 2, .inl (fun _ => 0))), (o0, .inl (co, 1, .inr (.inl (fun _ => 0))))] H := hP
  have hD : va_D (fun q : Nat => s.heap.size ≤ q) [(tk, .inr (9, tf)), (tx, .inl (cx, 3000, .inl (fun _ => 0))), (so, .inl (cs, 702, .inl (fun _ => 0))), (pl, .inl (cp, 702, .inl (fun _ => 0))), (li, .inl (ci, 702, .inl (fun _ => 0))), (nm, .inr (6, nf)), (us, .inl (cu, 702, .inl (fun _ => 0))), (me, .inl (cm, 702, .inl (fun _ => 0))), (cd, .inr (0, cf)), (sp, .inr (8, sf)), (rd, .inr (7, rf)), (tr, .inl (ct, 2, .inr (.inr (.inr (.inr (fun _ => none)))))), (b0, .inl (d0, 3000, .inl (fun _ => 0))), (b1, .inl (d1, 710, .inl (fun _ => 0))), (b2, .inl (d2, 710, .inl (fun _ => 0))), (b3, .inl (d3, 710, .inl (fun _ => 0))), (b4, .inl (d4, 710, .inl (fun _ => 0))), (b5, .inl (d5, 2, .inl (fun _ => 0))), (o0, .inl (co, 1, .inr (.inl (fun _ => 0))))] := hD
  have hK : va_K D vwCl [(cx, .byte), (cs, .int), (cp, .int), (ci, .int), (cu, .int), (cm, .int), (ct, .object "ScheduleHouse$Trial"), (d0, .byte), (d1, .int), (d2, .int), (d3, .int), (d4, .int), (d5, .boolean), (co, .long)] s := hK
  subst hw
  refine lv_iload hx hb dL_law_547 (lv_at hl 1 rfl) ?_
  refine lv_icmp_eq (tgt := 554) hx hb dL_law_549 (by decide) (fun _ => ?_) (fun c9 => absurd rfl c9)
  refine lv_iload hx hb dL_law_554 (lv_at hl 1 rfl) ?_
  refine lv_if_ne (tgt := 571) hx hb dL_law_556 (by decide) (fun _ => ?_) (fun c9 => False.elim (by revert c9; decide))
  refine lv_goto (tgt := 1894) hx hb dL_law_571 (by decide) ?_
  refine W.widen (k := 2000) (n := 2000000) (Nat.le_of_ble_eq_true rfl) (Nat.le_of_ble_eq_true rfl) ?_
  exact law_tail l C0 hS (lv_sub hl [2, 6] rfl)
set_option maxHeartbeats 400000 in
set_option maxRecDepth 100000 in
theorem law_8 {p : Program} {e : Env} {s : State} {m : MethodId} {below : List Frame} {meth : Method} {c : Code} (l : Launch) (hlt : l.stackTraces = false) {b : Nat} {xs : Nat → Int32} (C0 : lw_At p s m meth c b 4 xs) (hE : ev s) (hZ : ev_Z (fun q : Nat => s.heap.size ≤ q) s s.heap) (D : va_G) (x0 tk tx so pl li nm us me cd sp rd tr m0 b0 b1 b2 b3 b4 b5 o0 : Nat) (cx cs cp ci cu cm ct d0 d1 d2 d3 d4 d5 co : ClassId) (xf tf nf cf sf rf mf : List Value) {H : Heap} {locs : List Loc} {ls : Array Slot} (hin : law_in D s H locs x0 tk tx so pl li nm us me cd sp rd tr m0 b0 b1 b2 b3 b4 b5 o0 cx cs cp ci cu cm ct d0 d1 d2 d3 d4 d5 co xf tf nf cf sf rf mf) (hl : lv_has ls 7 [(4, .int 0), (3, .ref o0), (2, .ref m0), (1, .ref x0), (0, .ref b)]) : W p l e room_1 s m #[Value.ref b] below meth c H locs 1000 1000000 (lw_Z below #[Value.ref b] s) (F0 m 574 ls []) := by
  obtain ⟨hx, hb, hr, hml, hown, hts, hX, hbl, hlocks, hgv⟩ := id C0
  have hA : ∀ q : Nat, s.heap.size ≤ q → (fun q : Nat => s.heap.size ≤ q) q := fun _ h => h
  have hbA : ¬ (fun q : Nat => s.heap.size ≤ q) b := Nat.not_le.mpr hbl
  obtain ⟨hok, hP, hD, hK, hS⟩ := hin
  obtain ⟨xf_l, xf_0, xf_1, xf_2, xf_3, xf_6, xf_9, xf_10, xf_11, xf_12, tf_l, tf_0, tf_1, tf_2, tf_3, tf_4, nf_l, nf_0, nf_1, nf_2, nf_11, cf_l, cf_0, sf_l, rf_l, rf_0, rf_1, rf_2, rf_3, mf_l, mf_z, mf_p, mf_n, mf_r0, mf_r1, mf_r2, mf_r3, mf_r4, mf_r5⟩ := hok
  have hown : s.vm.findClass RL = some m.cls := hown
  refine lv_aload_n hx hb dL_law_574 rfl (lv_at hl 3 rfl) ?_
  refine lv_aload_n hx hb dL_law_575 rfl (lv_at hl 4 rfl) ?_
  refine lv_iload hx hb dL_law_576 (lv_at hl 0 rfl) ?_
  refine lv_iconst (v := 1) hx hb dL_law_578 (by decide +kernel) ?_
  refine lv_iadd hx hb dL_law_579 ?_
  rw [show (0 + 1 : Int32) = 1 by decide]
  refine va_sld hx hb hX hbl hbA hS (i := 1) (by unfold vp_in; decide) dL_law_580 ?_
  refine lv_aload_n hx hb dL_law_581 rfl (lv_at hl 1 rfl) ?_
  have hPc := hP.sub (ws' := [(x0, .inr (11, xf))]) [0] rfl
  have hDc := hD.sub (ws' := [(x0, .inr (11, xf))]) [0] (by decide) rfl
  have hKc := hK.sub (tys' := []) [] rfl
  have hFc := va_free (wc := [(x0, .inr (11, xf))]) hD hS hA [0] rfl
  refine va_calli (vx_runSW (As := [.ref x0, .int (xs (1 : Int32).toNatClampNeg), .ref o0]) (rest := []) ⟨hx, hb, hml, hown, hts⟩ (c_L_go l D x0 o0 xf (xs (1 : Int32).toNatClampNeg) H.size hlt xf_10) (vx_cwSW 3 hts g_lw_17 rfl rfl rfl (by decide +kernel) ⟨Nat.le_of_ble_eq_true rfl, Nat.le_of_ble_eq_true rfl⟩) ⟨st_blind, fun U hU hW => ⟨rfl, st_call hU hW hPc hKc hDc hZ hS hFc hE⟩⟩ rfl rfl hl.1 rfl (lv_room (Nat.le_of_ble_eq_true rfl)) dL_law_582 ⟨Nat.le_of_ble_eq_true rfl, Nat.le_of_ble_eq_true rfl⟩) hS (fun q _ h => hFc q h) hFc (fun r1 u2 t H1 locs ht hvm hw hB hz1 hk1 hS => ?_)
  obtain ⟨hP, hD⟩ := va_join (wr := [(tk, .inr (9, tf)), (tx, .inl (cx, 3000, .inl (fun _ => 0))), (so, .inl (cs, 702, .inl (fun _ => 0))), (pl, .inl (cp, 702, .inl (fun _ => 0))), (li, .inl (ci, 702, .inl (fun _ => 0))), (nm, .inr (6, nf)), (us, .inl (cu, 702, .inl (fun _ => 0))), (me, .inl (cm, 702, .inl (fun _ => 0))), (cd, .inr (0, cf)), (sp, .inr (8, sf)), (rd, .inr (7, rf)), (tr, .inl (ct, 2, .inr (.inr (.inr (.inr (fun _ => none)))))), (m0, .inr (12, mf)), (b0, .inl (d0, 3000, .inl (fun _ => 0))), (b1, .inl (d1, 710, .inl (fun _ => 0))), (b2, .inl (d2, 710, .inl (fun _ => 0))), (b3, .inl (d3, 710, .inl (fun _ => 0))), (b4, .inl (d4, 710, .inl (fun _ => 0))), (b5, .inl (d5, 2, .inl (fun _ => 0))), (o0, .inl (co, 1, .inr (.inl (fun _ => 0))))]) (w1 := []) hP hD [0] [1, 2, 3, 4, 5, 6, 7, 8, 9, 10, 11, 12, 13, 14, 15, 16, 17, 18, 19, 20] rfl rfl (by decide) (by decide) hk1 hFc p_nil d_nil
  have hK := hK.sub (tys' := [(cx, .byte), (cs, .int), (cp, .int), (ci, .int), (cu, .int), (cm, .int), (ct, .object "ScheduleHouse$Trial"), (d0, .byte), (d1, .int), (d2, .int), (d3, .int), (d4, .int), (d5, .boolean), (co, .long)]) [0, 1, 2, 3, 4, 5, 6, 7, 8, 9, 10, 11, 12, 13] rfl
  generalize H1 = H at hP hS ⊢
  have hP : va_P D vwCl [(tk, .inr (9, tf)), (tx, .inl (cx, 3000, .inl (fun _ => 0))), (so, .inl (cs, 702, .inl (fun _ => 0))), (pl, .inl (cp, 702, .inl (fun _ => 0))), (li, .inl (ci, 702, .inl (fun _ => 0))), (nm, .inr (6, nf)), (us, .inl (cu, 702, .inl (fun _ => 0))), (me, .inl (cm, 702, .inl (fun _ => 0))), (cd, .inr (0, cf)), (sp, .inr (8, sf)), (rd, .inr (7, rf)), (tr, .inl (ct, 2, .inr (.inr (.inr (.inr (fun _ => none)))))), (m0, .inr (12, mf)), (b0, .inl (d0, 3000, .inl (fun _ => 0))), (b1, .inl (d1, 710, .inl (fun _ => 0))), (b2, .inl (d2, 710, .inl (fun _ => 0))), (b3, .inl (d3, 710, .inl (fun _ => 0))), (b4, .inl (d4, 710, .inl (fun _ => 0))), (b5, .inl (d5, 2, .inl (fun _ => 0))), (o0, .inl (co, 1, .inr (.inl (fun _ => 0))))] H := hP
  have hD : va_D (fun q : Nat => s.heap.size ≤ q) [(tk, .inr (9, tf)), (tx, .inl (cx, 3000, .inl (fun _ => 0))), (so, .inl (cs, 702, .inl (fun _ => 0))), (pl, .inl (cp, 702, .inl (fun _ => 0))), (li, .inl (ci, 702, .inl (fun _ => 0))), (nm, .inr (6, nf)), (us, .inl (cu, 702, .inl (fun _ => 0))), (me, .inl (cm, 702, .inl (fun _ => 0))), (cd, .inr (0, cf)), (sp, .inr (8, sf)), (rd, .inr (7, rf)), (tr, .inl (ct, 2, .inr (.inr (.inr (.inr (fun _ => none)))))), (m0, .inr (12, mf)), (b0, .inl (d0, 3000, .inl (fun _ => 0))), (b1, .inl (d1, 710, .inl (fun _ => 0))), (b2, .inl (d2, 710, .inl (fun _ => 0))), (b3, .inl (d3, 710, .inl (fun _ => 0))), (b4, .inl (d4, 710, .inl (fun _ => 0))), (b5, .inl (d5, 2, .inl (fun _ => 0))), (o0, .inl (co, 1, .inr (.inl (fun _ => 0))))] := hD
  have hK : va_K D vwCl [(cx, .byte), (cs, .int), (cp, .int), (ci, .int), (cu, .int), (cm, .int), (ct, .object "ScheduleHouse$Trial"), (d0, .byte), (d1, .int), (d2, .int), (d3, .int), (d4, .int), (d5, .boolean), (co, .long)] s := hK
  subst hw
  refine lv_istore (lv' := [(5, .int 1), (4, .int 0), (3, .ref o0), (2, .ref m0), (1, .ref x0), (0, .ref b)]) hx hb dL_law_585 hl (by decide) rfl (fun ls hl => ?_)
  refine lv_aload_n hx hb dL_law_587 rfl (lv_at hl 3 rfl) ?_
  refine lv_aload_n hx hb dL_law_588 rfl (lv_at hl 5 rfl) ?_
  refine lv_iload hx hb dL_law_589 (lv_at hl 1 rfl) ?_
  refine lv_iconst (v := 1) hx hb dL_law_591 (by decide +kernel) ?_
  refine lv_iadd hx hb dL_law_592 ?_
  rw [show (0 + 1 : Int32) = 1 by decide]
  refine va_sld hx hb hX hbl hbA hS (i := 1) (by unfold vp_in; decide) dL_law_593 ?_
  have hPc := hP.sub (ws' := [(m0, .inr (12, mf))]) [12] rfl
  have hDc := hD.sub (ws' := [(m0, .inr (12, mf))]) [12] (by decide) rfl
  have hKc := hK.sub (tys' := []) [] rfl
  have hFc := va_free (wc := [(m0, .inr (12, mf))]) hD hS hA [12] rfl
  refine va_calli (va_runV (As := [.int (xs (1 : Int32).toNatClampNeg)]) (rest := []) ⟨hx, hb, hml, hown, hts⟩ (c_m_go l D m0 mf (xs (1 : Int32).toNatClampNeg) H.size mf_l (mf_z 0 (by decide)) (mf_z 67 (by decide))) (cwV 1 hts g_lw_18 rfl rfl rfl (by decide +kernel) ⟨Nat.le_of_ble_eq_true rfl, Nat.le_of_ble_eq_true rfl⟩) ⟨st_blind, va_recv hKc hPc (ci := 12) (q0 := 0) rfl rfl, fun U hU hW => ⟨rfl, st_call hU hW hPc hKc hDc hZ hS hFc hE⟩⟩ rfl rfl hl.1 rfl (lv_room (Nat.le_of_ble_eq_true rfl)) dL_law_594 ⟨Nat.le_of_ble_eq_true rfl, Nat.le_of_ble_eq_true rfl⟩) hS (fun q _ h => hFc q h) hFc (fun r3 u4 t H1 locs ht hvm hw hB hz1 hk1 hS => ?_)
  have ht9 := hw
  obtain ⟨hP1, hK1, hD1⟩ := hB
  rw [ht] at hP1
  have hK1 := va_K.moved hvm.symm hK1
  obtain ⟨hP, hD⟩ := va_join (wr := [(tk, .inr (9, tf)), (tx, .inl (cx, 3000, .inl (fun _ => 0))), (so, .inl (cs, 702, .inl (fun _ => 0))), (pl, .inl (cp, 702, .inl (fun _ => 0))), (li, .inl (ci, 702, .inl (fun _ => 0))), (nm, .inr (6, nf)), (us, .inl (cu, 702, .inl (fun _ => 0))), (me, .inl (cm, 702, .inl (fun _ => 0))), (cd, .inr (0, cf)), (sp, .inr (8, sf)), (rd, .inr (7, rf)), (tr, .inl (ct, 2, .inr (.inr (.inr (.inr (fun _ => none)))))), (b0, .inl (d0, 3000, .inl (fun _ => 0))), (b1, .inl (d1, 710, .inl (fun _ => 0))), (b2, .inl (d2, 710, .inl (fun _ => 0))), (b3, .inl (d3, 710, .inl (fun _ => 0))), (b4, .inl (d4, 710, .inl (fun _ => 0))), (b5, .inl (d5, 2, .inl (fun _ => 0))), (o0, .inl (co, 1, .inr (.inl (fun _ => 0))))]) (w1 := [(m0, .inr (12, u4))]) hP hD [12] [0, 1, 2, 3, 4, 5, 6, 7, 8, 9, 10, 11, 13, 14, 15, 16, 17, 18, 19] rfl rfl (by decide) (by decide) hk1 hFc hP1 hD1
  have hK := (hK.sub (tys' := [(cx, .byte), (cs, .int), (cp, .int), (ci, .int), (cu, .int), (cm, .int), (ct, .object "ScheduleHouse$Trial"), (d0, .byte), (d1, .int), (d2, .int), (d3, .int), (d4, .int), (d5, .boolean), (co, .long)]) [0, 1, 2, 3, 4, 5, 6, 7, 8, 9, 10, 11, 12, 13] rfl).app hK1
  generalize H1 = H at hP hS ⊢
  have hP : va_P D vwCl [(tk, .inr (9, tf)), (tx, .inl (cx, 3000, .inl (fun _ => 0))), (so, .inl (cs, 702, .inl (fun _ => 0))), (pl, .inl (cp, 702, .inl (fun _ => 0))), (li, .inl (ci, 702, .inl (fun _ => 0))), (nm, .inr (6, nf)), (us, .inl (cu, 702, .inl (fun _ => 0))), (me, .inl (cm, 702, .inl (fun _ => 0))), (cd, .inr (0, cf)), (sp, .inr (8, sf)), (rd, .inr (7, rf)), (tr, .inl (ct, 2, .inr (.inr (.inr (.inr (fun _ => none)))))), (b0, .inl (d0, 3000, .inl (fun _ => 0))), (b1, .inl (d1, 710, .inl (fun _ => 0))), (b2, .inl (d2, 710, .inl (fun _ => 0))), (b3, .inl (d3, 710, .inl (fun _ => 0))), (b4, .inl (d4, 710, .inl (fun _ => 0))), (b5, .inl (d5, 2, .inl (fun _ => 0))), (o0, .inl (co, 1, .inr (.inl (fun _ => 0)))), (m0, .inr (12, u4))] H := hP
  have hD : va_D (fun q : Nat => s.heap.size ≤ q) [(tk, .inr (9, tf)), (tx, .inl (cx, 3000, .inl (fun _ => 0))), (so, .inl (cs, 702, .inl (fun _ => 0))), (pl, .inl (cp, 702, .inl (fun _ => 0))), (li, .inl (ci, 702, .inl (fun _ => 0))), (nm, .inr (6, nf)), (us, .inl (cu, 702, .inl (fun _ => 0))), (me, .inl (cm, 702, .inl (fun _ => 0))), (cd, .inr (0, cf)), (sp, .inr (8, sf)), (rd, .inr (7, rf)), (tr, .inl (ct, 2, .inr (.inr (.inr (.inr (fun _ => none)))))), (b0, .inl (d0, 3000, .inl (fun _ => 0))), (b1, .inl (d1, 710, .inl (fun _ => 0))), (b2, .inl (d2, 710, .inl (fun _ => 0))), (b3, .inl (d3, 710, .inl (fun _ => 0))), (b4, .inl (d4, 710, .inl (fun _ => 0))), (b5, .inl (d5, 2, .inl (fun _ => 0))), (o0, .inl (co, 1, .inr (.inl (fun _ => 0)))), (m0, .inr (12, u4))] := hD
  have hK : va_K D vwCl [(cx, .byte), (cs, .int), (cp, .int), (ci, .int), (cu, .int), (cm, .int), (ct, .object "ScheduleHouse$Trial"), (d0, .byte), (d1, .int), (d2, .int), (d3, .int), (d4, .int), (d5, .boolean), (co, .long)] s := hK
  refine lv_istore (lv' := [(6, .int r3), (5, .int 1), (4, .int 0), (3, .ref o0), (2, .ref m0), (1, .ref x0), (0, .ref b)]) hx hb dL_law_597 hl (by decide) rfl (fun ls hl => ?_)
  refine lv_aload_n hx hb dL_law_599 rfl (lv_at hl 4 rfl) ?_
  have hPc := hP.sub (ws' := [(m0, .inr (12, u4))]) [19] rfl
  have hDc := hD.sub (ws' := [(m0, .inr (12, u4))]) [19] (by decide) rfl
  have hKc := hK.sub (tys' := []) [] rfl
  have hFc := va_free (wc := [(m0, .inr (12, u4))]) hD hS hA [19] rfl
  refine va_calli (va_runV (As := []) (rest := []) ⟨hx, hb, hml, hown, hts⟩ (c_m_thrown l D m0 u4 1 H.size ht9) (cwV 0 hts g_lw_2 rfl rfl rfl (by decide +kernel) ⟨Nat.le_of_ble_eq_true rfl, Nat.le_of_ble_eq_true rfl⟩) ⟨st_blind, va_recv hKc hPc (ci := 12) (q0 := 0) rfl rfl, fun U hU hW => ⟨rfl, st_call hU hW hPc hKc hDc hZ hS hFc hE⟩⟩ rfl rfl hl.1 rfl (lv_room (Nat.le_of_ble_eq_true rfl)) dL_law_600 ⟨Nat.le_of_ble_eq_true rfl, Nat.le_of_ble_eq_true rfl⟩) hS (fun q _ h => hFc q h) hFc (fun r5 u6 t H1 locs ht hvm hw hB hz1 hk1 hS => ?_)
  obtain ⟨hP, hD⟩ := va_join (wr := [(tk, .inr (9, tf)), (tx, .inl (cx, 3000, .inl (fun _ => 0))), (so, .inl (cs, 702, .inl (fun _ => 0))), (pl, .inl (cp, 702, .inl (fun _ => 0))), (li, .inl (ci, 702, .inl (fun _ => 0))), (nm, .inr (6, nf)), (us, .inl (cu, 702, .inl (fun _ => 0))), (me, .inl (cm, 702, .inl (fun _ => 0))), (cd, .inr (0, cf)), (sp, .inr (8, sf)), (rd, .inr (7, rf)), (tr, .inl (ct, 2, .inr (.inr (.inr (.inr (fun _ => none)))))), (b0, .inl (d0, 3000, .inl (fun _ => 0))), (b1, .inl (d1, 710, .inl (fun _ => 0))), (b2, .inl (d2, 710, .inl (fun _ => 0))), (b3, .inl (d3, 710, .inl (fun _ => 0))), (b4, .inl (d4, 710, .inl (fun _ => 0))), (b5, .inl (d5, 2, .inl (fun _ => 0))), (o0, .inl (co, 1, .inr (.inl (fun _ => 0))))]) (w1 := []) hP hD [19] [0, 1, 2, 3, 4, 5, 6, 7, 8, 9, 10, 11, 12, 13, 14, 15, 16, 17, 18] rfl rfl (by decide) (by decide) hk1 hFc p_nil d_nil
  have hK := hK.sub (tys' := [(cx, .byte), (cs, .int), (cp, .int), (ci, .int), (cu, .int), (cm, .int), (ct, .object "ScheduleHouse$Trial"), (d0, .byte), (d1, .int), (d2, .int), (d3, .int), (d4, .int), (d5, .boolean), (co, .long)]) [0, 1, 2, 3, 4, 5, 6, 7, 8, 9, 10, 11, 12, 13] rfl
  generalize H1 = H at hP hS ⊢
  have hP : va_P D vwCl [(tk, .inr (9, tf)), (tx, .inl (cx, 3000, .inl (fun _ => 0))), (so, .inl (cs, 702, .inl (fun _ => 0))), (pl, .inl (cp, 702, .inl (fun _ => 0))), (li, .inl (ci, 702, .inl (fun _ => 0))), (nm, .inr (6, nf)), (us, .inl (cu, 702, .inl (fun _ => 0))), (me, .inl (cm, 702, .inl (fun _ => 0))), (cd, .inr (0, cf)), (sp, .inr (8, sf)), (rd, .inr (7, rf)), (tr, .inl (ct, 2, .inr (.inr (.inr (.inr (fun _ => none)))))), (b0, .inl (d0, 3000, .inl (fun _ => 0))), (b1, .inl (d1, 710, .inl (fun _ => 0))), (b2, .inl (d2, 710, .inl (fun _ => 0))), (b3, .inl (d3, 710, .inl (fun _ => 0))), (b4, .inl (d4, 710, .inl (fun _ => 0))), (b5, .inl (d5, 2, .inl (fun _ => 0))), (o0, .inl (co, 1, .inr (.inl (fun _ => 0))))] H := hP
  have hD : va_D (fun q : Nat => s.heap.size ≤ q) [(tk, .inr (9, tf)), (tx, .inl (cx, 3000, .inl (fun _ => 0))), (so, .inl (cs, 702, .inl (fun _ => 0))), (pl, .inl (cp, 702, .inl (fun _ => 0))), (li, .inl (ci, 702, .inl (fun _ => 0))), (nm, .inr (6, nf)), (us, .inl (cu, 702, .inl (fun _ => 0))), (me, .inl (cm, 702, .inl (fun _ => 0))), (cd, .inr (0, cf)), (sp, .inr (8, sf)), (rd, .inr (7, rf)), (tr, .inl (ct, 2, .inr (.inr (.inr (.inr (fun _ => none)))))), (b0, .inl (d0, 3000, .inl (fun _ => 0))), (b1, .inl (d1, 710, .inl (fun _ => 0))), (b2, .inl (d2, 710, .inl (fun _ => 0))), (b3, .inl (d3, 710, .inl (fun _ => 0))), (b4, .inl (d4, 710, .inl (fun _ => 0))), (b5, .inl (d5, 2, .inl (fun _ => 0))), (o0, .inl (co, 1, .inr (.inl (fun _ => 0))))] := hD
  have hK : va_K D vwCl [(cx, .byte), (cs, .int), (cp, .int), (ci, .int), (cu, .int), (cm, .int), (ct, .object "ScheduleHouse$Trial"), (d0, .byte), (d1, .int), (d2, .int), (d3, .int), (d4, .int), (d5, .boolean), (co, .long)] s := hK
  subst hw
  refine lv_iload hx hb dL_law_603 (lv_at hl 1 rfl) ?_
  refine lv_icmp_eq (tgt := 610) hx hb dL_law_605 (by decide) (fun _ => ?_) (fun c9 => absurd rfl c9)
  refine lv_iload hx hb dL_law_610 (lv_at hl 1 rfl) ?_
  refine lv_if_ne (tgt := 627) hx hb dL_law_612 (by decide) (fun _ => ?_) (fun c9 => False.elim (by revert c9; decide))
  refine lv_goto (tgt := 1894) hx hb dL_law_627 (by decide) ?_
  refine W.widen (k := 2000) (n := 2000000) (Nat.le_of_ble_eq_true rfl) (Nat.le_of_ble_eq_true rfl) ?_
  exact law_tail l C0 hS (lv_sub hl [2, 6] rfl)
set_option maxHeartbeats 400000 in
set_option maxRecDepth 100000 in
theorem law_9 {p : Program} {e : Env} {s : State} {m : MethodId} {below : List Frame} {meth : Method} {c : Code} (l : Launch) (hlt : l.stackTraces = false) {b : Nat} {xs : Nat → Int32} (C0 : lw_At p s m meth c b 4 xs) (hE : ev s) (hZ : ev_Z (fun q : Nat => s.heap.size ≤ q) s s.heap) (D : va_G) (x0 tk tx so pl li nm us me cd sp rd tr m0 b0 b1 b2 b3 b4 b5 o0 : Nat) (cx cs cp ci cu cm ct d0 d1 d2 d3 d4 d5 co : ClassId) (xf tf nf cf sf rf mf : List Value) {H : Heap} {locs : List Loc} {ls : Array Slot} (hin : law_in D s H locs x0 tk tx so pl li nm us me cd sp rd tr m0 b0 b1 b2 b3 b4 b5 o0 cx cs cp ci cu cm ct d0 d1 d2 d3 d4 d5 co xf tf nf cf sf rf mf) (hl : lv_has ls 7 [(4, .int 0), (3, .ref o0), (2, .ref m0), (1, .ref x0), (0, .ref b)]) : W p l e room_1 s m #[Value.ref b] below meth c H locs 1000 1000000 (lw_Z below #[Value.ref b] s) (F0 m 630 ls []) := by
  obtain ⟨hx, hb, hr, hml, hown, hts, hX, hbl, hlocks, hgv⟩ := id C0
  have hA : ∀ q : Nat, s.heap.size ≤ q → (fun q : Nat => s.heap.size ≤ q) q := fun _ h => h
  have hbA : ¬ (fun q : Nat => s.heap.size ≤ q) b := Nat.not_le.mpr hbl
  obtain ⟨hok, hP, hD, hK, hS⟩ := hin
  obtain ⟨xf_l, xf_0, xf_1, xf_2, xf_3, xf_6, xf_9, xf_10, xf_11, xf_12, tf_l, tf_0, tf_1, tf_2, tf_3, tf_4, nf_l, nf_0, nf_1, nf_2, nf_11, cf_l, cf_0, sf_l, rf_l, rf_0, rf_1, rf_2, rf_3, mf_l, mf_z, mf_p, mf_n, mf_r0, mf_r1, mf_r2, mf_r3, mf_r4, mf_r5⟩ := hok
  have hown : s.vm.findClass RL = some m.cls := hown
  refine lv_aload_n hx hb dL_law_630 rfl (lv_at hl 3 rfl) ?_
  refine lv_aload_n hx hb dL_law_631 rfl (lv_at hl 4 rfl) ?_
  refine lv_iload hx hb dL_law_632 (lv_at hl 0 rfl) ?_
  refine lv_iconst (v := 1) hx hb dL_law_634 (by decide +kernel) ?_
  refine lv_iadd hx hb dL_law_635 ?_
  rw [show (0 + 1 : Int32) = 1 by decide]
  refine va_sld hx hb hX hbl hbA hS (i := 1) (by unfold vp_in; decide) dL_law_636 ?_
  refine lv_aload_n hx hb dL_law_637 rfl (lv_at hl 4 rfl) ?_
  refine lv_iload hx hb dL_law_638 (lv_at hl 0 rfl) ?_
  refine lv_iconst (v := 2) hx hb dL_law_640 (by decide +kernel) ?_
  refine lv_iadd hx hb dL_law_641 ?_
  rw [show (0 + 2 : Int32) = 2 by decide]
  refine va_sld hx hb hX hbl hbA hS (i := 2) (by unfold vp_in; decide) dL_law_642 ?_
  refine lv_aload_n hx hb dL_law_643 rfl (lv_at hl 1 rfl) ?_
  have hPc := hP.sub (ws' := [(x0, .inr (11, xf))]) [0] rfl
  have hDc := hD.sub (ws' := [(x0, .inr (11, xf))]) [0] (by decide) rfl
  have hKc := hK.sub (tys' := []) [] rfl
  have hFc := va_free (wc := [(x0, .inr (11, xf))]) hD hS hA [0] rfl
  refine va_calli (vx_runSW (As := [.ref x0, .int (xs (1 : Int32).toNatClampNeg), .int (xs (2 : Int32).toNatClampNeg), .ref o0]) (rest := []) ⟨hx, hb, hml, hown, hts⟩ (c_L_draw l D x0 o0 xf (xs (1 : Int32).toNatClampNeg) (xs (2 : Int32).toNatClampNeg) H.size hlt xf_10) (vx_cwSW 4 hts g_lw_19 rfl rfl rfl (by decide +kernel) ⟨Nat.le_of_ble_eq_true rfl, Nat.le_of_ble_eq_true rfl⟩) ⟨st_blind, fun U hU hW => ⟨rfl, st_call hU hW hPc hKc hDc hZ hS hFc hE⟩⟩ rfl rfl hl.1 rfl (lv_room (Nat.le_of_ble_eq_true rfl)) dL_law_644 ⟨Nat.le_of_ble_eq_true rfl, Nat.le_of_ble_eq_true rfl⟩) hS (fun q _ h => hFc q h) hFc (fun r1 u2 t H1 locs ht hvm hw hB hz1 hk1 hS => ?_)
  obtain ⟨hP, hD⟩ := va_join (wr := [(tk, .inr (9, tf)), (tx, .inl (cx, 3000, .inl (fun _ => 0))), (so, .inl (cs, 702, .inl (fun _ => 0))), (pl, .inl (cp, 702, .inl (fun _ => 0))), (li, .inl (ci, 702, .inl (fun _ => 0))), (nm, .inr (6, nf)), (us, .inl (cu, 702, .inl (fun _ => 0))), (me, .inl (cm, 702, .inl (fun _ => 0))), (cd, .inr (0, cf)), (sp, .inr (8, sf)), (rd, .inr (7, rf)), (tr, .inl (ct, 2, .inr (.inr (.inr (.inr (fun _ => none)))))), (m0, .inr (12, mf)), (b0, .inl (d0, 3000, .inl (fun _ => 0))), (b1, .inl (d1, 710, .inl (fun _ => 0))), (b2, .inl (d2, 710, .inl (fun _ => 0))), (b3, .inl (d3, 710, .inl (fun _ => 0))), (b4, .inl (d4, 710, .inl (fun _ => 0))), (b5, .inl (d5, 2, .inl (fun _ => 0))), (o0, .inl (co, 1, .inr (.inl (fun _ => 0))))]) (w1 := []) hP hD [0] [1, 2, 3, 4, 5, 6, 7, 8, 9, 10, 11, 12, 13, 14, 15, 16, 17, 18, 19, 20] rfl rfl (by decide) (by decide) hk1 hFc p_nil d_nil
  have hK := hK.sub (tys' := [(cx, .byte), (cs, .int), (cp, .int), (ci, .int), (cu, .int), (cm, .int), (ct, .object "ScheduleHouse$Trial"), (d0, .byte), (d1, .int), (d2, .int), (d3, .int), (d4, .int), (d5, .boolean), (co, .long)]) [0, 1, 2, 3, 4, 5, 6, 7, 8, 9, 10, 11, 12, 13] rfl
  generalize H1 = H at hP hS ⊢
  have hP : va_P D vwCl [(tk, .inr (9, tf)), (tx, .inl (cx, 3000, .inl (fun _ => 0))), (so, .inl (cs, 702, .inl (fun _ => 0))), (pl, .inl (cp, 702, .inl (fun _ => 0))), (li, .inl (ci, 702, .inl (fun _ => 0))), (nm, .inr (6, nf)), (us, .inl (cu, 702, .inl (fun _ => 0))), (me, .inl (cm, 702, .inl (fun _ => 0))), (cd, .inr (0, cf)), (sp, .inr (8, sf)), (rd, .inr (7, rf)), (tr, .inl (ct, 2, .inr (.inr (.inr (.inr (fun _ => none)))))), (m0, .inr (12, mf)), (b0, .inl (d0, 3000, .inl (fun _ => 0))), (b1, .inl (d1, 710, .inl (fun _ => 0))), (b2, .inl (d2, 710, .inl (fun _ => 0))), (b3, .inl (d3, 710, .inl (fun _ => 0))), (b4, .inl (d4, 710, .inl (fun _ => 0))), (b5, .inl (d5, 2, .inl (fun _ => 0))), (o0, .inl (co, 1, .inr (.inl (fun _ => 0))))] H := hP
  have hD : va_D (fun q : Nat => s.heap.size ≤ q) [(tk, .inr (9, tf)), (tx, .inl (cx, 3000, .inl (fun _ => 0))), (so, .inl (cs, 702, .inl (fun _ => 0))), (pl, .inl (cp, 702, .inl (fun _ => 0))), (li, .inl (ci, 702, .inl (fun _ => 0))), (nm, .inr (6, nf)), (us, .inl (cu, 702, .inl (fun _ => 0))), (me, .inl (cm, 702, .inl (fun _ => 0))), (cd, .inr (0, cf)), (sp, .inr (8, sf)), (rd, .inr (7, rf)), (tr, .inl (ct, 2, .inr (.inr (.inr (.inr (fun _ => none)))))), (m0, .inr (12, mf)), (b0, .inl (d0, 3000, .inl (fun _ => 0))), (b1, .inl (d1, 710, .inl (fun _ => 0))), (b2, .inl (d2, 710, .inl (fun _ => 0))), (b3, .inl (d3, 710, .inl (fun _ => 0))), (b4, .inl (d4, 710, .inl (fun _ => 0))), (b5, .inl (d5, 2, .inl (fun _ => 0))), (o0, .inl (co, 1, .inr (.inl (fun _ => 0))))] := hD
  have hK : va_K D vwCl [(cx, .byte), (cs, .int), (cp, .int), (ci, .int), (cu, .int), (cm, .int), (ct, .object "ScheduleHouse$Trial"), (d0, .byte), (d1, .int), (d2, .int), (d3, .int), (d4, .int), (d5, .boolean), (co, .long)] s := hK
  subst hw
  refine lv_istore (lv' := [(5, .int 1), (4, .int 0), (3, .ref o0), (2, .ref m0), (1, .ref x0), (0, .ref b)]) hx hb dL_law_647 hl (by decide) rfl (fun ls hl => ?_)
  refine lv_aload_n hx hb dL_law_649 rfl (lv_at hl 3 rfl) ?_
  refine lv_aload_n hx hb dL_law_650 rfl (lv_at hl 5 rfl) ?_
  refine lv_iload hx hb dL_law_651 (lv_at hl 1 rfl) ?_
  refine lv_iconst (v := 1) hx hb dL_law_653 (by decide +kernel) ?_
  refine lv_iadd hx hb dL_law_654 ?_
  rw [show (0 + 1 : Int32) = 1 by decide]
  refine va_sld hx hb hX hbl hbA hS (i := 1) (by unfold vp_in; decide) dL_law_655 ?_
  refine lv_aload_n hx hb dL_law_656 rfl (lv_at hl 5 rfl) ?_
  refine lv_iload hx hb dL_law_657 (lv_at hl 1 rfl) ?_
  refine lv_iconst (v := 2) hx hb dL_law_659 (by decide +kernel) ?_
  refine lv_iadd hx hb dL_law_660 ?_
  rw [show (0 + 2 : Int32) = 2 by decide]
  refine va_sld hx hb hX hbl hbA hS (i := 2) (by unfold vp_in; decide) dL_law_661 ?_
  have hPc := hP.sub (ws' := [(m0, .inr (12, mf))]) [12] rfl
  have hDc := hD.sub (ws' := [(m0, .inr (12, mf))]) [12] (by decide) rfl
  have hKc := hK.sub (tys' := []) [] rfl
  have hFc := va_free (wc := [(m0, .inr (12, mf))]) hD hS hA [12] rfl
  refine va_calli (va_runV (As := [.int (xs (1 : Int32).toNatClampNeg), .int (xs (2 : Int32).toNatClampNeg)]) (rest := []) ⟨hx, hb, hml, hown, hts⟩ (c_m_draw l D m0 mf (xs (1 : Int32).toNatClampNeg) (xs (2 : Int32).toNatClampNeg) H.size mf_l (mf_z 0 (by decide)) (mf_z 67 (by decide))) (cwV 2 hts g_lw_20 rfl rfl rfl (by decide +kernel) ⟨Nat.le_of_ble_eq_true rfl, Nat.le_of_ble_eq_true rfl⟩) ⟨st_blind, va_recv hKc hPc (ci := 12) (q0 := 0) rfl rfl, fun U hU hW => ⟨rfl, st_call hU hW hPc hKc hDc hZ hS hFc hE⟩⟩ rfl rfl hl.1 rfl (lv_room (Nat.le_of_ble_eq_true rfl)) dL_law_662 ⟨Nat.le_of_ble_eq_true rfl, Nat.le_of_ble_eq_true rfl⟩) hS (fun q _ h => hFc q h) hFc (fun r3 u4 t H1 locs ht hvm hw hB hz1 hk1 hS => ?_)
  have ht9 := hw
  obtain ⟨hP1, hK1, hD1⟩ := hB
  rw [ht] at hP1
  have hK1 := va_K.moved hvm.symm hK1
  obtain ⟨hP, hD⟩ := va_join (wr := [(tk, .inr (9, tf)), (tx, .inl (cx, 3000, .inl (fun _ => 0))), (so, .inl (cs, 702, .inl (fun _ => 0))), (pl, .inl (cp, 702, .inl (fun _ => 0))), (li, .inl (ci, 702, .inl (fun _ => 0))), (nm, .inr (6, nf)), (us, .inl (cu, 702, .inl (fun _ => 0))), (me, .inl (cm, 702, .inl (fun _ => 0))), (cd, .inr (0, cf)), (sp, .inr (8, sf)), (rd, .inr (7, rf)), (tr, .inl (ct, 2, .inr (.inr (.inr (.inr (fun _ => none)))))), (b0, .inl (d0, 3000, .inl (fun _ => 0))), (b1, .inl (d1, 710, .inl (fun _ => 0))), (b2, .inl (d2, 710, .inl (fun _ => 0))), (b3, .inl (d3, 710, .inl (fun _ => 0))), (b4, .inl (d4, 710, .inl (fun _ => 0))), (b5, .inl (d5, 2, .inl (fun _ => 0))), (o0, .inl (co, 1, .inr (.inl (fun _ => 0))))]) (w1 := [(m0, .inr (12, u4))]) hP hD [12] [0, 1, 2, 3, 4, 5, 6, 7, 8, 9, 10, 11, 13, 14, 15, 16, 17, 18, 19] rfl rfl (by decide) (by decide) hk1 hFc hP1 hD1
  have hK := (hK.sub (tys' := [(cx, .byte), (cs, .int), (cp, .int), (ci, .int), (cu, .int), (cm, .int), (ct, .object "ScheduleHouse$Trial"), (d0, .byte), (d1, .int), (d2, .int), (d3, .int), (d4, .int), (d5, .boolean), (co, .long)]) [0, 1, 2, 3, 4, 5, 6, 7, 8, 9, 10, 11, 12, 13] rfl).app hK1
  generalize H1 = H at hP hS ⊢
  have hP : va_P D vwCl [(tk, .inr (9, tf)), (tx, .inl (cx, 3000, .inl (fun _ => 0))), (so, .inl (cs, 702, .inl (fun _ => 0))), (pl, .inl (cp, 702, .inl (fun _ => 0))), (li, .inl (ci, 702, .inl (fun _ => 0))), (nm, .inr (6, nf)), (us, .inl (cu, 702, .inl (fun _ => 0))), (me, .inl (cm, 702, .inl (fun _ => 0))), (cd, .inr (0, cf)), (sp, .inr (8, sf)), (rd, .inr (7, rf)), (tr, .inl (ct, 2, .inr (.inr (.inr (.inr (fun _ => none)))))), (b0, .inl (d0, 3000, .inl (fun _ => 0))), (b1, .inl (d1, 710, .inl (fun _ => 0))), (b2, .inl (d2, 710, .inl (fun _ => 0))), (b3, .inl (d3, 710, .inl (fun _ => 0))), (b4, .inl (d4, 710, .inl (fun _ => 0))), (b5, .inl (d5, 2, .inl (fun _ => 0))), (o0, .inl (co, 1, .inr (.inl (fun _ => 0)))), (m0, .inr (12, u4))] H := hP
  have hD : va_D (fun q : Nat => s.heap.size ≤ q) [(tk, .inr (9, tf)), (tx, .inl (cx, 3000, .inl (fun _ => 0))), (so, .inl (cs, 702, .inl (fun _ => 0))), (pl, .inl (cp, 702, .inl (fun _ => 0))), (li, .inl (ci, 702, .inl (fun _ => 0))), (nm, .inr (6, nf)), (us, .inl (cu, 702, .inl (fun _ => 0))), (me, .inl (cm, 702, .inl (fun _ => 0))), (cd, .inr (0, cf)), (sp, .inr (8, sf)), (rd, .inr (7, rf)), (tr, .inl (ct, 2, .inr (.inr (.inr (.inr (fun _ => none)))))), (b0, .inl (d0, 3000, .inl (fun _ => 0))), (b1, .inl (d1, 710, .inl (fun _ => 0))), (b2, .inl (d2, 710, .inl (fun _ => 0))), (b3, .inl (d3, 710, .inl (fun _ => 0))), (b4, .inl (d4, 710, .inl (fun _ => 0))), (b5, .inl (d5, 2, .inl (fun _ => 0))), (o0, .inl (co, 1, .inr (.inl (fun _ => 0)))), (m0, .inr (12, u4))] := hD
  have hK : va_K D vwCl [(cx, .byte), (cs, .int), (cp, .int), (ci, .int), (cu, .int), (cm, .int), (ct, .object "ScheduleHouse$Trial"), (d0, .byte), (d1, .int), (d2, .int), (d3, .int), (d4, .int), (d5, .boolean), (co, .long)] s := hK
  refine lv_istore (lv' := [(6, .int r3), (5, .int 1), (4, .int 0), (3, .ref o0), (2, .ref m0), (1, .ref x0), (0, .ref b)]) hx hb dL_law_665 hl (by decide) rfl (fun ls hl => ?_)
  refine lv_aload_n hx hb dL_law_667 rfl (lv_at hl 4 rfl) ?_
  have hPc := hP.sub (ws' := [(m0, .inr (12, u4))]) [19] rfl
  have hDc := hD.sub (ws' := [(m0, .inr (12, u4))]) [19] (by decide) rfl
  have hKc := hK.sub (tys' := []) [] rfl
  have hFc := va_free (wc := [(m0, .inr (12, u4))]) hD hS hA [19] rfl
  refine va_calli (va_runV (As := []) (rest := []) ⟨hx, hb, hml, hown, hts⟩ (c_m_thrown l D m0 u4 1 H.size ht9) (cwV 0 hts g_lw_2 rfl rfl rfl (by decide +kernel) ⟨Nat.le_of_ble_eq_true rfl, Nat.le_of_ble_eq_true rfl⟩) ⟨st_blind, va_recv hKc hPc (ci := 12) (q0 := 0) rfl rfl, fun U hU hW => ⟨rfl, st_call hU hW hPc hKc hDc hZ hS hFc hE⟩⟩ rfl rfl hl.1 rfl (lv_room (Nat.le_of_ble_eq_true rfl)) dL_law_668 ⟨Nat.le_of_ble_eq_true rfl, Nat.le_of_ble_eq_true rfl⟩) hS (fun q _ h => hFc q h) hFc (fun r5 u6 t H1 locs ht hvm hw hB hz1 hk1 hS => ?_)
  obtain ⟨hP, hD⟩ := va_join (wr := [(tk, .inr (9, tf)), (tx, .inl (cx, 3000, .inl (fun _ => 0))), (so, .inl (cs, 702, .inl (fun _ => 0))), (pl, .inl (cp, 702, .inl (fun _ => 0))), (li, .inl (ci, 702, .inl (fun _ => 0))), (nm, .inr (6, nf)), (us, .inl (cu, 702, .inl (fun _ => 0))), (me, .inl (cm, 702, .inl (fun _ => 0))), (cd, .inr (0, cf)), (sp, .inr (8, sf)), (rd, .inr (7, rf)), (tr, .inl (ct, 2, .inr (.inr (.inr (.inr (fun _ => none)))))), (b0, .inl (d0, 3000, .inl (fun _ => 0))), (b1, .inl (d1, 710, .inl (fun _ => 0))), (b2, .inl (d2, 710, .inl (fun _ => 0))), (b3, .inl (d3, 710, .inl (fun _ => 0))), (b4, .inl (d4, 710, .inl (fun _ => 0))), (b5, .inl (d5, 2, .inl (fun _ => 0))), (o0, .inl (co, 1, .inr (.inl (fun _ => 0))))]) (w1 := []) hP hD [19] [0, 1, 2, 3, 4, 5, 6, 7, 8, 9, 10, 11, 12, 13, 14, 15, 16, 17, 18] rfl rfl (by decide) (by decide) hk1 hFc p_nil d_nil
  have hK := hK.sub (tys' := [(cx, .byte), (cs, .int), (cp, .int), (ci, .int), (cu, .int), (cm, .int), (ct, .object "ScheduleHouse$Trial"), (d0, .byte), (d1, .int), (d2, .int), (d3, .int), (d4, .int), (d5, .boolean), (co, .long)]) [0, 1, 2, 3, 4, 5, 6, 7, 8, 9, 10, 11, 12, 13] rfl
  generalize H1 = H at hP hS ⊢
  have hP : va_P D vwCl [(tk, .inr (9, tf)), (tx, .inl (cx, 3000, .inl (fun _ => 0))), (so, .inl (cs, 702, .inl (fun _ => 0))), (pl, .inl (cp, 702, .inl (fun _ => 0))), (li, .inl (ci, 702, .inl (fun _ => 0))), (nm, .inr (6, nf)), (us, .inl (cu, 702, .inl (fun _ => 0))), (me, .inl (cm, 702, .inl (fun _ => 0))), (cd, .inr (0, cf)), (sp, .inr (8, sf)), (rd, .inr (7, rf)), (tr, .inl (ct, 2, .inr (.inr (.inr (.inr (fun _ => none)))))), (b0, .inl (d0, 3000, .inl (fun _ => 0))), (b1, .inl (d1, 710, .inl (fun _ => 0))), (b2, .inl (d2, 710, .inl (fun _ => 0))), (b3, .inl (d3, 710, .inl (fun _ => 0))), (b4, .inl (d4, 710, .inl (fun _ => 0))), (b5, .inl (d5, 2, .inl (fun _ => 0))), (o0, .inl (co, 1, .inr (.inl (fun _ => 0))))] H := hP
  have hD : va_D (fun q : Nat => s.heap.size ≤ q) [(tk, .inr (9, tf)), (tx, .inl (cx, 3000, .inl (fun _ => 0))), (so, .inl (cs, 702, .inl (fun _ => 0))), (pl, .inl (cp, 702, .inl (fun _ => 0))), (li, .inl (ci, 702, .inl (fun _ => 0))), (nm, .inr (6, nf)), (us, .inl (cu, 702, .inl (fun _ => 0))), (me, .inl (cm, 702, .inl (fun _ => 0))), (cd, .inr (0, cf)), (sp, .inr (8, sf)), (rd, .inr (7, rf)), (tr, .inl (ct, 2, .inr (.inr (.inr (.inr (fun _ => none)))))), (b0, .inl (d0, 3000, .inl (fun _ => 0))), (b1, .inl (d1, 710, .inl (fun _ => 0))), (b2, .inl (d2, 710, .inl (fun _ => 0))), (b3, .inl (d3, 710, .inl (fun _ => 0))), (b4, .inl (d4, 710, .inl (fun _ => 0))), (b5, .inl (d5, 2, .inl (fun _ => 0))), (o0, .inl (co, 1, .inr (.inl (fun _ => 0))))] := hD
  have hK : va_K D vwCl [(cx, .byte), (cs, .int), (cp, .int), (ci, .int), (cu, .int), (cm, .int), (ct, .object "ScheduleHouse$Trial"), (d0, .byte), (d1, .int), (d2, .int), (d3, .int), (d4, .int), (d5, .boolean), (co, .long)] s := hK
  subst hw
  refine lv_iload hx hb dL_law_671 (lv_at hl 1 rfl) ?_
  refine lv_icmp_eq (tgt := 678) hx hb dL_law_673 (by decide) (fun _ => ?_) (fun c9 => absurd rfl c9)
  refine lv_iload hx hb dL_law_678 (lv_at hl 1 rfl) ?_
  refine lv_if_ne (tgt := 695) hx hb dL_law_680 (by decide) (fun _ => ?_) (fun c9 => False.elim (by revert c9; decide))
  refine lv_goto (tgt := 1894) hx hb dL_law_695 (by decide) ?_
  refine W.widen (k := 2000) (n := 2000000) (Nat.le_of_ble_eq_true rfl) (Nat.le_of_ble_eq_true rfl) ?_
  exact law_tail l C0 hS (lv_sub hl [2, 6] rfl)
set_option maxHeartbeats 400000 in
set_option maxRecDepth 100000 in
theorem law_10 {p : Program} {e : Env} {s : State} {m : MethodId} {below : List Frame} {meth : Method} {c : Code} (l : Launch) (hlt : l.stackTraces = false) {b : Nat} {xs : Nat → Int32} (C0 : lw_At p s m meth c b 4 xs) (hE : ev s) (hZ : ev_Z (fun q : Nat => s.heap.size ≤ q) s s.heap) (D : va_G) (x0 tk tx so pl li nm us me cd sp rd tr m0 b0 b1 b2 b3 b4 b5 o0 : Nat) (cx cs cp ci cu cm ct d0 d1 d2 d3 d4 d5 co : ClassId) (xf tf nf cf sf rf mf : List Value) {H : Heap} {locs : List Loc} {ls : Array Slot} (hin : law_in D s H locs x0 tk tx so pl li nm us me cd sp rd tr m0 b0 b1 b2 b3 b4 b5 o0 cx cs cp ci cu cm ct d0 d1 d2 d3 d4 d5 co xf tf nf cf sf rf mf) (hl : lv_has ls 7 [(4, .int 0), (3, .ref o0), (2, .ref m0), (1, .ref x0), (0, .ref b)]) : W p l e room_1 s m #[Value.ref b] below meth c H locs 1000 1000000 (lw_Z below #[Value.ref b] s) (F0 m 698 ls []) := by
  obtain ⟨hx, hb, hr, hml, hown, hts, hX, hbl, hlocks, hgv⟩ := id C0
  have hA : ∀ q : Nat, s.heap.size ≤ q → (fun q : Nat => s.heap.size ≤ q) q := fun _ h => h
  have hbA : ¬ (fun q : Nat => s.heap.size ≤ q) b := Nat.not_le.mpr hbl
  obtain ⟨hok, hP, hD, hK, hS⟩ := hin
  obtain ⟨xf_l, xf_0, xf_1, xf_2, xf_3, xf_6, xf_9, xf_10, xf_11, xf_12, tf_l, tf_0, tf_1, tf_2, tf_3, tf_4, nf_l, nf_0, nf_1, nf_2, nf_11, cf_l, cf_0, sf_l, rf_l, rf_0, rf_1, rf_2, rf_3, mf_l, mf_z, mf_p, mf_n, mf_r0, mf_r1, mf_r2, mf_r3, mf_r4, mf_r5⟩ := hok
  have hown : s.vm.findClass RL = some m.cls := hown
  refine lv_aload_n hx hb dL_law_698 rfl (lv_at hl 3 rfl) ?_
  refine lv_aload_n hx hb dL_law_699 rfl (lv_at hl 4 rfl) ?_
  refine lv_iload hx hb dL_law_700 (lv_at hl 0 rfl) ?_
  refine lv_iconst (v := 1) hx hb dL_law_702 (by decide +kernel) ?_
  refine lv_iadd hx hb dL_law_703 ?_
  rw [show (0 + 1 : Int32) = 1 by decide]
  refine va_sld hx hb hX hbl hbA hS (i := 1) (by unfold vp_in; decide) dL_law_704 ?_
  refine lv_aload_n hx hb dL_law_705 rfl (lv_at hl 1 rfl) ?_
  have hPc := hP.sub (ws' := [(x0, .inr (11, xf))]) [0] rfl
  have hDc := hD.sub (ws' := [(x0, .inr (11, xf))]) [0] (by decide) rfl
  have hKc := hK.sub (tys' := []) [] rfl
  have hFc := va_free (wc := [(x0, .inr (11, xf))]) hD hS hA [0] rfl
  refine va_calli (vx_runSW (As := [.ref x0, .int (xs (1 : Int32).toNatClampNeg), .ref o0]) (rest := []) ⟨hx, hb, hml, hown, hts⟩ (c_L_again l D x0 o0 xf (xs (1 : Int32).toNatClampNeg) H.size hlt xf_10) (vx_cwSW 3 hts g_lw_21 rfl rfl rfl (by decide +kernel) ⟨Nat.le_of_ble_eq_true rfl, Nat.le_of_ble_eq_true rfl⟩) ⟨st_blind, fun U hU hW => ⟨rfl, st_call hU hW hPc hKc hDc hZ hS hFc hE⟩⟩ rfl rfl hl.1 rfl (lv_room (Nat.le_of_ble_eq_true rfl)) dL_law_706 ⟨Nat.le_of_ble_eq_true rfl, Nat.le_of_ble_eq_true rfl⟩) hS (fun q _ h => hFc q h) hFc (fun r1 u2 t H1 locs ht hvm hw hB hz1 hk1 hS => ?_)
  obtain ⟨hP, hD⟩ := va_join (wr := [(tk, .inr (9, tf)), (tx, .inl (cx, 3000, .inl (fun _ => 0))), (so, .inl (cs, 702, .inl (fun _ => 0))), (pl, .inl (cp, 702, .inl (fun _ => 0))), (li, .inl (ci, 702, .inl (fun _ => 0))), (nm, .inr (6, nf)), (us, .inl (cu, 702, .inl (fun _ => 0))), (me, .inl (cm, 702, .inl (fun _ => 0))), (cd, .inr (0, cf)), (sp, .inr (8, sf)), (rd, .inr (7, rf)), (tr, .inl (ct, 2, .inr (.inr (.inr (.inr (fun _ => none)))))), (m0, .inr (12, mf)), (b0, .inl (d0, 3000, .inl (fun _ => 0))), (b1, .inl (d1, 710, .inl (fun _ => 0))), (b2, .inl (d2, 710, .inl (fun _ => 0))), (b3, .inl (d3, 710, .inl (fun _ => 0))), (b4, .inl (d4, 710, .inl (fun _ => 0))), (b5, .inl (d5, 2, .inl (fun _ => 0))), (o0, .inl (co, 1, .inr (.inl (fun _ => 0))))]) (w1 := []) hP hD [0] [1, 2, 3, 4, 5, 6, 7, 8, 9, 10, 11, 12, 13, 14, 15, 16, 17, 18, 19, 20] rfl rfl (by decide) (by decide) hk1 hFc p_nil d_nil
  have hK := hK.sub (tys' := [(cx, .byte), (cs, .int), (cp, .int), (ci, .int), (cu, .int), (cm, .int), (ct, .object "ScheduleHouse$Trial"), (d0, .byte), (d1, .int), (d2, .int), (d3, .int), (d4, .int), (d5, .boolean), (co, .long)]) [0, 1, 2, 3, 4, 5, 6, 7, 8, 9, 10, 11, 12, 13] rfl
  generalize H1 = H at hP hS ⊢
  have hP : va_P D vwCl [(tk, .inr (9, tf)), (tx, .inl (cx, 3000, .inl (fun _ => 0))), (so, .inl (cs, 702, .inl (fun _ => 0))), (pl, .inl (cp, 702, .inl (fun _ => 0))), (li, .inl (ci, 702, .inl (fun _ => 0))), (nm, .inr (6, nf)), (us, .inl (cu, 702, .inl (fun _ => 0))), (me, .inl (cm, 702, .inl (fun _ => 0))), (cd, .inr (0, cf)), (sp, .inr (8, sf)), (rd, .inr (7, rf)), (tr, .inl (ct, 2, .inr (.inr (.inr (.inr (fun _ => none)))))), (m0, .inr (12, mf)), (b0, .inl (d0, 3000, .inl (fun _ => 0))), (b1, .inl (d1, 710, .inl (fun _ => 0))), (b2, .inl (d2, 710, .inl (fun _ => 0))), (b3, .inl (d3, 710, .inl (fun _ => 0))), (b4, .inl (d4, 710, .inl (fun _ => 0))), (b5, .inl (d5, 2, .inl (fun _ => 0))), (o0, .inl (co, 1, .inr (.inl (fun _ => 0))))] H := hP
  have hD : va_D (fun q : Nat => s.heap.size ≤ q) [(tk, .inr (9, tf)), (tx, .inl (cx, 3000, .inl (fun _ => 0))), (so, .inl (cs, 702, .inl (fun _ => 0))), (pl, .inl (cp, 702, .inl (fun _ => 0))), (li, .inl (ci, 702, .inl (fun _ => 0))), (nm, .inr (6, nf)), (us, .inl (cu, 702, .inl (fun _ => 0))), (me, .inl (cm, 702, .inl (fun _ => 0))), (cd, .inr (0, cf)), (sp, .inr (8, sf)), (rd, .inr (7, rf)), (tr, .inl (ct, 2, .inr (.inr (.inr (.inr (fun _ => none)))))), (m0, .inr (12, mf)), (b0, .inl (d0, 3000, .inl (fun _ => 0))), (b1, .inl (d1, 710, .inl (fun _ => 0))), (b2, .inl (d2, 710, .inl (fun _ => 0))), (b3, .inl (d3, 710, .inl (fun _ => 0))), (b4, .inl (d4, 710, .inl (fun _ => 0))), (b5, .inl (d5, 2, .inl (fun _ => 0))), (o0, .inl (co, 1, .inr (.inl (fun _ => 0))))] := hD
  have hK : va_K D vwCl [(cx, .byte), (cs, .int), (cp, .int), (ci, .int), (cu, .int), (cm, .int), (ct, .object "ScheduleHouse$Trial"), (d0, .byte), (d1, .int), (d2, .int), (d3, .int), (d4, .int), (d5, .boolean), (co, .long)] s := hK
  subst hw
  refine lv_istore (lv' := [(5, .int 1), (4, .int 0), (3, .ref o0), (2, .ref m0), (1, .ref x0), (0, .ref b)]) hx hb dL_law_709 hl (by decide) rfl (fun ls hl => ?_)
  refine lv_aload_n hx hb dL_law_711 rfl (lv_at hl 3 rfl) ?_
  refine lv_aload_n hx hb dL_law_712 rfl (lv_at hl 5 rfl) ?_
  refine lv_iload hx hb dL_law_713 (lv_at hl 1 rfl) ?_
  refine lv_iconst (v := 1) hx hb dL_law_715 (by decide +kernel) ?_
  refine lv_iadd hx hb dL_law_716 ?_
  rw [show (0 + 1 : Int32) = 1 by decide]
  refine va_sld hx hb hX hbl hbA hS (i := 1) (by unfold vp_in; decide) dL_law_717 ?_
  have hPc := hP.sub (ws' := [(m0, .inr (12, mf))]) [12] rfl
  have hDc := hD.sub (ws' := [(m0, .inr (12, mf))]) [12] (by decide) rfl
  have hKc := hK.sub (tys' := []) [] rfl
  have hFc := va_free (wc := [(m0, .inr (12, mf))]) hD hS hA [12] rfl
  refine va_calli (va_runV (As := [.int (xs (1 : Int32).toNatClampNeg)]) (rest := []) ⟨hx, hb, hml, hown, hts⟩ (c_m_again l D m0 mf (xs (1 : Int32).toNatClampNeg) H.size mf_l (mf_z 0 (by decide)) (mf_z 67 (by decide))) (cwV 1 hts g_lw_22 rfl rfl rfl (by decide +kernel) ⟨Nat.le_of_ble_eq_true rfl, Nat.le_of_ble_eq_true rfl⟩) ⟨st_blind, va_recv hKc hPc (ci := 12) (q0 := 0) rfl rfl, fun U hU hW => ⟨rfl, st_call hU hW hPc hKc hDc hZ hS hFc hE⟩⟩ rfl rfl hl.1 rfl (lv_room (Nat.le_of_ble_eq_true rfl)) dL_law_718 ⟨Nat.le_of_ble_eq_true rfl, Nat.le_of_ble_eq_true rfl⟩) hS (fun q _ h => hFc q h) hFc (fun r3 u4 t H1 locs ht hvm hw hB hz1 hk1 hS => ?_)
  have ht9 := hw
  obtain ⟨hP1, hK1, hD1⟩ := hB
  rw [ht] at hP1
  have hK1 := va_K.moved hvm.symm hK1
  obtain ⟨hP, hD⟩ := va_join (wr := [(tk, .inr (9, tf)), (tx, .inl (cx, 3000, .inl (fun _ => 0))), (so, .inl (cs, 702, .inl (fun _ => 0))), (pl, .inl (cp, 702, .inl (fun _ => 0))), (li, .inl (ci, 702, .inl (fun _ => 0))), (nm, .inr (6, nf)), (us, .inl (cu, 702, .inl (fun _ => 0))), (me, .inl (cm, 702, .inl (fun _ => 0))), (cd, .inr (0, cf)), (sp, .inr (8, sf)), (rd, .inr (7, rf)), (tr, .inl (ct, 2, .inr (.inr (.inr (.inr (fun _ => none)))))), (b0, .inl (d0, 3000, .inl (fun _ => 0))), (b1, .inl (d1, 710, .inl (fun _ => 0))), (b2, .inl (d2, 710, .inl (fun _ => 0))), (b3, .inl (d3, 710, .inl (fun _ => 0))), (b4, .inl (d4, 710, .inl (fun _ => 0))), (b5, .inl (d5, 2, .inl (fun _ => 0))), (o0, .inl (co, 1, .inr (.inl (fun _ => 0))))]) (w1 := [(m0, .inr (12, u4))]) hP hD [12] [0, 1, 2, 3, 4, 5, 6, 7, 8, 9, 10, 11, 13, 14, 15, 16, 17, 18, 19] rfl rfl (by decide) (by decide) hk1 hFc hP1 hD1
  have hK := (hK.sub (tys' := [(cx, .byte), (cs, .int), (cp, .int), (ci, .int), (cu, .int), (cm, .int), (ct, .object "ScheduleHouse$Trial"), (d0, .byte), (d1, .int), (d2, .int), (d3, .int), (d4, .int), (d5, .boolean), (co, .long)]) [0, 1, 2, 3, 4, 5, 6, 7, 8, 9, 10, 11, 12, 13] rfl).app hK1
  generalize H1 = H at hP hS ⊢
  have hP : va_P D vwCl [(tk, .inr (9, tf)), (tx, .inl (cx, 3000, .inl (fun _ => 0))), (so, .inl (cs, 702, .inl (fun _ => 0))), (pl, .inl (cp, 702, .inl (fun _ => 0))), (li, .inl (ci, 702, .inl (fun _ => 0))), (nm, .inr (6, nf)), (us, .inl (cu, 702, .inl (fun _ => 0))), (me, .inl (cm, 702, .inl (fun _ => 0))), (cd, .inr (0, cf)), (sp, .inr (8, sf)), (rd, .inr (7, rf)), (tr, .inl (ct, 2, .inr (.inr (.inr (.inr (fun _ => none)))))), (b0, .inl (d0, 3000, .inl (fun _ => 0))), (b1, .inl (d1, 710, .inl (fun _ => 0))), (b2, .inl (d2, 710, .inl (fun _ => 0))), (b3, .inl (d3, 710, .inl (fun _ => 0))), (b4, .inl (d4, 710, .inl (fun _ => 0))), (b5, .inl (d5, 2, .inl (fun _ => 0))), (o0, .inl (co, 1, .inr (.inl (fun _ => 0)))), (m0, .inr (12, u4))] H := hP
  have hD : va_D (fun q : Nat => s.heap.size ≤ q) [(tk, .inr (9, tf)), (tx, .inl (cx, 3000, .inl (fun _ => 0))), (so, .inl (cs, 702, .inl (fun _ => 0))), (pl, .inl (cp, 702, .inl (fun _ => 0))), (li, .inl (ci, 702, .inl (fun _ => 0))), (nm, .inr (6, nf)), (us, .inl (cu, 702, .inl (fun _ => 0))), (me, .inl (cm, 702, .inl (fun _ => 0))), (cd, .inr (0, cf)), (sp, .inr (8, sf)), (rd, .inr (7, rf)), (tr, .inl (ct, 2, .inr (.inr (.inr (.inr (fun _ => none)))))), (b0, .inl (d0, 3000, .inl (fun _ => 0))), (b1, .inl (d1, 710, .inl (fun _ => 0))), (b2, .inl (d2, 710, .inl (fun _ => 0))), (b3, .inl (d3, 710, .inl (fun _ => 0))), (b4, .inl (d4, 710, .inl (fun _ => 0))), (b5, .inl (d5, 2, .inl (fun _ => 0))), (o0, .inl (co, 1, .inr (.inl (fun _ => 0)))), (m0, .inr (12, u4))] := hD
  have hK : va_K D vwCl [(cx, .byte), (cs, .int), (cp, .int), (ci, .int), (cu, .int), (cm, .int), (ct, .object "ScheduleHouse$Trial"), (d0, .byte), (d1, .int), (d2, .int), (d3, .int), (d4, .int), (d5, .boolean), (co, .long)] s := hK
  refine lv_istore (lv' := [(6, .int r3), (5, .int 1), (4, .int 0), (3, .ref o0), (2, .ref m0), (1, .ref x0), (0, .ref b)]) hx hb dL_law_721 hl (by decide) rfl (fun ls hl => ?_)
  refine lv_aload_n hx hb dL_law_723 rfl (lv_at hl 4 rfl) ?_
  have hPc := hP.sub (ws' := [(m0, .inr (12, u4))]) [19] rfl
  have hDc := hD.sub (ws' := [(m0, .inr (12, u4))]) [19] (by decide) rfl
  have hKc := hK.sub (tys' := []) [] rfl
  have hFc := va_free (wc := [(m0, .inr (12, u4))]) hD hS hA [19] rfl
  refine va_calli (va_runV (As := []) (rest := []) ⟨hx, hb, hml, hown, hts⟩ (c_m_thrown l D m0 u4 1 H.size ht9) (cwV 0 hts g_lw_2 rfl rfl rfl (by decide +kernel) ⟨Nat.le_of_ble_eq_true rfl, Nat.le_of_ble_eq_true rfl⟩) ⟨st_blind, va_recv hKc hPc (ci := 12) (q0 := 0) rfl rfl, fun U hU hW => ⟨rfl, st_call hU hW hPc hKc hDc hZ hS hFc hE⟩⟩ rfl rfl hl.1 rfl (lv_room (Nat.le_of_ble_eq_true rfl)) dL_law_724 ⟨Nat.le_of_ble_eq_true rfl, Nat.le_of_ble_eq_true rfl⟩) hS (fun q _ h => hFc q h) hFc (fun r5 u6 t H1 locs ht hvm hw hB hz1 hk1 hS => ?_)
  obtain ⟨hP, hD⟩ := va_join (wr := [(tk, .inr (9, tf)), (tx, .inl (cx, 3000, .inl (fun _ => 0))), (so, .inl (cs, 702, .inl (fun _ => 0))), (pl, .inl (cp, 702, .inl (fun _ => 0))), (li, .inl (ci, 702, .inl (fun _ => 0))), (nm, .inr (6, nf)), (us, .inl (cu, 702, .inl (fun _ => 0))), (me, .inl (cm, 702, .inl (fun _ => 0))), (cd, .inr (0, cf)), (sp, .inr (8, sf)), (rd, .inr (7, rf)), (tr, .inl (ct, 2, .inr (.inr (.inr (.inr (fun _ => none)))))), (b0, .inl (d0, 3000, .inl (fun _ => 0))), (b1, .inl (d1, 710, .inl (fun _ => 0))), (b2, .inl (d2, 710, .inl (fun _ => 0))), (b3, .inl (d3, 710, .inl (fun _ => 0))), (b4, .inl (d4, 710, .inl (fun _ => 0))), (b5, .inl (d5, 2, .inl (fun _ => 0))), (o0, .inl (co, 1, .inr (.inl (fun _ => 0))))]) (w1 := []) hP hD [19] [0, 1, 2, 3, 4, 5, 6, 7, 8, 9, 10, 11, 12, 13, 14, 15, 16, 17, 18] rfl rfl (by decide) (by decide) hk1 hFc p_nil d_nil
  have hK := hK.sub (tys' := [(cx, .byte), (cs, .int), (cp, .int), (ci, .int), (cu, .int), (cm, .int), (ct, .object "ScheduleHouse$Trial"), (d0, .byte), (d1, .int), (d2, .int), (d3, .int), (d4, .int), (d5, .boolean), (co, .long)]) [0, 1, 2, 3, 4, 5, 6, 7, 8, 9, 10, 11, 12, 13] rfl
  generalize H1 = H at hP hS ⊢
  have hP : va_P D vwCl [(tk, .inr (9, tf)), (tx, .inl (cx, 3000, .inl (fun _ => 0))), (so, .inl (cs, 702, .inl (fun _ => 0))), (pl, .inl (cp, 702, .inl (fun _ => 0))), (li, .inl (ci, 702, .inl (fun _ => 0))), (nm, .inr (6, nf)), (us, .inl (cu, 702, .inl (fun _ => 0))), (me, .inl (cm, 702, .inl (fun _ => 0))), (cd, .inr (0, cf)), (sp, .inr (8, sf)), (rd, .inr (7, rf)), (tr, .inl (ct, 2, .inr (.inr (.inr (.inr (fun _ => none)))))), (b0, .inl (d0, 3000, .inl (fun _ => 0))), (b1, .inl (d1, 710, .inl (fun _ => 0))), (b2, .inl (d2, 710, .inl (fun _ => 0))), (b3, .inl (d3, 710, .inl (fun _ => 0))), (b4, .inl (d4, 710, .inl (fun _ => 0))), (b5, .inl (d5, 2, .inl (fun _ => 0))), (o0, .inl (co, 1, .inr (.inl (fun _ => 0))))] H := hP
  have hD : va_D (fun q : Nat => s.heap.size ≤ q) [(tk, .inr (9, tf)), (tx, .inl (cx, 3000, .inl (fun _ => 0))), (so, .inl (cs, 702, .inl (fun _ => 0))), (pl, .inl (cp, 702, .inl (fun _ => 0))), (li, .inl (ci, 702, .inl (fun _ => 0))), (nm, .inr (6, nf)), (us, .inl (cu, 702, .inl (fun _ => 0))), (me, .inl (cm, 702, .inl (fun _ => 0))), (cd, .inr (0, cf)), (sp, .inr (8, sf)), (rd, .inr (7, rf)), (tr, .inl (ct, 2, .inr (.inr (.inr (.inr (fun _ => none)))))), (b0, .inl (d0, 3000, .inl (fun _ => 0))), (b1, .inl (d1, 710, .inl (fun _ => 0))), (b2, .inl (d2, 710, .inl (fun _ => 0))), (b3, .inl (d3, 710, .inl (fun _ => 0))), (b4, .inl (d4, 710, .inl (fun _ => 0))), (b5, .inl (d5, 2, .inl (fun _ => 0))), (o0, .inl (co, 1, .inr (.inl (fun _ => 0))))] := hD
  have hK : va_K D vwCl [(cx, .byte), (cs, .int), (cp, .int), (ci, .int), (cu, .int), (cm, .int), (ct, .object "ScheduleHouse$Trial"), (d0, .byte), (d1, .int), (d2, .int), (d3, .int), (d4, .int), (d5, .boolean), (co, .long)] s := hK
  subst hw
  refine lv_iload hx hb dL_law_727 (lv_at hl 1 rfl) ?_
  refine lv_icmp_eq (tgt := 734) hx hb dL_law_729 (by decide) (fun _ => ?_) (fun c9 => absurd rfl c9)
  refine lv_iload hx hb dL_law_734 (lv_at hl 1 rfl) ?_
  refine lv_if_ne (tgt := 751) hx hb dL_law_736 (by decide) (fun _ => ?_) (fun c9 => False.elim (by revert c9; decide))
  refine lv_goto (tgt := 1894) hx hb dL_law_751 (by decide) ?_
  refine W.widen (k := 2000) (n := 2000000) (Nat.le_of_ble_eq_true rfl) (Nat.le_of_ble_eq_true rfl) ?_
  exact law_tail l C0 hS (lv_sub hl [2, 6] rfl)
set_option maxHeartbeats 400000 in
set_option maxRecDepth 100000 in
theorem law_11 {p : Program} {e : Env} {s : State} {m : MethodId} {below : List Frame} {meth : Method} {c : Code} (l : Launch) (hlt : l.stackTraces = false) {b : Nat} {xs : Nat → Int32} (C0 : lw_At p s m meth c b 4 xs) (hE : ev s) (hZ : ev_Z (fun q : Nat => s.heap.size ≤ q) s s.heap) (D : va_G) (x0 tk tx so pl li nm us me cd sp rd tr m0 b0 b1 b2 b3 b4 b5 o0 : Nat) (cx cs cp ci cu cm ct d0 d1 d2 d3 d4 d5 co : ClassId) (xf tf nf cf sf rf mf : List Value) {H : Heap} {locs : List Loc} {ls : Array Slot} (hin : law_in D s H locs x0 tk tx so pl li nm us me cd sp rd tr m0 b0 b1 b2 b3 b4 b5 o0 cx cs cp ci cu cm ct d0 d1 d2 d3 d4 d5 co xf tf nf cf sf rf mf) (hl : lv_has ls 7 [(4, .int 0), (3, .ref o0), (2, .ref m0), (1, .ref x0), (0, .ref b)]) : W p l e room_1 s m #[Value.ref b] below meth c H locs 1000 1000000 (lw_Z below #[Value.ref b] s) (F0 m 754 ls []) := by
  obtain ⟨hx, hb, hr, hml, hown, hts, hX, hbl, hlocks, hgv⟩ := id C0
  have hA : ∀ q : Nat, s.heap.size ≤ q → (fun q : Nat => s.heap.size ≤ q) q := fun _ h => h
  have hbA : ¬ (fun q : Nat => s.heap.size ≤ q) b := Nat.not_le.mpr hbl
  obtain ⟨hok, hP, hD, hK, hS⟩ := hin
  obtain ⟨xf_l, xf_0, xf_1, xf_2, xf_3, xf_6, xf_9, xf_10, xf_11, xf_12, tf_l, tf_0, tf_1, tf_2, tf_3, tf_4, nf_l, nf_0, nf_1, nf_2, nf_11, cf_l, cf_0, sf_l, rf_l, rf_0, rf_1, rf_2, rf_3, mf_l, mf_z, mf_p, mf_n, mf_r0, mf_r1, mf_r2, mf_r3, mf_r4, mf_r5⟩ := hok
  have hown : s.vm.findClass RL = some m.cls := hown
  refine lv_aload_n hx hb dL_law_754 rfl (lv_at hl 3 rfl) ?_
  refine lv_aload_n hx hb dL_law_755 rfl (lv_at hl 4 rfl) ?_
  refine lv_iload hx hb dL_law_756 (lv_at hl 0 rfl) ?_
  refine lv_iconst (v := 1) hx hb dL_law_758 (by decide +kernel) ?_
  refine lv_iadd hx hb dL_law_759 ?_
  rw [show (0 + 1 : Int32) = 1 by decide]
  refine va_sld hx hb hX hbl hbA hS (i := 1) (by unfold vp_in; decide) dL_law_760 ?_
  refine lv_aload_n hx hb dL_law_761 rfl (lv_at hl 1 rfl) ?_
  have hPc := hP.sub (ws' := [(x0, .inr (11, xf))]) [0] rfl
  have hDc := hD.sub (ws' := [(x0, .inr (11, xf))]) [0] (by decide) rfl
  have hKc := hK.sub (tys' := []) [] rfl
  have hFc := va_free (wc := [(x0, .inr (11, xf))]) hD hS hA [0] rfl
  refine va_calli (vx_runSW (As := [.ref x0, .int (xs (1 : Int32).toNatClampNeg), .ref o0]) (rest := []) ⟨hx, hb, hml, hown, hts⟩ (c_L_run l D x0 o0 xf (xs (1 : Int32).toNatClampNeg) H.size hlt xf_10) (vx_cwSW 3 hts g_lw_23 rfl rfl rfl (by decide +kernel) ⟨Nat.le_of_ble_eq_true rfl, Nat.le_of_ble_eq_true rfl⟩) ⟨st_blind, fun U hU hW => ⟨rfl, st_call hU hW hPc hKc hDc hZ hS hFc hE⟩⟩ rfl rfl hl.1 rfl (lv_room (Nat.le_of_ble_eq_true rfl)) dL_law_762 ⟨Nat.le_of_ble_eq_true rfl, Nat.le_of_ble_eq_true rfl⟩) hS (fun q _ h => hFc q h) hFc (fun r1 u2 t H1 locs ht hvm hw hB hz1 hk1 hS => ?_)
  obtain ⟨hP, hD⟩ := va_join (wr := [(tk, .inr (9, tf)), (tx, .inl (cx, 3000, .inl (fun _ => 0))), (so, .inl (cs, 702, .inl (fun _ => 0))), (pl, .inl (cp, 702, .inl (fun _ => 0))), (li, .inl (ci, 702, .inl (fun _ => 0))), (nm, .inr (6, nf)), (us, .inl (cu, 702, .inl (fun _ => 0))), (me, .inl (cm, 702, .inl (fun _ => 0))), (cd, .inr (0, cf)), (sp, .inr (8, sf)), (rd, .inr (7, rf)), (tr, .inl (ct, 2, .inr (.inr (.inr (.inr (fun _ => none)))))), (m0, .inr (12, mf)), (b0, .inl (d0, 3000, .inl (fun _ => 0))), (b1, .inl (d1, 710, .inl (fun _ => 0))), (b2, .inl (d2, 710, .inl (fun _ => 0))), (b3, .inl (d3, 710, .inl (fun _ => 0))), (b4, .inl (d4, 710, .inl (fun _ => 0))), (b5, .inl (d5, 2, .inl (fun _ => 0))), (o0, .inl (co, 1, .inr (.inl (fun _ => 0))))]) (w1 := []) hP hD [0] [1, 2, 3, 4, 5, 6, 7, 8, 9, 10, 11, 12, 13, 14, 15, 16, 17, 18, 19, 20] rfl rfl (by decide) (by decide) hk1 hFc p_nil d_nil
  have hK := hK.sub (tys' := [(cx, .byte), (cs, .int), (cp, .int), (ci, .int), (cu, .int), (cm, .int), (ct, .object "ScheduleHouse$Trial"), (d0, .byte), (d1, .int), (d2, .int), (d3, .int), (d4, .int), (d5, .boolean), (co, .long)]) [0, 1, 2, 3, 4, 5, 6, 7, 8, 9, 10, 11, 12, 13] rfl
  generalize H1 = H at hP hS ⊢
  have hP : va_P D vwCl [(tk, .inr (9, tf)), (tx, .inl (cx, 3000, .inl (fun _ => 0))), (so, .inl (cs, 702, .inl (fun _ => 0))), (pl, .inl (cp, 702, .inl (fun _ => 0))), (li, .inl (ci, 702, .inl (fun _ => 0))), (nm, .inr (6, nf)), (us, .inl (cu, 702, .inl (fun _ => 0))), (me, .inl (cm, 702, .inl (fun _ => 0))), (cd, .inr (0, cf)), (sp, .inr (8, sf)), (rd, .inr (7, rf)), (tr, .inl (ct, 2, .inr (.inr (.inr (.inr (fun _ => none)))))), (m0, .inr (12, mf)), (b0, .inl (d0, 3000, .inl (fun _ => 0))), (b1, .inl (d1, 710, .inl (fun _ => 0))), (b2, .inl (d2, 710, .inl (fun _ => 0))), (b3, .inl (d3, 710, .inl (fun _ => 0))), (b4, .inl (d4, 710, .inl (fun _ => 0))), (b5, .inl (d5, 2, .inl (fun _ => 0))), (o0, .inl (co, 1, .inr (.inl (fun _ => 0))))] H := hP
  have hD : va_D (fun q : Nat => s.heap.size ≤ q) [(tk, .inr (9, tf)), (tx, .inl (cx, 3000, .inl (fun _ => 0))), (so, .inl (cs, 702, .inl (fun _ => 0))), (pl, .inl (cp, 702, .inl (fun _ => 0))), (li, .inl (ci, 702, .inl (fun _ => 0))), (nm, .inr (6, nf)), (us, .inl (cu, 702, .inl (fun _ => 0))), (me, .inl (cm, 702, .inl (fun _ => 0))), (cd, .inr (0, cf)), (sp, .inr (8, sf)), (rd, .inr (7, rf)), (tr, .inl (ct, 2, .inr (.inr (.inr (.inr (fun _ => none)))))), (m0, .inr (12, mf)), (b0, .inl (d0, 3000, .inl (fun _ => 0))), (b1, .inl (d1, 710, .inl (fun _ => 0))), (b2, .inl (d2, 710, .inl (fun _ => 0))), (b3, .inl (d3, 710, .inl (fun _ => 0))), (b4, .inl (d4, 710, .inl (fun _ => 0))), (b5, .inl (d5, 2, .inl (fun _ => 0))), (o0, .inl (co, 1, .inr (.inl (fun _ => 0))))] := hD
  have hK : va_K D vwCl [(cx, .byte), (cs, .int), (cp, .int), (ci, .int), (cu, .int), (cm, .int), (ct, .object "ScheduleHouse$Trial"), (d0, .byte), (d1, .int), (d2, .int), (d3, .int), (d4, .int), (d5, .boolean), (co, .long)] s := hK
  subst hw
  refine lv_istore (lv' := [(5, .int 1), (4, .int 0), (3, .ref o0), (2, .ref m0), (1, .ref x0), (0, .ref b)]) hx hb dL_law_765 hl (by decide) rfl (fun ls hl => ?_)
  refine lv_aload_n hx hb dL_law_767 rfl (lv_at hl 3 rfl) ?_
  refine lv_aload_n hx hb dL_law_768 rfl (lv_at hl 5 rfl) ?_
  refine lv_iload hx hb dL_law_769 (lv_at hl 1 rfl) ?_
  refine lv_iconst (v := 1) hx hb dL_law_771 (by decide +kernel) ?_
  refine lv_iadd hx hb dL_law_772 ?_
  rw [show (0 + 1 : Int32) = 1 by decide]
  refine va_sld hx hb hX hbl hbA hS (i := 1) (by unfold vp_in; decide) dL_law_773 ?_
  have hPc := hP.sub (ws' := [(m0, .inr (12, mf))]) [12] rfl
  have hDc := hD.sub (ws' := [(m0, .inr (12, mf))]) [12] (by decide) rfl
  have hKc := hK.sub (tys' := []) [] rfl
  have hFc := va_free (wc := [(m0, .inr (12, mf))]) hD hS hA [12] rfl
  refine va_calli (va_runV (As := [.int (xs (1 : Int32).toNatClampNeg)]) (rest := []) ⟨hx, hb, hml, hown, hts⟩ (c_m_run l D m0 mf (xs (1 : Int32).toNatClampNeg) H.size mf_l (mf_z 0 (by decide)) (mf_z 67 (by decide))) (cwV 1 hts g_lw_24 rfl rfl rfl (by decide +kernel) ⟨Nat.le_of_ble_eq_true rfl, Nat.le_of_ble_eq_true rfl⟩) ⟨st_blind, va_recv hKc hPc (ci := 12) (q0 := 0) rfl rfl, fun U hU hW => ⟨rfl, st_call hU hW hPc hKc hDc hZ hS hFc hE⟩⟩ rfl rfl hl.1 rfl (lv_room (Nat.le_of_ble_eq_true rfl)) dL_law_774 ⟨Nat.le_of_ble_eq_true rfl, Nat.le_of_ble_eq_true rfl⟩) hS (fun q _ h => hFc q h) hFc (fun r3 u4 t H1 locs ht hvm hw hB hz1 hk1 hS => ?_)
  have ht9 := hw
  obtain ⟨hP1, hK1, hD1⟩ := hB
  rw [ht] at hP1
  have hK1 := va_K.moved hvm.symm hK1
  obtain ⟨hP, hD⟩ := va_join (wr := [(tk, .inr (9, tf)), (tx, .inl (cx, 3000, .inl (fun _ => 0))), (so, .inl (cs, 702, .inl (fun _ => 0))), (pl, .inl (cp, 702, .inl (fun _ => 0))), (li, .inl (ci, 702, .inl (fun _ => 0))), (nm, .inr (6, nf)), (us, .inl (cu, 702, .inl (fun _ => 0))), (me, .inl (cm, 702, .inl (fun _ => 0))), (cd, .inr (0, cf)), (sp, .inr (8, sf)), (rd, .inr (7, rf)), (tr, .inl (ct, 2, .inr (.inr (.inr (.inr (fun _ => none)))))), (b0, .inl (d0, 3000, .inl (fun _ => 0))), (b1, .inl (d1, 710, .inl (fun _ => 0))), (b2, .inl (d2, 710, .inl (fun _ => 0))), (b3, .inl (d3, 710, .inl (fun _ => 0))), (b4, .inl (d4, 710, .inl (fun _ => 0))), (b5, .inl (d5, 2, .inl (fun _ => 0))), (o0, .inl (co, 1, .inr (.inl (fun _ => 0))))]) (w1 := [(m0, .inr (12, u4))]) hP hD [12] [0, 1, 2, 3, 4, 5, 6, 7, 8, 9, 10, 11, 13, 14, 15, 16, 17, 18, 19] rfl rfl (by decide) (by decide) hk1 hFc hP1 hD1
  have hK := (hK.sub (tys' := [(cx, .byte), (cs, .int), (cp, .int), (ci, .int), (cu, .int), (cm, .int), (ct, .object "ScheduleHouse$Trial"), (d0, .byte), (d1, .int), (d2, .int), (d3, .int), (d4, .int), (d5, .boolean), (co, .long)]) [0, 1, 2, 3, 4, 5, 6, 7, 8, 9, 10, 11, 12, 13] rfl).app hK1
  generalize H1 = H at hP hS ⊢
  have hP : va_P D vwCl [(tk, .inr (9, tf)), (tx, .inl (cx, 3000, .inl (fun _ => 0))), (so, .inl (cs, 702, .inl (fun _ => 0))), (pl, .inl (cp, 702, .inl (fun _ => 0))), (li, .inl (ci, 702, .inl (fun _ => 0))), (nm, .inr (6, nf)), (us, .inl (cu, 702, .inl (fun _ => 0))), (me, .inl (cm, 702, .inl (fun _ => 0))), (cd, .inr (0, cf)), (sp, .inr (8, sf)), (rd, .inr (7, rf)), (tr, .inl (ct, 2, .inr (.inr (.inr (.inr (fun _ => none)))))), (b0, .inl (d0, 3000, .inl (fun _ => 0))), (b1, .inl (d1, 710, .inl (fun _ => 0))), (b2, .inl (d2, 710, .inl (fun _ => 0))), (b3, .inl (d3, 710, .inl (fun _ => 0))), (b4, .inl (d4, 710, .inl (fun _ => 0))), (b5, .inl (d5, 2, .inl (fun _ => 0))), (o0, .inl (co, 1, .inr (.inl (fun _ => 0)))), (m0, .inr (12, u4))] H := hP
  have hD : va_D (fun q : Nat => s.heap.size ≤ q) [(tk, .inr (9, tf)), (tx, .inl (cx, 3000, .inl (fun _ => 0))), (so, .inl (cs, 702, .inl (fun _ => 0))), (pl, .inl (cp, 702, .inl (fun _ => 0))), (li, .inl (ci, 702, .inl (fun _ => 0))), (nm, .inr (6, nf)), (us, .inl (cu, 702, .inl (fun _ => 0))), (me, .inl (cm, 702, .inl (fun _ => 0))), (cd, .inr (0, cf)), (sp, .inr (8, sf)), (rd, .inr (7, rf)), (tr, .inl (ct, 2, .inr (.inr (.inr (.inr (fun _ => none)))))), (b0, .inl (d0, 3000, .inl (fun _ => 0))), (b1, .inl (d1, 710, .inl (fun _ => 0))), (b2, .inl (d2, 710, .inl (fun _ => 0))), (b3, .inl (d3, 710, .inl (fun _ => 0))), (b4, .inl (d4, 710, .inl (fun _ => 0))), (b5, .inl (d5, 2, .inl (fun _ => 0))), (o0, .inl (co, 1, .inr (.inl (fun _ => 0)))), (m0, .inr (12, u4))] := hD
  have hK : va_K D vwCl [(cx, .byte), (cs, .int), (cp, .int), (ci, .int), (cu, .int), (cm, .int), (ct, .object "ScheduleHouse$Trial"), (d0, .byte), (d1, .int), (d2, .int), (d3, .int), (d4, .int), (d5, .boolean), (co, .long)] s := hK
  refine lv_istore (lv' := [(6, .int r3), (5, .int 1), (4, .int 0), (3, .ref o0), (2, .ref m0), (1, .ref x0), (0, .ref b)]) hx hb dL_law_777 hl (by decide) rfl (fun ls hl => ?_)
  refine lv_aload_n hx hb dL_law_779 rfl (lv_at hl 4 rfl) ?_
  have hPc := hP.sub (ws' := [(m0, .inr (12, u4))]) [19] rfl
  have hDc := hD.sub (ws' := [(m0, .inr (12, u4))]) [19] (by decide) rfl
  have hKc := hK.sub (tys' := []) [] rfl
  have hFc := va_free (wc := [(m0, .inr (12, u4))]) hD hS hA [19] rfl
  refine va_calli (va_runV (As := []) (rest := []) ⟨hx, hb, hml, hown, hts⟩ (c_m_thrown l D m0 u4 1 H.size ht9) (cwV 0 hts g_lw_2 rfl rfl rfl (by decide +kernel) ⟨Nat.le_of_ble_eq_true rfl, Nat.le_of_ble_eq_true rfl⟩) ⟨st_blind, va_recv hKc hPc (ci := 12) (q0 := 0) rfl rfl, fun U hU hW => ⟨rfl, st_call hU hW hPc hKc hDc hZ hS hFc hE⟩⟩ rfl rfl hl.1 rfl (lv_room (Nat.le_of_ble_eq_true rfl)) dL_law_780 ⟨Nat.le_of_ble_eq_true rfl, Nat.le_of_ble_eq_true rfl⟩) hS (fun q _ h => hFc q h) hFc (fun r5 u6 t H1 locs ht hvm hw hB hz1 hk1 hS => ?_)
  obtain ⟨hP, hD⟩ := va_join (wr := [(tk, .inr (9, tf)), (tx, .inl (cx, 3000, .inl (fun _ => 0))), (so, .inl (cs, 702, .inl (fun _ => 0))), (pl, .inl (cp, 702, .inl (fun _ => 0))), (li, .inl (ci, 702, .inl (fun _ => 0))), (nm, .inr (6, nf)), (us, .inl (cu, 702, .inl (fun _ => 0))), (me, .inl (cm, 702, .inl (fun _ => 0))), (cd, .inr (0, cf)), (sp, .inr (8, sf)), (rd, .inr (7, rf)), (tr, .inl (ct, 2, .inr (.inr (.inr (.inr (fun _ => none)))))), (b0, .inl (d0, 3000, .inl (fun _ => 0))), (b1, .inl (d1, 710, .inl (fun _ => 0))), (b2, .inl (d2, 710, .inl (fun _ => 0))), (b3, .inl (d3, 710, .inl (fun _ => 0))), (b4, .inl (d4, 710, .inl (fun _ => 0))), (b5, .inl (d5, 2, .inl (fun _ => 0))), (o0, .inl (co, 1, .inr (.inl (fun _ => 0))))]) (w1 := []) hP hD [19] [0, 1, 2, 3, 4, 5, 6, 7, 8, 9, 10, 11, 12, 13, 14, 15, 16, 17, 18] rfl rfl (by decide) (by decide) hk1 hFc p_nil d_nil
  have hK := hK.sub (tys' := [(cx, .byte), (cs, .int), (cp, .int), (ci, .int), (cu, .int), (cm, .int), (ct, .object "ScheduleHouse$Trial"), (d0, .byte), (d1, .int), (d2, .int), (d3, .int), (d4, .int), (d5, .boolean), (co, .long)]) [0, 1, 2, 3, 4, 5, 6, 7, 8, 9, 10, 11, 12, 13] rfl
  generalize H1 = H at hP hS ⊢
  have hP : va_P D vwCl [(tk, .inr (9, tf)), (tx, .inl (cx, 3000, .inl (fun _ => 0))), (so, .inl (cs, 702, .inl (fun _ => 0))), (pl, .inl (cp, 702, .inl (fun _ => 0))), (li, .inl (ci, 702, .inl (fun _ => 0))), (nm, .inr (6, nf)), (us, .inl (cu, 702, .inl (fun _ => 0))), (me, .inl (cm, 702, .inl (fun _ => 0))), (cd, .inr (0, cf)), (sp, .inr (8, sf)), (rd, .inr (7, rf)), (tr, .inl (ct, 2, .inr (.inr (.inr (.inr (fun _ => none)))))), (b0, .inl (d0, 3000, .inl (fun _ => 0))), (b1, .inl (d1, 710, .inl (fun _ => 0))), (b2, .inl (d2, 710, .inl (fun _ => 0))), (b3, .inl (d3, 710, .inl (fun _ => 0))), (b4, .inl (d4, 710, .inl (fun _ => 0))), (b5, .inl (d5, 2, .inl (fun _ => 0))), (o0, .inl (co, 1, .inr (.inl (fun _ => 0))))] H := hP
  have hD : va_D (fun q : Nat => s.heap.size ≤ q) [(tk, .inr (9, tf)), (tx, .inl (cx, 3000, .inl (fun _ => 0))), (so, .inl (cs, 702, .inl (fun _ => 0))), (pl, .inl (cp, 702, .inl (fun _ => 0))), (li, .inl (ci, 702, .inl (fun _ => 0))), (nm, .inr (6, nf)), (us, .inl (cu, 702, .inl (fun _ => 0))), (me, .inl (cm, 702, .inl (fun _ => 0))), (cd, .inr (0, cf)), (sp, .inr (8, sf)), (rd, .inr (7, rf)), (tr, .inl (ct, 2, .inr (.inr (.inr (.inr (fun _ => none)))))), (b0, .inl (d0, 3000, .inl (fun _ => 0))), (b1, .inl (d1, 710, .inl (fun _ => 0))), (b2, .inl (d2, 710, .inl (fun _ => 0))), (b3, .inl (d3, 710, .inl (fun _ => 0))), (b4, .inl (d4, 710, .inl (fun _ => 0))), (b5, .inl (d5, 2, .inl (fun _ => 0))), (o0, .inl (co, 1, .inr (.inl (fun _ => 0))))] := hD
  have hK : va_K D vwCl [(cx, .byte), (cs, .int), (cp, .int), (ci, .int), (cu, .int), (cm, .int), (ct, .object "ScheduleHouse$Trial"), (d0, .byte), (d1, .int), (d2, .int), (d3, .int), (d4, .int), (d5, .boolean), (co, .long)] s := hK
  subst hw
  refine lv_iload hx hb dL_law_783 (lv_at hl 1 rfl) ?_
  refine lv_icmp_eq (tgt := 790) hx hb dL_law_785 (by decide) (fun _ => ?_) (fun c9 => absurd rfl c9)
  refine lv_iload hx hb dL_law_790 (lv_at hl 1 rfl) ?_
  refine lv_if_ne (tgt := 807) hx hb dL_law_792 (by decide) (fun _ => ?_) (fun c9 => False.elim (by revert c9; decide))
  refine lv_goto (tgt := 1894) hx hb dL_law_807 (by decide) ?_
  refine W.widen (k := 2000) (n := 2000000) (Nat.le_of_ble_eq_true rfl) (Nat.le_of_ble_eq_true rfl) ?_
  exact law_tail l C0 hS (lv_sub hl [2, 6] rfl)
set_option maxHeartbeats 400000 in
set_option maxRecDepth 100000 in
theorem law_12 {p : Program} {e : Env} {s : State} {m : MethodId} {below : List Frame} {meth : Method} {c : Code} (l : Launch) (hlt : l.stackTraces = false) {b : Nat} {xs : Nat → Int32} (C0 : lw_At p s m meth c b 4 xs) (hE : ev s) (hZ : ev_Z (fun q : Nat => s.heap.size ≤ q) s s.heap) (D : va_G) (x0 tk tx so pl li nm us me cd sp rd tr m0 b0 b1 b2 b3 b4 b5 o0 : Nat) (cx cs cp ci cu cm ct d0 d1 d2 d3 d4 d5 co : ClassId) (xf tf nf cf sf rf mf : List Value) {H : Heap} {locs : List Loc} {ls : Array Slot} (hin : law_in D s H locs x0 tk tx so pl li nm us me cd sp rd tr m0 b0 b1 b2 b3 b4 b5 o0 cx cs cp ci cu cm ct d0 d1 d2 d3 d4 d5 co xf tf nf cf sf rf mf) (hl : lv_has ls 7 [(4, .int 0), (3, .ref o0), (2, .ref m0), (1, .ref x0), (0, .ref b)]) : W p l e room_1 s m #[Value.ref b] below meth c H locs 1000 1000000 (lw_Z below #[Value.ref b] s) (F0 m 810 ls []) := by
  obtain ⟨hx, hb, hr, hml, hown, hts, hX, hbl, hlocks, hgv⟩ := id C0
  have hA : ∀ q : Nat, s.heap.size ≤ q → (fun q : Nat => s.heap.size ≤ q) q := fun _ h => h
  have hbA : ¬ (fun q : Nat => s.heap.size ≤ q) b := Nat.not_le.mpr hbl
  obtain ⟨hok, hP, hD, hK, hS⟩ := hin
  obtain ⟨xf_l, xf_0, xf_1, xf_2, xf_3, xf_6, xf_9, xf_10, xf_11, xf_12, tf_l, tf_0, tf_1, tf_2, tf_3, tf_4, nf_l, nf_0, nf_1, nf_2, nf_11, cf_l, cf_0, sf_l, rf_l, rf_0, rf_1, rf_2, rf_3, mf_l, mf_z, mf_p, mf_n, mf_r0, mf_r1, mf_r2, mf_r3, mf_r4, mf_r5⟩ := hok
  have hown : s.vm.findClass RL = some m.cls := hown
  refine lv_aload_n hx hb dL_law_810 rfl (lv_at hl 3 rfl) ?_
  refine lv_aload_n hx hb dL_law_811 rfl (lv_at hl 4 rfl) ?_
  refine lv_iload hx hb dL_law_812 (lv_at hl 0 rfl) ?_
  refine lv_iconst (v := 1) hx hb dL_law_814 (by decide +kernel) ?_
  refine lv_iadd hx hb dL_law_815 ?_
  rw [show (0 + 1 : Int32) = 1 by decide]
  refine va_sld hx hb hX hbl hbA hS (i := 1) (by unfold vp_in; decide) dL_law_816 ?_
  refine lv_aload_n hx hb dL_law_817 rfl (lv_at hl 1 rfl) ?_
  have hPc := hP.sub (ws' := [(x0, .inr (11, xf))]) [0] rfl
  have hDc := hD.sub (ws' := [(x0, .inr (11, xf))]) [0] (by decide) rfl
  have hKc := hK.sub (tys' := []) [] rfl
  have hFc := va_free (wc := [(x0, .inr (11, xf))]) hD hS hA [0] rfl
  refine va_calli (vx_runSW (As := [.ref x0, .int (xs (1 : Int32).toNatClampNeg), .ref o0]) (rest := []) ⟨hx, hb, hml, hown, hts⟩ (c_L_cell l D x0 o0 xf (xs (1 : Int32).toNatClampNeg) H.size hlt xf_10) (vx_cwSW 3 hts g_lw_25 rfl rfl rfl (by decide +kernel) ⟨Nat.le_of_ble_eq_true rfl, Nat.le_of_ble_eq_true rfl⟩) ⟨st_blind, fun U hU hW => ⟨rfl, st_call hU hW hPc hKc hDc hZ hS hFc hE⟩⟩ rfl rfl hl.1 rfl (lv_room (Nat.le_of_ble_eq_true rfl)) dL_law_818 ⟨Nat.le_of_ble_eq_true rfl, Nat.le_of_ble_eq_true rfl⟩) hS (fun q _ h => hFc q h) hFc (fun r1 u2 t H1 locs ht hvm hw hB hz1 hk1 hS => ?_)
  obtain ⟨hP, hD⟩ := va_join (wr := [(tk, .inr (9, tf)), (tx, .inl (cx, 3000, .inl (fun _ => 0))), (so, .inl (cs, 702, .inl (fun _ => 0))), (pl, .inl (cp, 702, .inl (fun _ => 0))), (li, .inl (ci, 702, .inl (fun _ => 0))), (nm, .inr (6, nf)), (us, .inl (cu, 702, .inl (fun _ => 0))), (me, .inl (cm, 702, .inl (fun _ => 0))), (cd, .inr (0, cf)), (sp, .inr (8, sf)), (rd, .inr (7, rf)), (tr, .inl (ct, 2, .inr (.inr (.inr (.inr (fun _ => none)))))), (m0, .inr (12, mf)), (b0, .inl (d0, 3000, .inl (fun _ => 0))), (b1, .inl (d1, 710, .inl (fun _ => 0))), (b2, .inl (d2, 710, .inl (fun _ => 0))), (b3, .inl (d3, 710, .inl (fun _ => 0))), (b4, .inl (d4, 710, .inl (fun _ => 0))), (b5, .inl (d5, 2, .inl (fun _ => 0))), (o0, .inl (co, 1, .inr (.inl (fun _ => 0))))]) (w1 := []) hP hD [0] [1, 2, 3, 4, 5, 6, 7, 8, 9, 10, 11, 12, 13, 14, 15, 16, 17, 18, 19, 20] rfl rfl (by decide) (by decide) hk1 hFc p_nil d_nil
  have hK := hK.sub (tys' := [(cx, .byte), (cs, .int), (cp, .int), (ci, .int), (cu, .int), (cm, .int), (ct, .object "ScheduleHouse$Trial"), (d0, .byte), (d1, .int), (d2, .int), (d3, .int), (d4, .int), (d5, .boolean), (co, .long)]) [0, 1, 2, 3, 4, 5, 6, 7, 8, 9, 10, 11, 12, 13] rfl
  generalize H1 = H at hP hS ⊢
  have hP : va_P D vwCl [(tk, .inr (9, tf)), (tx, .inl (cx, 3000, .inl (fun _ => 0))), (so, .inl (cs, 702, .inl (fun _ => 0))), (pl, .inl (cp, 702, .inl (fun _ => 0))), (li, .inl (ci, 702, .inl (fun _ => 0))), (nm, .inr (6, nf)), (us, .inl (cu, 702, .inl (fun _ => 0))), (me, .inl (cm, 702, .inl (fun _ => 0))), (cd, .inr (0, cf)), (sp, .inr (8, sf)), (rd, .inr (7, rf)), (tr, .inl (ct, 2, .inr (.inr (.inr (.inr (fun _ => none)))))), (m0, .inr (12, mf)), (b0, .inl (d0, 3000, .inl (fun _ => 0))), (b1, .inl (d1, 710, .inl (fun _ => 0))), (b2, .inl (d2, 710, .inl (fun _ => 0))), (b3, .inl (d3, 710, .inl (fun _ => 0))), (b4, .inl (d4, 710, .inl (fun _ => 0))), (b5, .inl (d5, 2, .inl (fun _ => 0))), (o0, .inl (co, 1, .inr (.inl (fun _ => 0))))] H := hP
  have hD : va_D (fun q : Nat => s.heap.size ≤ q) [(tk, .inr (9, tf)), (tx, .inl (cx, 3000, .inl (fun _ => 0))), (so, .inl (cs, 702, .inl (fun _ => 0))), (pl, .inl (cp, 702, .inl (fun _ => 0))), (li, .inl (ci, 702, .inl (fun _ => 0))), (nm, .inr (6, nf)), (us, .inl (cu, 702, .inl (fun _ => 0))), (me, .inl (cm, 702, .inl (fun _ => 0))), (cd, .inr (0, cf)), (sp, .inr (8, sf)), (rd, .inr (7, rf)), (tr, .inl (ct, 2, .inr (.inr (.inr (.inr (fun _ => none)))))), (m0, .inr (12, mf)), (b0, .inl (d0, 3000, .inl (fun _ => 0))), (b1, .inl (d1, 710, .inl (fun _ => 0))), (b2, .inl (d2, 710, .inl (fun _ => 0))), (b3, .inl (d3, 710, .inl (fun _ => 0))), (b4, .inl (d4, 710, .inl (fun _ => 0))), (b5, .inl (d5, 2, .inl (fun _ => 0))), (o0, .inl (co, 1, .inr (.inl (fun _ => 0))))] := hD
  have hK : va_K D vwCl [(cx, .byte), (cs, .int), (cp, .int), (ci, .int), (cu, .int), (cm, .int), (ct, .object "ScheduleHouse$Trial"), (d0, .byte), (d1, .int), (d2, .int), (d3, .int), (d4, .int), (d5, .boolean), (co, .long)] s := hK
  subst hw
  refine lv_istore (lv' := [(5, .int 1), (4, .int 0), (3, .ref o0), (2, .ref m0), (1, .ref x0), (0, .ref b)]) hx hb dL_law_821 hl (by decide) rfl (fun ls hl => ?_)
  refine lv_aload_n hx hb dL_law_823 rfl (lv_at hl 3 rfl) ?_
  refine lv_aload_n hx hb dL_law_824 rfl (lv_at hl 5 rfl) ?_
  refine lv_iload hx hb dL_law_825 (lv_at hl 1 rfl) ?_
  refine lv_iconst (v := 1) hx hb dL_law_827 (by decide +kernel) ?_
  refine lv_iadd hx hb dL_law_828 ?_
  rw [show (0 + 1 : Int32) = 1 by decide]
  refine va_sld hx hb hX hbl hbA hS (i := 1) (by unfold vp_in; decide) dL_law_829 ?_
  have hPc := hP.sub (ws' := [(m0, .inr (12, mf))]) [12] rfl
  have hDc := hD.sub (ws' := [(m0, .inr (12, mf))]) [12] (by decide) rfl
  have hKc := hK.sub (tys' := []) [] rfl
  have hFc := va_free (wc := [(m0, .inr (12, mf))]) hD hS hA [12] rfl
  refine va_calli (va_runV (As := [.int (xs (1 : Int32).toNatClampNeg)]) (rest := []) ⟨hx, hb, hml, hown, hts⟩ (c_m_cell l D m0 mf (xs (1 : Int32).toNatClampNeg) H.size mf_l (mf_z 0 (by decide)) (mf_z 67 (by decide))) (cwV 1 hts g_lw_26 rfl rfl rfl (by decide +kernel) ⟨Nat.le_of_ble_eq_true rfl, Nat.le_of_ble_eq_true rfl⟩) ⟨st_blind, va_recv hKc hPc (ci := 12) (q0 := 0) rfl rfl, fun U hU hW => ⟨rfl, st_call hU hW hPc hKc hDc hZ hS hFc hE⟩⟩ rfl rfl hl.1 rfl (lv_room (Nat.le_of_ble_eq_true rfl)) dL_law_830 ⟨Nat.le_of_ble_eq_true rfl, Nat.le_of_ble_eq_true rfl⟩) hS (fun q _ h => hFc q h) hFc (fun r3 u4 t H1 locs ht hvm hw hB hz1 hk1 hS => ?_)
  have ht9 := hw
  obtain ⟨hP1, hK1, hD1⟩ := hB
  rw [ht] at hP1
  have hK1 := va_K.moved hvm.symm hK1
  obtain ⟨hP, hD⟩ := va_join (wr := [(tk, .inr (9, tf)), (tx, .inl (cx, 3000, .inl (fun _ => 0))), (so, .inl (cs, 702, .inl (fun _ => 0))), (pl, .inl (cp, 702, .inl (fun _ => 0))), (li, .inl (ci, 702, .inl (fun _ => 0))), (nm, .inr (6, nf)), (us, .inl (cu, 702, .inl (fun _ => 0))), (me, .inl (cm, 702, .inl (fun _ => 0))), (cd, .inr (0, cf)), (sp, .inr (8, sf)), (rd, .inr (7, rf)), (tr, .inl (ct, 2, .inr (.inr (.inr (.inr (fun _ => none)))))), (b0, .inl (d0, 3000, .inl (fun _ => 0))), (b1, .inl (d1, 710, .inl (fun _ => 0))), (b2, .inl (d2, 710, .inl (fun _ => 0))), (b3, .inl (d3, 710, .inl (fun _ => 0))), (b4, .inl (d4, 710, .inl (fun _ => 0))), (b5, .inl (d5, 2, .inl (fun _ => 0))), (o0, .inl (co, 1, .inr (.inl (fun _ => 0))))]) (w1 := [(m0, .inr (12, u4))]) hP hD [12] [0, 1, 2, 3, 4, 5, 6, 7, 8, 9, 10, 11, 13, 14, 15, 16, 17, 18, 19] rfl rfl (by decide) (by decide) hk1 hFc hP1 hD1
  have hK := (hK.sub (tys' := [(cx, .byte), (cs, .int), (cp, .int), (ci, .int), (cu, .int), (cm, .int), (ct, .object "ScheduleHouse$Trial"), (d0, .byte), (d1, .int), (d2, .int), (d3, .int), (d4, .int), (d5, .boolean), (co, .long)]) [0, 1, 2, 3, 4, 5, 6, 7, 8, 9, 10, 11, 12, 13] rfl).app hK1
  generalize H1 = H at hP hS ⊢
  have hP : va_P D vwCl [(tk, .inr (9, tf)), (tx, .inl (cx, 3000, .inl (fun _ => 0))), (so, .inl (cs, 702, .inl (fun _ => 0))), (pl, .inl (cp, 702, .inl (fun _ => 0))), (li, .inl (ci, 702, .inl (fun _ => 0))), (nm, .inr (6, nf)), (us, .inl (cu, 702, .inl (fun _ => 0))), (me, .inl (cm, 702, .inl (fun _ => 0))), (cd, .inr (0, cf)), (sp, .inr (8, sf)), (rd, .inr (7, rf)), (tr, .inl (ct, 2, .inr (.inr (.inr (.inr (fun _ => none)))))), (b0, .inl (d0, 3000, .inl (fun _ => 0))), (b1, .inl (d1, 710, .inl (fun _ => 0))), (b2, .inl (d2, 710, .inl (fun _ => 0))), (b3, .inl (d3, 710, .inl (fun _ => 0))), (b4, .inl (d4, 710, .inl (fun _ => 0))), (b5, .inl (d5, 2, .inl (fun _ => 0))), (o0, .inl (co, 1, .inr (.inl (fun _ => 0)))), (m0, .inr (12, u4))] H := hP
  have hD : va_D (fun q : Nat => s.heap.size ≤ q) [(tk, .inr (9, tf)), (tx, .inl (cx, 3000, .inl (fun _ => 0))), (so, .inl (cs, 702, .inl (fun _ => 0))), (pl, .inl (cp, 702, .inl (fun _ => 0))), (li, .inl (ci, 702, .inl (fun _ => 0))), (nm, .inr (6, nf)), (us, .inl (cu, 702, .inl (fun _ => 0))), (me, .inl (cm, 702, .inl (fun _ => 0))), (cd, .inr (0, cf)), (sp, .inr (8, sf)), (rd, .inr (7, rf)), (tr, .inl (ct, 2, .inr (.inr (.inr (.inr (fun _ => none)))))), (b0, .inl (d0, 3000, .inl (fun _ => 0))), (b1, .inl (d1, 710, .inl (fun _ => 0))), (b2, .inl (d2, 710, .inl (fun _ => 0))), (b3, .inl (d3, 710, .inl (fun _ => 0))), (b4, .inl (d4, 710, .inl (fun _ => 0))), (b5, .inl (d5, 2, .inl (fun _ => 0))), (o0, .inl (co, 1, .inr (.inl (fun _ => 0)))), (m0, .inr (12, u4))] := hD
  have hK : va_K D vwCl [(cx, .byte), (cs, .int), (cp, .int), (ci, .int), (cu, .int), (cm, .int), (ct, .object "ScheduleHouse$Trial"), (d0, .byte), (d1, .int), (d2, .int), (d3, .int), (d4, .int), (d5, .boolean), (co, .long)] s := hK
  refine lv_istore (lv' := [(6, .int r3), (5, .int 1), (4, .int 0), (3, .ref o0), (2, .ref m0), (1, .ref x0), (0, .ref b)]) hx hb dL_law_833 hl (by decide) rfl (fun ls hl => ?_)
  refine lv_aload_n hx hb dL_law_835 rfl (lv_at hl 4 rfl) ?_
  have hPc := hP.sub (ws' := [(m0, .inr (12, u4))]) [19] rfl
  have hDc := hD.sub (ws' := [(m0, .inr (12, u4))]) [19] (by decide) rfl
  have hKc := hK.sub (tys' := []) [] rfl
  have hFc := va_free (wc := [(m0, .inr (12, u4))]) hD hS hA [19] rfl
  refine va_calli (va_runV (As := []) (rest := []) ⟨hx, hb, hml, hown, hts⟩ (c_m_thrown l D m0 u4 1 H.size ht9) (cwV 0 hts g_lw_2 rfl rfl rfl (by decide +kernel) ⟨Nat.le_of_ble_eq_true rfl, Nat.le_of_ble_eq_true rfl⟩) ⟨st_blind, va_recv hKc hPc (ci := 12) (q0 := 0) rfl rfl, fun U hU hW => ⟨rfl, st_call hU hW hPc hKc hDc hZ hS hFc hE⟩⟩ rfl rfl hl.1 rfl (lv_room (Nat.le_of_ble_eq_true rfl)) dL_law_836 ⟨Nat.le_of_ble_eq_true rfl, Nat.le_of_ble_eq_true rfl⟩) hS (fun q _ h => hFc q h) hFc (fun r5 u6 t H1 locs ht hvm hw hB hz1 hk1 hS => ?_)
  obtain ⟨hP, hD⟩ := va_join (wr := [(tk, .inr (9, tf)), (tx, .inl (cx, 3000, .inl (fun _ => 0))), (so, .inl (cs, 702, .inl (fun _ => 0))), (pl, .inl (cp, 702, .inl (fun _ => 0))), (li, .inl (ci, 702, .inl (fun _ => 0))), (nm, .inr (6, nf)), (us, .inl (cu, 702, .inl (fun _ => 0))), (me, .inl (cm, 702, .inl (fun _ => 0))), (cd, .inr (0, cf)), (sp, .inr (8, sf)), (rd, .inr (7, rf)), (tr, .inl (ct, 2, .inr (.inr (.inr (.inr (fun _ => none)))))), (b0, .inl (d0, 3000, .inl (fun _ => 0))), (b1, .inl (d1, 710, .inl (fun _ => 0))), (b2, .inl (d2, 710, .inl (fun _ => 0))), (b3, .inl (d3, 710, .inl (fun _ => 0))), (b4, .inl (d4, 710, .inl (fun _ => 0))), (b5, .inl (d5, 2, .inl (fun _ => 0))), (o0, .inl (co, 1, .inr (.inl (fun _ => 0))))]) (w1 := []) hP hD [19] [0, 1, 2, 3, 4, 5, 6, 7, 8, 9, 10, 11, 12, 13, 14, 15, 16, 17, 18] rfl rfl (by decide) (by decide) hk1 hFc p_nil d_nil
  have hK := hK.sub (tys' := [(cx, .byte), (cs, .int), (cp, .int), (ci, .int), (cu, .int), (cm, .int), (ct, .object "ScheduleHouse$Trial"), (d0, .byte), (d1, .int), (d2, .int), (d3, .int), (d4, .int), (d5, .boolean), (co, .long)]) [0, 1, 2, 3, 4, 5, 6, 7, 8, 9, 10, 11, 12, 13] rfl
  generalize H1 = H at hP hS ⊢
  have hP : va_P D vwCl [(tk, .inr (9, tf)), (tx, .inl (cx, 3000, .inl (fun _ => 0))), (so, .inl (cs, 702, .inl (fun _ => 0))), (pl, .inl (cp, 702, .inl (fun _ => 0))), (li, .inl (ci, 702, .inl (fun _ => 0))), (nm, .inr (6, nf)), (us, .inl (cu, 702, .inl (fun _ => 0))), (me, .inl (cm, 702, .inl (fun _ => 0))), (cd, .inr (0, cf)), (sp, .inr (8, sf)), (rd, .inr (7, rf)), (tr, .inl (ct, 2, .inr (.inr (.inr (.inr (fun _ => none)))))), (b0, .inl (d0, 3000, .inl (fun _ => 0))), (b1, .inl (d1, 710, .inl (fun _ => 0))), (b2, .inl (d2, 710, .inl (fun _ => 0))), (b3, .inl (d3, 710, .inl (fun _ => 0))), (b4, .inl (d4, 710, .inl (fun _ => 0))), (b5, .inl (d5, 2, .inl (fun _ => 0))), (o0, .inl (co, 1, .inr (.inl (fun _ => 0))))] H := hP
  have hD : va_D (fun q : Nat => s.heap.size ≤ q) [(tk, .inr (9, tf)), (tx, .inl (cx, 3000, .inl (fun _ => 0))), (so, .inl (cs, 702, .inl (fun _ => 0))), (pl, .inl (cp, 702, .inl (fun _ => 0))), (li, .inl (ci, 702, .inl (fun _ => 0))), (nm, .inr (6, nf)), (us, .inl (cu, 702, .inl (fun _ => 0))), (me, .inl (cm, 702, .inl (fun _ => 0))), (cd, .inr (0, cf)), (sp, .inr (8, sf)), (rd, .inr (7, rf)), (tr, .inl (ct, 2, .inr (.inr (.inr (.inr (fun _ => none)))))), (b0, .inl (d0, 3000, .inl (fun _ => 0))), (b1, .inl (d1, 710, .inl (fun _ => 0))), (b2, .inl (d2, 710, .inl (fun _ => 0))), (b3, .inl (d3, 710, .inl (fun _ => 0))), (b4, .inl (d4, 710, .inl (fun _ => 0))), (b5, .inl (d5, 2, .inl (fun _ => 0))), (o0, .inl (co, 1, .inr (.inl (fun _ => 0))))] := hD
  have hK : va_K D vwCl [(cx, .byte), (cs, .int), (cp, .int), (ci, .int), (cu, .int), (cm, .int), (ct, .object "ScheduleHouse$Trial"), (d0, .byte), (d1, .int), (d2, .int), (d3, .int), (d4, .int), (d5, .boolean), (co, .long)] s := hK
  subst hw
  refine lv_iload hx hb dL_law_839 (lv_at hl 1 rfl) ?_
  refine lv_icmp_eq (tgt := 846) hx hb dL_law_841 (by decide) (fun _ => ?_) (fun c9 => absurd rfl c9)
  refine lv_iload hx hb dL_law_846 (lv_at hl 1 rfl) ?_
  refine lv_if_ne (tgt := 863) hx hb dL_law_848 (by decide) (fun _ => ?_) (fun c9 => False.elim (by revert c9; decide))
  refine lv_goto (tgt := 1894) hx hb dL_law_863 (by decide) ?_
  refine W.widen (k := 2000) (n := 2000000) (Nat.le_of_ble_eq_true rfl) (Nat.le_of_ble_eq_true rfl) ?_
  exact law_tail l C0 hS (lv_sub hl [2, 6] rfl)
set_option maxHeartbeats 400000 in
set_option maxRecDepth 100000 in
theorem law_13 {p : Program} {e : Env} {s : State} {m : MethodId} {below : List Frame} {meth : Method} {c : Code} (l : Launch) (hlt : l.stackTraces = false) {b : Nat} {xs : Nat → Int32} (C0 : lw_At p s m meth c b 4 xs) (hE : ev s) (hZ : ev_Z (fun q : Nat => s.heap.size ≤ q) s s.heap) (D : va_G) (x0 tk tx so pl li nm us me cd sp rd tr m0 b0 b1 b2 b3 b4 b5 o0 : Nat) (cx cs cp ci cu cm ct d0 d1 d2 d3 d4 d5 co : ClassId) (xf tf nf cf sf rf mf : List Value) {H : Heap} {locs : List Loc} {ls : Array Slot} (hin : law_in D s H locs x0 tk tx so pl li nm us me cd sp rd tr m0 b0 b1 b2 b3 b4 b5 o0 cx cs cp ci cu cm ct d0 d1 d2 d3 d4 d5 co xf tf nf cf sf rf mf) (hl : lv_has ls 7 [(4, .int 0), (3, .ref o0), (2, .ref m0), (1, .ref x0), (0, .ref b)]) : W p l e room_1 s m #[Value.ref b] below meth c H locs 1000 1000000 (lw_Z below #[Value.ref b] s) (F0 m 866 ls []) := by
  obtain ⟨hx, hb, hr, hml, hown, hts, hX, hbl, hlocks, hgv⟩ := id C0
  have hA : ∀ q : Nat, s.heap.size ≤ q → (fun q : Nat => s.heap.size ≤ q) q := fun _ h => h
  have hbA : ¬ (fun q : Nat => s.heap.size ≤ q) b := Nat.not_le.mpr hbl
  obtain ⟨hok, hP, hD, hK, hS⟩ := hin
  obtain ⟨xf_l, xf_0, xf_1, xf_2, xf_3, xf_6, xf_9, xf_10, xf_11, xf_12, tf_l, tf_0, tf_1, tf_2, tf_3, tf_4, nf_l, nf_0, nf_1, nf_2, nf_11, cf_l, cf_0, sf_l, rf_l, rf_0, rf_1, rf_2, rf_3, mf_l, mf_z, mf_p, mf_n, mf_r0, mf_r1, mf_r2, mf_r3, mf_r4, mf_r5⟩ := hok
  have hown : s.vm.findClass RL = some m.cls := hown
  refine lv_aload_n hx hb dL_law_866 rfl (lv_at hl 3 rfl) ?_
  refine lv_aload_n hx hb dL_law_867 rfl (lv_at hl 4 rfl) ?_
  refine lv_iload hx hb dL_law_868 (lv_at hl 0 rfl) ?_
  refine lv_iconst (v := 1) hx hb dL_law_870 (by decide +kernel) ?_
  refine lv_iadd hx hb dL_law_871 ?_
  rw [show (0 + 1 : Int32) = 1 by decide]
  refine va_sld hx hb hX hbl hbA hS (i := 1) (by unfold vp_in; decide) dL_law_872 ?_
  refine lv_aload_n hx hb dL_law_873 rfl (lv_at hl 4 rfl) ?_
  refine lv_iload hx hb dL_law_874 (lv_at hl 0 rfl) ?_
  refine lv_iconst (v := 2) hx hb dL_law_876 (by decide +kernel) ?_
  refine lv_iadd hx hb dL_law_877 ?_
  rw [show (0 + 2 : Int32) = 2 by decide]
  refine va_sld hx hb hX hbl hbA hS (i := 2) (by unfold vp_in; decide) dL_law_878 ?_
  refine lv_aload_n hx hb dL_law_879 rfl (lv_at hl 1 rfl) ?_
  have hPc := hP.sub (ws' := [(x0, .inr (11, xf))]) [0] rfl
  have hDc := hD.sub (ws' := [(x0, .inr (11, xf))]) [0] (by decide) rfl
  have hKc := hK.sub (tys' := []) [] rfl
  have hFc := va_free (wc := [(x0, .inr (11, xf))]) hD hS hA [0] rfl
  refine va_calli (vx_runSW (As := [.ref x0, .int (xs (1 : Int32).toNatClampNeg), .int (xs (2 : Int32).toNatClampNeg), .ref o0]) (rest := []) ⟨hx, hb, hml, hown, hts⟩ (c_L_seen l D x0 o0 xf (xs (1 : Int32).toNatClampNeg) (xs (2 : Int32).toNatClampNeg) H.size hlt xf_10) (vx_cwSW 4 hts g_lw_27 rfl rfl rfl (by decide +kernel) ⟨Nat.le_of_ble_eq_true rfl, Nat.le_of_ble_eq_true rfl⟩) ⟨st_blind, fun U hU hW => ⟨rfl, st_call hU hW hPc hKc hDc hZ hS hFc hE⟩⟩ rfl rfl hl.1 rfl (lv_room (Nat.le_of_ble_eq_true rfl)) dL_law_880 ⟨Nat.le_of_ble_eq_true rfl, Nat.le_of_ble_eq_true rfl⟩) hS (fun q _ h => hFc q h) hFc (fun r1 u2 t H1 locs ht hvm hw hB hz1 hk1 hS => ?_)
  obtain ⟨hP, hD⟩ := va_join (wr := [(tk, .inr (9, tf)), (tx, .inl (cx, 3000, .inl (fun _ => 0))), (so, .inl (cs, 702, .inl (fun _ => 0))), (pl, .inl (cp, 702, .inl (fun _ => 0))), (li, .inl (ci, 702, .inl (fun _ => 0))), (nm, .inr (6, nf)), (us, .inl (cu, 702, .inl (fun _ => 0))), (me, .inl (cm, 702, .inl (fun _ => 0))), (cd, .inr (0, cf)), (sp, .inr (8, sf)), (rd, .inr (7, rf)), (tr, .inl (ct, 2, .inr (.inr (.inr (.inr (fun _ => none)))))), (m0, .inr (12, mf)), (b0, .inl (d0, 3000, .inl (fun _ => 0))), (b1, .inl (d1, 710, .inl (fun _ => 0))), (b2, .inl (d2, 710, .inl (fun _ => 0))), (b3, .inl (d3, 710, .inl (fun _ => 0))), (b4, .inl (d4, 710, .inl (fun _ => 0))), (b5, .inl (d5, 2, .inl (fun _ => 0))), (o0, .inl (co, 1, .inr (.inl (fun _ => 0))))]) (w1 := []) hP hD [0] [1, 2, 3, 4, 5, 6, 7, 8, 9, 10, 11, 12, 13, 14, 15, 16, 17, 18, 19, 20] rfl rfl (by decide) (by decide) hk1 hFc p_nil d_nil
  have hK := hK.sub (tys' := [(cx, .byte), (cs, .int), (cp, .int), (ci, .int), (cu, .int), (cm, .int), (ct, .object "ScheduleHouse$Trial"), (d0, .byte), (d1, .int), (d2, .int), (d3, .int), (d4, .int), (d5, .boolean), (co, .long)]) [0, 1, 2, 3, 4, 5, 6, 7, 8, 9, 10, 11, 12, 13] rfl
  generalize H1 = H at hP hS ⊢
  have hP : va_P D vwCl [(tk, .inr (9, tf)), (tx, .inl (cx, 3000, .inl (fun _ => 0))), (so, .inl (cs, 702, .inl (fun _ => 0))), (pl, .inl (cp, 702, .inl (fun _ => 0))), (li, .inl (ci, 702, .inl (fun _ => 0))), (nm, .inr (6, nf)), (us, .inl (cu, 702, .inl (fun _ => 0))), (me, .inl (cm, 702, .inl (fun _ => 0))), (cd, .inr (0, cf)), (sp, .inr (8, sf)), (rd, .inr (7, rf)), (tr, .inl (ct, 2, .inr (.inr (.inr (.inr (fun _ => none)))))), (m0, .inr (12, mf)), (b0, .inl (d0, 3000, .inl (fun _ => 0))), (b1, .inl (d1, 710, .inl (fun _ => 0))), (b2, .inl (d2, 710, .inl (fun _ => 0))), (b3, .inl (d3, 710, .inl (fun _ => 0))), (b4, .inl (d4, 710, .inl (fun _ => 0))), (b5, .inl (d5, 2, .inl (fun _ => 0))), (o0, .inl (co, 1, .inr (.inl (fun _ => 0))))] H := hP
  have hD : va_D (fun q : Nat => s.heap.size ≤ q) [(tk, .inr (9, tf)), (tx, .inl (cx, 3000, .inl (fun _ => 0))), (so, .inl (cs, 702, .inl (fun _ => 0))), (pl, .inl (cp, 702, .inl (fun _ => 0))), (li, .inl (ci, 702, .inl (fun _ => 0))), (nm, .inr (6, nf)), (us, .inl (cu, 702, .inl (fun _ => 0))), (me, .inl (cm, 702, .inl (fun _ => 0))), (cd, .inr (0, cf)), (sp, .inr (8, sf)), (rd, .inr (7, rf)), (tr, .inl (ct, 2, .inr (.inr (.inr (.inr (fun _ => none)))))), (m0, .inr (12, mf)), (b0, .inl (d0, 3000, .inl (fun _ => 0))), (b1, .inl (d1, 710, .inl (fun _ => 0))), (b2, .inl (d2, 710, .inl (fun _ => 0))), (b3, .inl (d3, 710, .inl (fun _ => 0))), (b4, .inl (d4, 710, .inl (fun _ => 0))), (b5, .inl (d5, 2, .inl (fun _ => 0))), (o0, .inl (co, 1, .inr (.inl (fun _ => 0))))] := hD
  have hK : va_K D vwCl [(cx, .byte), (cs, .int), (cp, .int), (ci, .int), (cu, .int), (cm, .int), (ct, .object "ScheduleHouse$Trial"), (d0, .byte), (d1, .int), (d2, .int), (d3, .int), (d4, .int), (d5, .boolean), (co, .long)] s := hK
  subst hw
  refine lv_istore (lv' := [(5, .int 1), (4, .int 0), (3, .ref o0), (2, .ref m0), (1, .ref x0), (0, .ref b)]) hx hb dL_law_883 hl (by decide) rfl (fun ls hl => ?_)
  refine lv_aload_n hx hb dL_law_885 rfl (lv_at hl 3 rfl) ?_
  refine lv_aload_n hx hb dL_law_886 rfl (lv_at hl 5 rfl) ?_
  refine lv_iload hx hb dL_law_887 (lv_at hl 1 rfl) ?_
  refine lv_iconst (v := 1) hx hb dL_law_889 (by decide +kernel) ?_
  refine lv_iadd hx hb dL_law_890 ?_
  rw [show (0 + 1 : Int32) = 1 by decide]
  refine va_sld hx hb hX hbl hbA hS (i := 1) (by unfold vp_in; decide) dL_law_891 ?_
  refine lv_aload_n hx hb dL_law_892 rfl (lv_at hl 5 rfl) ?_
  refine lv_iload hx hb dL_law_893 (lv_at hl 1 rfl) ?_
  refine lv_iconst (v := 2) hx hb dL_law_895 (by decide +kernel) ?_
  refine lv_iadd hx hb dL_law_896 ?_
  rw [show (0 + 2 : Int32) = 2 by decide]
  refine va_sld hx hb hX hbl hbA hS (i := 2) (by unfold vp_in; decide) dL_law_897 ?_
  have hPc := hP.sub (ws' := [(m0, .inr (12, mf))]) [12] rfl
  have hDc := hD.sub (ws' := [(m0, .inr (12, mf))]) [12] (by decide) rfl
  have hKc := hK.sub (tys' := []) [] rfl
  have hFc := va_free (wc := [(m0, .inr (12, mf))]) hD hS hA [12] rfl
  refine va_calli (va_runV (As := [.int (xs (1 : Int32).toNatClampNeg), .int (xs (2 : Int32).toNatClampNeg)]) (rest := []) ⟨hx, hb, hml, hown, hts⟩ (c_m_seen l D m0 mf (xs (1 : Int32).toNatClampNeg) (xs (2 : Int32).toNatClampNeg) H.size mf_l (mf_z 0 (by decide)) (mf_z 67 (by decide))) (cwV 2 hts g_lw_28 rfl rfl rfl (by decide +kernel) ⟨Nat.le_of_ble_eq_true rfl, Nat.le_of_ble_eq_true rfl⟩) ⟨st_blind, va_recv hKc hPc (ci := 12) (q0 := 0) rfl rfl, fun U hU hW => ⟨rfl, st_call hU hW hPc hKc hDc hZ hS hFc hE⟩⟩ rfl rfl hl.1 rfl (lv_room (Nat.le_of_ble_eq_true rfl)) dL_law_898 ⟨Nat.le_of_ble_eq_true rfl, Nat.le_of_ble_eq_true rfl⟩) hS (fun q _ h => hFc q h) hFc (fun r3 u4 t H1 locs ht hvm hw hB hz1 hk1 hS => ?_)
  have ht9 := hw
  obtain ⟨hP1, hK1, hD1⟩ := hB
  rw [ht] at hP1
  have hK1 := va_K.moved hvm.symm hK1
  obtain ⟨hP, hD⟩ := va_join (wr := [(tk, .inr (9, tf)), (tx, .inl (cx, 3000, .inl (fun _ => 0))), (so, .inl (cs, 702, .inl (fun _ => 0))), (pl, .inl (cp, 702, .inl (fun _ => 0))), (li, .inl (ci, 702, .inl (fun _ => 0))), (nm, .inr (6, nf)), (us, .inl (cu, 702, .inl (fun _ => 0))), (me, .inl (cm, 702, .inl (fun _ => 0))), (cd, .inr (0, cf)), (sp, .inr (8, sf)), (rd, .inr (7, rf)), (tr, .inl (ct, 2, .inr (.inr (.inr (.inr (fun _ => none)))))), (b0, .inl (d0, 3000, .inl (fun _ => 0))), (b1, .inl (d1, 710, .inl (fun _ => 0))), (b2, .inl (d2, 710, .inl (fun _ => 0))), (b3, .inl (d3, 710, .inl (fun _ => 0))), (b4, .inl (d4, 710, .inl (fun _ => 0))), (b5, .inl (d5, 2, .inl (fun _ => 0))), (o0, .inl (co, 1, .inr (.inl (fun _ => 0))))]) (w1 := [(m0, .inr (12, u4))]) hP hD [12] [0, 1, 2, 3, 4, 5, 6, 7, 8, 9, 10, 11, 13, 14, 15, 16, 17, 18, 19] rfl rfl (by decide) (by decide) hk1 hFc hP1 hD1
  have hK := (hK.sub (tys' := [(cx, .byte), (cs, .int), (cp, .int), (ci, .int), (cu, .int), (cm, .int), (ct, .object "ScheduleHouse$Trial"), (d0, .byte), (d1, .int), (d2, .int), (d3, .int), (d4, .int), (d5, .boolean), (co, .long)]) [0, 1, 2, 3, 4, 5, 6, 7, 8, 9, 10, 11, 12, 13] rfl).app hK1
  generalize H1 = H at hP hS ⊢
  have hP : va_P D vwCl [(tk, .inr (9, tf)), (tx, .inl (cx, 3000, .inl (fun _ => 0))), (so, .inl (cs, 702, .inl (fun _ => 0))), (pl, .inl (cp, 702, .inl (fun _ => 0))), (li, .inl (ci, 702, .inl (fun _ => 0))), (nm, .inr (6, nf)), (us, .inl (cu, 702, .inl (fun _ => 0))), (me, .inl (cm, 702, .inl (fun _ => 0))), (cd, .inr (0, cf)), (sp, .inr (8, sf)), (rd, .inr (7, rf)), (tr, .inl (ct, 2, .inr (.inr (.inr (.inr (fun _ => none)))))), (b0, .inl (d0, 3000, .inl (fun _ => 0))), (b1, .inl (d1, 710, .inl (fun _ => 0))), (b2, .inl (d2, 710, .inl (fun _ => 0))), (b3, .inl (d3, 710, .inl (fun _ => 0))), (b4, .inl (d4, 710, .inl (fun _ => 0))), (b5, .inl (d5, 2, .inl (fun _ => 0))), (o0, .inl (co, 1, .inr (.inl (fun _ => 0)))), (m0, .inr (12, u4))] H := hP
  have hD : va_D (fun q : Nat => s.heap.size ≤ q) [(tk, .inr (9, tf)), (tx, .inl (cx, 3000, .inl (fun _ => 0))), (so, .inl (cs, 702, .inl (fun _ => 0))), (pl, .inl (cp, 702, .inl (fun _ => 0))), (li, .inl (ci, 702, .inl (fun _ => 0))), (nm, .inr (6, nf)), (us, .inl (cu, 702, .inl (fun _ => 0))), (me, .inl (cm, 702, .inl (fun _ => 0))), (cd, .inr (0, cf)), (sp, .inr (8, sf)), (rd, .inr (7, rf)), (tr, .inl (ct, 2, .inr (.inr (.inr (.inr (fun _ => none)))))), (b0, .inl (d0, 3000, .inl (fun _ => 0))), (b1, .inl (d1, 710, .inl (fun _ => 0))), (b2, .inl (d2, 710, .inl (fun _ => 0))), (b3, .inl (d3, 710, .inl (fun _ => 0))), (b4, .inl (d4, 710, .inl (fun _ => 0))), (b5, .inl (d5, 2, .inl (fun _ => 0))), (o0, .inl (co, 1, .inr (.inl (fun _ => 0)))), (m0, .inr (12, u4))] := hD
  have hK : va_K D vwCl [(cx, .byte), (cs, .int), (cp, .int), (ci, .int), (cu, .int), (cm, .int), (ct, .object "ScheduleHouse$Trial"), (d0, .byte), (d1, .int), (d2, .int), (d3, .int), (d4, .int), (d5, .boolean), (co, .long)] s := hK
  refine lv_istore (lv' := [(6, .int r3), (5, .int 1), (4, .int 0), (3, .ref o0), (2, .ref m0), (1, .ref x0), (0, .ref b)]) hx hb dL_law_901 hl (by decide) rfl (fun ls hl => ?_)
  refine lv_aload_n hx hb dL_law_903 rfl (lv_at hl 4 rfl) ?_
  have hPc := hP.sub (ws' := [(m0, .inr (12, u4))]) [19] rfl
  have hDc := hD.sub (ws' := [(m0, .inr (12, u4))]) [19] (by decide) rfl
  have hKc := hK.sub (tys' := []) [] rfl
  have hFc := va_free (wc := [(m0, .inr (12, u4))]) hD hS hA [19] rfl
  refine va_calli (va_runV (As := []) (rest := []) ⟨hx, hb, hml, hown, hts⟩ (c_m_thrown l D m0 u4 1 H.size ht9) (cwV 0 hts g_lw_2 rfl rfl rfl (by decide +kernel) ⟨Nat.le_of_ble_eq_true rfl, Nat.le_of_ble_eq_true rfl⟩) ⟨st_blind, va_recv hKc hPc (ci := 12) (q0 := 0) rfl rfl, fun U hU hW => ⟨rfl, st_call hU hW hPc hKc hDc hZ hS hFc hE⟩⟩ rfl rfl hl.1 rfl (lv_room (Nat.le_of_ble_eq_true rfl)) dL_law_904 ⟨Nat.le_of_ble_eq_true rfl, Nat.le_of_ble_eq_true rfl⟩) hS (fun q _ h => hFc q h) hFc (fun r5 u6 t H1 locs ht hvm hw hB hz1 hk1 hS => ?_)
  obtain ⟨hP, hD⟩ := va_join (wr := [(tk, .inr (9, tf)), (tx, .inl (cx, 3000, .inl (fun _ => 0))), (so, .inl (cs, 702, .inl (fun _ => 0))), (pl, .inl (cp, 702, .inl (fun _ => 0))), (li, .inl (ci, 702, .inl (fun _ => 0))), (nm, .inr (6, nf)), (us, .inl (cu, 702, .inl (fun _ => 0))), (me, .inl (cm, 702, .inl (fun _ => 0))), (cd, .inr (0, cf)), (sp, .inr (8, sf)), (rd, .inr (7, rf)), (tr, .inl (ct, 2, .inr (.inr (.inr (.inr (fun _ => none)))))), (b0, .inl (d0, 3000, .inl (fun _ => 0))), (b1, .inl (d1, 710, .inl (fun _ => 0))), (b2, .inl (d2, 710, .inl (fun _ => 0))), (b3, .inl (d3, 710, .inl (fun _ => 0))), (b4, .inl (d4, 710, .inl (fun _ => 0))), (b5, .inl (d5, 2, .inl (fun _ => 0))), (o0, .inl (co, 1, .inr (.inl (fun _ => 0))))]) (w1 := []) hP hD [19] [0, 1, 2, 3, 4, 5, 6, 7, 8, 9, 10, 11, 12, 13, 14, 15, 16, 17, 18] rfl rfl (by decide) (by decide) hk1 hFc p_nil d_nil
  have hK := hK.sub (tys' := [(cx, .byte), (cs, .int), (cp, .int), (ci, .int), (cu, .int), (cm, .int), (ct, .object "ScheduleHouse$Trial"), (d0, .byte), (d1, .int), (d2, .int), (d3, .int), (d4, .int), (d5, .boolean), (co, .long)]) [0, 1, 2, 3, 4, 5, 6, 7, 8, 9, 10, 11, 12, 13] rfl
  generalize H1 = H at hP hS ⊢
  have hP : va_P D vwCl [(tk, .inr (9, tf)), (tx, .inl (cx, 3000, .inl (fun _ => 0))), (so, .inl (cs, 702, .inl (fun _ => 0))), (pl, .inl (cp, 702, .inl (fun _ => 0))), (li, .inl (ci, 702, .inl (fun _ => 0))), (nm, .inr (6, nf)), (us, .inl (cu, 702, .inl (fun _ => 0))), (me, .inl (cm, 702, .inl (fun _ => 0))), (cd, .inr (0, cf)), (sp, .inr (8, sf)), (rd, .inr (7, rf)), (tr, .inl (ct, 2, .inr (.inr (.inr (.inr (fun _ => none)))))), (b0, .inl (d0, 3000, .inl (fun _ => 0))), (b1, .inl (d1, 710, .inl (fun _ => 0))), (b2, .inl (d2, 710, .inl (fun _ => 0))), (b3, .inl (d3, 710, .inl (fun _ => 0))), (b4, .inl (d4, 710, .inl (fun _ => 0))), (b5, .inl (d5, 2, .inl (fun _ => 0))), (o0, .inl (co, 1, .inr (.inl (fun _ => 0))))] H := hP
  have hD : va_D (fun q : Nat => s.heap.size ≤ q) [(tk, .inr (9, tf)), (tx, .inl (cx, 3000, .inl (fun _ => 0))), (so, .inl (cs, 702, .inl (fun _ => 0))), (pl, .inl (cp, 702, .inl (fun _ => 0))), (li, .inl (ci, 702, .inl (fun _ => 0))), (nm, .inr (6, nf)), (us, .inl (cu, 702, .inl (fun _ => 0))), (me, .inl (cm, 702, .inl (fun _ => 0))), (cd, .inr (0, cf)), (sp, .inr (8, sf)), (rd, .inr (7, rf)), (tr, .inl (ct, 2, .inr (.inr (.inr (.inr (fun _ => none)))))), (b0, .inl (d0, 3000, .inl (fun _ => 0))), (b1, .inl (d1, 710, .inl (fun _ => 0))), (b2, .inl (d2, 710, .inl (fun _ => 0))), (b3, .inl (d3, 710, .inl (fun _ => 0))), (b4, .inl (d4, 710, .inl (fun _ => 0))), (b5, .inl (d5, 2, .inl (fun _ => 0))), (o0, .inl (co, 1, .inr (.inl (fun _ => 0))))] := hD
  have hK : va_K D vwCl [(cx, .byte), (cs, .int), (cp, .int), (ci, .int), (cu, .int), (cm, .int), (ct, .object "ScheduleHouse$Trial"), (d0, .byte), (d1, .int), (d2, .int), (d3, .int), (d4, .int), (d5, .boolean), (co, .long)] s := hK
  subst hw
  refine lv_iload hx hb dL_law_907 (lv_at hl 1 rfl) ?_
  refine lv_icmp_eq (tgt := 914) hx hb dL_law_909 (by decide) (fun _ => ?_) (fun c9 => absurd rfl c9)
  refine lv_iload hx hb dL_law_914 (lv_at hl 1 rfl) ?_
  refine lv_if_ne (tgt := 931) hx hb dL_law_916 (by decide) (fun _ => ?_) (fun c9 => False.elim (by revert c9; decide))
  refine lv_goto (tgt := 1894) hx hb dL_law_931 (by decide) ?_
  refine W.widen (k := 2000) (n := 2000000) (Nat.le_of_ble_eq_true rfl) (Nat.le_of_ble_eq_true rfl) ?_
  exact law_tail l C0 hS (lv_sub hl [2, 6] rfl)
set_option maxHeartbeats 400000 in
set_option maxRecDepth 100000 in
theorem law_14 {p : Program} {e : Env} {s : State} {m : MethodId} {below : List Frame} {meth : Method} {c : Code} (l : Launch) (hlt : l.stackTraces = false) {b : Nat} {xs : Nat → Int32} (C0 : lw_At p s m meth c b 4 xs) (hE : ev s) (hZ : ev_Z (fun q : Nat => s.heap.size ≤ q) s s.heap) (D : va_G) (x0 tk tx so pl li nm us me cd sp rd tr m0 b0 b1 b2 b3 b4 b5 o0 : Nat) (cx cs cp ci cu cm ct d0 d1 d2 d3 d4 d5 co : ClassId) (xf tf nf cf sf rf mf : List Value) {H : Heap} {locs : List Loc} {ls : Array Slot} (hin : law_in D s H locs x0 tk tx so pl li nm us me cd sp rd tr m0 b0 b1 b2 b3 b4 b5 o0 cx cs cp ci cu cm ct d0 d1 d2 d3 d4 d5 co xf tf nf cf sf rf mf) (hl : lv_has ls 7 [(4, .int 0), (3, .ref o0), (2, .ref m0), (1, .ref x0), (0, .ref b)]) : W p l e room_1 s m #[Value.ref b] below meth c H locs 1000 1000000 (lw_Z below #[Value.ref b] s) (F0 m 934 ls []) := by
  obtain ⟨hx, hb, hr, hml, hown, hts, hX, hbl, hlocks, hgv⟩ := id C0
  have hA : ∀ q : Nat, s.heap.size ≤ q → (fun q : Nat => s.heap.size ≤ q) q := fun _ h => h
  have hbA : ¬ (fun q : Nat => s.heap.size ≤ q) b := Nat.not_le.mpr hbl
  obtain ⟨hok, hP, hD, hK, hS⟩ := hin
  obtain ⟨xf_l, xf_0, xf_1, xf_2, xf_3, xf_6, xf_9, xf_10, xf_11, xf_12, tf_l, tf_0, tf_1, tf_2, tf_3, tf_4, nf_l, nf_0, nf_1, nf_2, nf_11, cf_l, cf_0, sf_l, rf_l, rf_0, rf_1, rf_2, rf_3, mf_l, mf_z, mf_p, mf_n, mf_r0, mf_r1, mf_r2, mf_r3, mf_r4, mf_r5⟩ := hok
  have hown : s.vm.findClass RL = some m.cls := hown
  refine lv_aload_n hx hb dL_law_934 rfl (lv_at hl 3 rfl) ?_
  refine lv_aload_n hx hb dL_law_935 rfl (lv_at hl 4 rfl) ?_
  refine lv_iload hx hb dL_law_936 (lv_at hl 0 rfl) ?_
  refine lv_iconst (v := 1) hx hb dL_law_938 (by decide +kernel) ?_
  refine lv_iadd hx hb dL_law_939 ?_
  rw [show (0 + 1 : Int32) = 1 by decide]
  refine va_sld hx hb hX hbl hbA hS (i := 1) (by unfold vp_in; decide) dL_law_940 ?_
  refine lv_aload_n hx hb dL_law_941 rfl (lv_at hl 4 rfl) ?_
  refine lv_iload hx hb dL_law_942 (lv_at hl 0 rfl) ?_
  refine lv_iconst (v := 2) hx hb dL_law_944 (by decide +kernel) ?_
  refine lv_iadd hx hb dL_law_945 ?_
  rw [show (0 + 2 : Int32) = 2 by decide]
  refine va_sld hx hb hX hbl hbA hS (i := 2) (by unfold vp_in; decide) dL_law_946 ?_
  refine lv_aload_n hx hb dL_law_947 rfl (lv_at hl 1 rfl) ?_
  have hPc := hP.sub (ws' := [(x0, .inr (11, xf))]) [0] rfl
  have hDc := hD.sub (ws' := [(x0, .inr (11, xf))]) [0] (by decide) rfl
  have hKc := hK.sub (tys' := []) [] rfl
  have hFc := va_free (wc := [(x0, .inr (11, xf))]) hD hS hA [0] rfl
  refine va_calli (vx_runSW (As := [.ref x0, .int (xs (1 : Int32).toNatClampNeg), .int (xs (2 : Int32).toNatClampNeg), .ref o0]) (rest := []) ⟨hx, hb, hml, hown, hts⟩ (c_L_lock l D x0 o0 xf (xs (1 : Int32).toNatClampNeg) (xs (2 : Int32).toNatClampNeg) H.size hlt xf_10) (vx_cwSW 4 hts g_lw_29 rfl rfl rfl (by decide +kernel) ⟨Nat.le_of_ble_eq_true rfl, Nat.le_of_ble_eq_true rfl⟩) ⟨st_blind, fun U hU hW => ⟨rfl, st_call hU hW hPc hKc hDc hZ hS hFc hE⟩⟩ rfl rfl hl.1 rfl (lv_room (Nat.le_of_ble_eq_true rfl)) dL_law_948 ⟨Nat.le_of_ble_eq_true rfl, Nat.le_of_ble_eq_true rfl⟩) hS (fun q _ h => hFc q h) hFc (fun r1 u2 t H1 locs ht hvm hw hB hz1 hk1 hS => ?_)
  obtain ⟨hP, hD⟩ := va_join (wr := [(tk, .inr (9, tf)), (tx, .inl (cx, 3000, .inl (fun _ => 0))), (so, .inl (cs, 702, .inl (fun _ => 0))), (pl, .inl (cp, 702, .inl (fun _ => 0))), (li, .inl (ci, 702, .inl (fun _ => 0))), (nm, .inr (6, nf)), (us, .inl (cu, 702, .inl (fun _ => 0))), (me, .inl (cm, 702, .inl (fun _ => 0))), (cd, .inr (0, cf)), (sp, .inr (8, sf)), (rd, .inr (7, rf)), (tr, .inl (ct, 2, .inr (.inr (.inr (.inr (fun _ => none)))))), (m0, .inr (12, mf)), (b0, .inl (d0, 3000, .inl (fun _ => 0))), (b1, .inl (d1, 710, .inl (fun _ => 0))), (b2, .inl (d2, 710, .inl (fun _ => 0))), (b3, .inl (d3, 710, .inl (fun _ => 0))), (b4, .inl (d4, 710, .inl (fun _ => 0))), (b5, .inl (d5, 2, .inl (fun _ => 0))), (o0, .inl (co, 1, .inr (.inl (fun _ => 0))))]) (w1 := []) hP hD [0] [1, 2, 3, 4, 5, 6, 7, 8, 9, 10, 11, 12, 13, 14, 15, 16, 17, 18, 19, 20] rfl rfl (by decide) (by decide) hk1 hFc p_nil d_nil
  have hK := hK.sub (tys' := [(cx, .byte), (cs, .int), (cp, .int), (ci, .int), (cu, .int), (cm, .int), (ct, .object "ScheduleHouse$Trial"), (d0, .byte), (d1, .int), (d2, .int), (d3, .int), (d4, .int), (d5, .boolean), (co, .long)]) [0, 1, 2, 3, 4, 5, 6, 7, 8, 9, 10, 11, 12, 13] rfl
  generalize H1 = H at hP hS ⊢
  have hP : va_P D vwCl [(tk, .inr (9, tf)), (tx, .inl (cx, 3000, .inl (fun _ => 0))), (so, .inl (cs, 702, .inl (fun _ => 0))), (pl, .inl (cp, 702, .inl (fun _ => 0))), (li, .inl (ci, 702, .inl (fun _ => 0))), (nm, .inr (6, nf)), (us, .inl (cu, 702, .inl (fun _ => 0))), (me, .inl (cm, 702, .inl (fun _ => 0))), (cd, .inr (0, cf)), (sp, .inr (8, sf)), (rd, .inr (7, rf)), (tr, .inl (ct, 2, .inr (.inr (.inr (.inr (fun _ => none)))))), (m0, .inr (12, mf)), (b0, .inl (d0, 3000, .inl (fun _ => 0))), (b1, .inl (d1, 710, .inl (fun _ => 0))), (b2, .inl (d2, 710, .inl (fun _ => 0))), (b3, .inl (d3, 710, .inl (fun _ => 0))), (b4, .inl (d4, 710, .inl (fun _ => 0))), (b5, .inl (d5, 2, .inl (fun _ => 0))), (o0, .inl (co, 1, .inr (.inl (fun _ => 0))))] H := hP
  have hD : va_D (fun q : Nat => s.heap.size ≤ q) [(tk, .inr (9, tf)), (tx, .inl (cx, 3000, .inl (fun _ => 0))), (so, .inl (cs, 702, .inl (fun _ => 0))), (pl, .inl (cp, 702, .inl (fun _ => 0))), (li, .inl (ci, 702, .inl (fun _ => 0))), (nm, .inr (6, nf)), (us, .inl (cu, 702, .inl (fun _ => 0))), (me, .inl (cm, 702, .inl (fun _ => 0))), (cd, .inr (0, cf)), (sp, .inr (8, sf)), (rd, .inr (7, rf)), (tr, .inl (ct, 2, .inr (.inr (.inr (.inr (fun _ => none)))))), (m0, .inr (12, mf)), (b0, .inl (d0, 3000, .inl (fun _ => 0))), (b1, .inl (d1, 710, .inl (fun _ => 0))), (b2, .inl (d2, 710, .inl (fun _ => 0))), (b3, .inl (d3, 710, .inl (fun _ => 0))), (b4, .inl (d4, 710, .inl (fun _ => 0))), (b5, .inl (d5, 2, .inl (fun _ => 0))), (o0, .inl (co, 1, .inr (.inl (fun _ => 0))))] := hD
  have hK : va_K D vwCl [(cx, .byte), (cs, .int), (cp, .int), (ci, .int), (cu, .int), (cm, .int), (ct, .object "ScheduleHouse$Trial"), (d0, .byte), (d1, .int), (d2, .int), (d3, .int), (d4, .int), (d5, .boolean), (co, .long)] s := hK
  subst hw
  refine lv_istore (lv' := [(5, .int 1), (4, .int 0), (3, .ref o0), (2, .ref m0), (1, .ref x0), (0, .ref b)]) hx hb dL_law_951 hl (by decide) rfl (fun ls hl => ?_)
  refine lv_aload_n hx hb dL_law_953 rfl (lv_at hl 3 rfl) ?_
  refine lv_aload_n hx hb dL_law_954 rfl (lv_at hl 5 rfl) ?_
  refine lv_iload hx hb dL_law_955 (lv_at hl 1 rfl) ?_
  refine lv_iconst (v := 1) hx hb dL_law_957 (by decide +kernel) ?_
  refine lv_iadd hx hb dL_law_958 ?_
  rw [show (0 + 1 : Int32) = 1 by decide]
  refine va_sld hx hb hX hbl hbA hS (i := 1) (by unfold vp_in; decide) dL_law_959 ?_
  refine lv_aload_n hx hb dL_law_960 rfl (lv_at hl 5 rfl) ?_
  refine lv_iload hx hb dL_law_961 (lv_at hl 1 rfl) ?_
  refine lv_iconst (v := 2) hx hb dL_law_963 (by decide +kernel) ?_
  refine lv_iadd hx hb dL_law_964 ?_
  rw [show (0 + 2 : Int32) = 2 by decide]
  refine va_sld hx hb hX hbl hbA hS (i := 2) (by unfold vp_in; decide) dL_law_965 ?_
  have hPc := hP.sub (ws' := [(m0, .inr (12, mf))]) [12] rfl
  have hDc := hD.sub (ws' := [(m0, .inr (12, mf))]) [12] (by decide) rfl
  have hKc := hK.sub (tys' := []) [] rfl
  have hFc := va_free (wc := [(m0, .inr (12, mf))]) hD hS hA [12] rfl
  refine va_calli (va_runV (As := [.int (xs (1 : Int32).toNatClampNeg), .int (xs (2 : Int32).toNatClampNeg)]) (rest := []) ⟨hx, hb, hml, hown, hts⟩ (c_m_lock l D m0 mf (xs (1 : Int32).toNatClampNeg) (xs (2 : Int32).toNatClampNeg) H.size mf_l (mf_z 0 (by decide)) (mf_z 67 (by decide))) (cwV 2 hts g_lw_30 rfl rfl rfl (by decide +kernel) ⟨Nat.le_of_ble_eq_true rfl, Nat.le_of_ble_eq_true rfl⟩) ⟨st_blind, va_recv hKc hPc (ci := 12) (q0 := 0) rfl rfl, fun U hU hW => ⟨rfl, st_call hU hW hPc hKc hDc hZ hS hFc hE⟩⟩ rfl rfl hl.1 rfl (lv_room (Nat.le_of_ble_eq_true rfl)) dL_law_966 ⟨Nat.le_of_ble_eq_true rfl, Nat.le_of_ble_eq_true rfl⟩) hS (fun q _ h => hFc q h) hFc (fun r3 u4 t H1 locs ht hvm hw hB hz1 hk1 hS => ?_)
  have ht9 := hw
  obtain ⟨hP1, hK1, hD1⟩ := hB
  rw [ht] at hP1
  have hK1 := va_K.moved hvm.symm hK1
  obtain ⟨hP, hD⟩ := va_join (wr := [(tk, .inr (9, tf)), (tx, .inl (cx, 3000, .inl (fun _ => 0))), (so, .inl (cs, 702, .inl (fun _ => 0))), (pl, .inl (cp, 702, .inl (fun _ => 0))), (li, .inl (ci, 702, .inl (fun _ => 0))), (nm, .inr (6, nf)), (us, .inl (cu, 702, .inl (fun _ => 0))), (me, .inl (cm, 702, .inl (fun _ => 0))), (cd, .inr (0, cf)), (sp, .inr (8, sf)), (rd, .inr (7, rf)), (tr, .inl (ct, 2, .inr (.inr (.inr (.inr (fun _ => none)))))), (b0, .inl (d0, 3000, .inl (fun _ => 0))), (b1, .inl (d1, 710, .inl (fun _ => 0))), (b2, .inl (d2, 710, .inl (fun _ => 0))), (b3, .inl (d3, 710, .inl (fun _ => 0))), (b4, .inl (d4, 710, .inl (fun _ => 0))), (b5, .inl (d5, 2, .inl (fun _ => 0))), (o0, .inl (co, 1, .inr (.inl (fun _ => 0))))]) (w1 := [(m0, .inr (12, u4))]) hP hD [12] [0, 1, 2, 3, 4, 5, 6, 7, 8, 9, 10, 11, 13, 14, 15, 16, 17, 18, 19] rfl rfl (by decide) (by decide) hk1 hFc hP1 hD1
  have hK := (hK.sub (tys' := [(cx, .byte), (cs, .int), (cp, .int), (ci, .int), (cu, .int), (cm, .int), (ct, .object "ScheduleHouse$Trial"), (d0, .byte), (d1, .int), (d2, .int), (d3, .int), (d4, .int), (d5, .boolean), (co, .long)]) [0, 1, 2, 3, 4, 5, 6, 7, 8, 9, 10, 11, 12, 13] rfl).app hK1
  generalize H1 = H at hP hS ⊢
  have hP : va_P D vwCl [(tk, .inr (9, tf)), (tx, .inl (cx, 3000, .inl (fun _ => 0))), (so, .inl (cs, 702, .inl (fun _ => 0))), (pl, .inl (cp, 702, .inl (fun _ => 0))), (li, .inl (ci, 702, .inl (fun _ => 0))), (nm, .inr (6, nf)), (us, .inl (cu, 702, .inl (fun _ => 0))), (me, .inl (cm, 702, .inl (fun _ => 0))), (cd, .inr (0, cf)), (sp, .inr (8, sf)), (rd, .inr (7, rf)), (tr, .inl (ct, 2, .inr (.inr (.inr (.inr (fun _ => none)))))), (b0, .inl (d0, 3000, .inl (fun _ => 0))), (b1, .inl (d1, 710, .inl (fun _ => 0))), (b2, .inl (d2, 710, .inl (fun _ => 0))), (b3, .inl (d3, 710, .inl (fun _ => 0))), (b4, .inl (d4, 710, .inl (fun _ => 0))), (b5, .inl (d5, 2, .inl (fun _ => 0))), (o0, .inl (co, 1, .inr (.inl (fun _ => 0)))), (m0, .inr (12, u4))] H := hP
  have hD : va_D (fun q : Nat => s.heap.size ≤ q) [(tk, .inr (9, tf)), (tx, .inl (cx, 3000, .inl (fun _ => 0))), (so, .inl (cs, 702, .inl (fun _ => 0))), (pl, .inl (cp, 702, .inl (fun _ => 0))), (li, .inl (ci, 702, .inl (fun _ => 0))), (nm, .inr (6, nf)), (us, .inl (cu, 702, .inl (fun _ => 0))), (me, .inl (cm, 702, .inl (fun _ => 0))), (cd, .inr (0, cf)), (sp, .inr (8, sf)), (rd, .inr (7, rf)), (tr, .inl (ct, 2, .inr (.inr (.inr (.inr (fun _ => none)))))), (b0, .inl (d0, 3000, .inl (fun _ => 0))), (b1, .inl (d1, 710, .inl (fun _ => 0))), (b2, .inl (d2, 710, .inl (fun _ => 0))), (b3, .inl (d3, 710, .inl (fun _ => 0))), (b4, .inl (d4, 710, .inl (fun _ => 0))), (b5, .inl (d5, 2, .inl (fun _ => 0))), (o0, .inl (co, 1, .inr (.inl (fun _ => 0)))), (m0, .inr (12, u4))] := hD
  have hK : va_K D vwCl [(cx, .byte), (cs, .int), (cp, .int), (ci, .int), (cu, .int), (cm, .int), (ct, .object "ScheduleHouse$Trial"), (d0, .byte), (d1, .int), (d2, .int), (d3, .int), (d4, .int), (d5, .boolean), (co, .long)] s := hK
  refine lv_istore (lv' := [(6, .int r3), (5, .int 1), (4, .int 0), (3, .ref o0), (2, .ref m0), (1, .ref x0), (0, .ref b)]) hx hb dL_law_969 hl (by decide) rfl (fun ls hl => ?_)
  refine lv_aload_n hx hb dL_law_971 rfl (lv_at hl 4 rfl) ?_
  have hPc := hP.sub (ws' := [(m0, .inr (12, u4))]) [19] rfl
  have hDc := hD.sub (ws' := [(m0, .inr (12, u4))]) [19] (by decide) rfl
  have hKc := hK.sub (tys' := []) [] rfl
  have hFc := va_free (wc := [(m0, .inr (12, u4))]) hD hS hA [19] rfl
  refine va_calli (va_runV (As := []) (rest := []) ⟨hx, hb, hml, hown, hts⟩ (c_m_thrown l D m0 u4 1 H.size ht9) (cwV 0 hts g_lw_2 rfl rfl rfl (by decide +kernel) ⟨Nat.le_of_ble_eq_true rfl, Nat.le_of_ble_eq_true rfl⟩) ⟨st_blind, va_recv hKc hPc (ci := 12) (q0 := 0) rfl rfl, fun U hU hW => ⟨rfl, st_call hU hW hPc hKc hDc hZ hS hFc hE⟩⟩ rfl rfl hl.1 rfl (lv_room (Nat.le_of_ble_eq_true rfl)) dL_law_972 ⟨Nat.le_of_ble_eq_true rfl, Nat.le_of_ble_eq_true rfl⟩) hS (fun q _ h => hFc q h) hFc (fun r5 u6 t H1 locs ht hvm hw hB hz1 hk1 hS => ?_)
  obtain ⟨hP, hD⟩ := va_join (wr := [(tk, .inr (9, tf)), (tx, .inl (cx, 3000, .inl (fun _ => 0))), (so, .inl (cs, 702, .inl (fun _ => 0))), (pl, .inl (cp, 702, .inl (fun _ => 0))), (li, .inl (ci, 702, .inl (fun _ => 0))), (nm, .inr (6, nf)), (us, .inl (cu, 702, .inl (fun _ => 0))), (me, .inl (cm, 702, .inl (fun _ => 0))), (cd, .inr (0, cf)), (sp, .inr (8, sf)), (rd, .inr (7, rf)), (tr, .inl (ct, 2, .inr (.inr (.inr (.inr (fun _ => none)))))), (b0, .inl (d0, 3000, .inl (fun _ => 0))), (b1, .inl (d1, 710, .inl (fun _ => 0))), (b2, .inl (d2, 710, .inl (fun _ => 0))), (b3, .inl (d3, 710, .inl (fun _ => 0))), (b4, .inl (d4, 710, .inl (fun _ => 0))), (b5, .inl (d5, 2, .inl (fun _ => 0))), (o0, .inl (co, 1, .inr (.inl (fun _ => 0))))]) (w1 := []) hP hD [19] [0, 1, 2, 3, 4, 5, 6, 7, 8, 9, 10, 11, 12, 13, 14, 15, 16, 17, 18] rfl rfl (by decide) (by decide) hk1 hFc p_nil d_nil
  have hK := hK.sub (tys' := [(cx, .byte), (cs, .int), (cp, .int), (ci, .int), (cu, .int), (cm, .int), (ct, .object "ScheduleHouse$Trial"), (d0, .byte), (d1, .int), (d2, .int), (d3, .int), (d4, .int), (d5, .boolean), (co, .long)]) [0, 1, 2, 3, 4, 5, 6, 7, 8, 9, 10, 11, 12, 13] rfl
  generalize H1 = H at hP hS ⊢
  have hP : va_P D vwCl [(tk, .inr (9, tf)), (tx, .inl (cx, 3000, .inl (fun _ => 0))), (so, .inl (cs, 702, .inl (fun _ => 0))), (pl, .inl (cp, 702, .inl (fun _ => 0))), (li, .inl (ci, 702, .inl (fun _ => 0))), (nm, .inr (6, nf)), (us, .inl (cu, 702, .inl (fun _ => 0))), (me, .inl (cm, 702, .inl (fun _ => 0))), (cd, .inr (0, cf)), (sp, .inr (8, sf)), (rd, .inr (7, rf)), (tr, .inl (ct, 2, .inr (.inr (.inr (.inr (fun _ => none)))))), (b0, .inl (d0, 3000, .inl (fun _ => 0))), (b1, .inl (d1, 710, .inl (fun _ => 0))), (b2, .inl (d2, 710, .inl (fun _ => 0))), (b3, .inl (d3, 710, .inl (fun _ => 0))), (b4, .inl (d4, 710, .inl (fun _ => 0))), (b5, .inl (d5, 2, .inl (fun _ => 0))), (o0, .inl (co, 1, .inr (.inl (fun _ => 0))))] H := hP
  have hD : va_D (fun q : Nat => s.heap.size ≤ q) [(tk, .inr (9, tf)), (tx, .inl (cx, 3000, .inl (fun _ => 0))), (so, .inl (cs, 702, .inl (fun _ => 0))), (pl, .inl (cp, 702, .inl (fun _ => 0))), (li, .inl (ci, 702, .inl (fun _ => 0))), (nm, .inr (6, nf)), (us, .inl (cu, 702, .inl (fun _ => 0))), (me, .inl (cm, 702, .inl (fun _ => 0))), (cd, .inr (0, cf)), (sp, .inr (8, sf)), (rd, .inr (7, rf)), (tr, .inl (ct, 2, .inr (.inr (.inr (.inr (fun _ => none)))))), (b0, .inl (d0, 3000, .inl (fun _ => 0))), (b1, .inl (d1, 710, .inl (fun _ => 0))), (b2, .inl (d2, 710, .inl (fun _ => 0))), (b3, .inl (d3, 710, .inl (fun _ => 0))), (b4, .inl (d4, 710, .inl (fun _ => 0))), (b5, .inl (d5, 2, .inl (fun _ => 0))), (o0, .inl (co, 1, .inr (.inl (fun _ => 0))))] := hD
  have hK : va_K D vwCl [(cx, .byte), (cs, .int), (cp, .int), (ci, .int), (cu, .int), (cm, .int), (ct, .object "ScheduleHouse$Trial"), (d0, .byte), (d1, .int), (d2, .int), (d3, .int), (d4, .int), (d5, .boolean), (co, .long)] s := hK
  subst hw
  refine lv_iload hx hb dL_law_975 (lv_at hl 1 rfl) ?_
  refine lv_icmp_eq (tgt := 982) hx hb dL_law_977 (by decide) (fun _ => ?_) (fun c9 => absurd rfl c9)
  refine lv_iload hx hb dL_law_982 (lv_at hl 1 rfl) ?_
  refine lv_if_ne (tgt := 999) hx hb dL_law_984 (by decide) (fun _ => ?_) (fun c9 => False.elim (by revert c9; decide))
  refine lv_goto (tgt := 1894) hx hb dL_law_999 (by decide) ?_
  refine W.widen (k := 2000) (n := 2000000) (Nat.le_of_ble_eq_true rfl) (Nat.le_of_ble_eq_true rfl) ?_
  exact law_tail l C0 hS (lv_sub hl [2, 6] rfl)
set_option maxHeartbeats 400000 in
set_option maxRecDepth 100000 in
theorem law_15 {p : Program} {e : Env} {s : State} {m : MethodId} {below : List Frame} {meth : Method} {c : Code} (l : Launch) (hlt : l.stackTraces = false) {b : Nat} {xs : Nat → Int32} (C0 : lw_At p s m meth c b 4 xs) (hE : ev s) (hZ : ev_Z (fun q : Nat => s.heap.size ≤ q) s s.heap) (D : va_G) (x0 tk tx so pl li nm us me cd sp rd tr m0 b0 b1 b2 b3 b4 b5 o0 : Nat) (cx cs cp ci cu cm ct d0 d1 d2 d3 d4 d5 co : ClassId) (xf tf nf cf sf rf mf : List Value) {H : Heap} {locs : List Loc} {ls : Array Slot} (hin : law_in D s H locs x0 tk tx so pl li nm us me cd sp rd tr m0 b0 b1 b2 b3 b4 b5 o0 cx cs cp ci cu cm ct d0 d1 d2 d3 d4 d5 co xf tf nf cf sf rf mf) (hl : lv_has ls 7 [(4, .int 0), (3, .ref o0), (2, .ref m0), (1, .ref x0), (0, .ref b)]) : W p l e room_1 s m #[Value.ref b] below meth c H locs 1000 1000000 (lw_Z below #[Value.ref b] s) (F0 m 1002 ls []) := by
  obtain ⟨hx, hb, hr, hml, hown, hts, hX, hbl, hlocks, hgv⟩ := id C0
  have hA : ∀ q : Nat, s.heap.size ≤ q → (fun q : Nat => s.heap.size ≤ q) q := fun _ h => h
  have hbA : ¬ (fun q : Nat => s.heap.size ≤ q) b := Nat.not_le.mpr hbl
  obtain ⟨hok, hP, hD, hK, hS⟩ := hin
  obtain ⟨xf_l, xf_0, xf_1, xf_2, xf_3, xf_6, xf_9, xf_10, xf_11, xf_12, tf_l, tf_0, tf_1, tf_2, tf_3, tf_4, nf_l, nf_0, nf_1, nf_2, nf_11, cf_l, cf_0, sf_l, rf_l, rf_0, rf_1, rf_2, rf_3, mf_l, mf_z, mf_p, mf_n, mf_r0, mf_r1, mf_r2, mf_r3, mf_r4, mf_r5⟩ := hok
  have hown : s.vm.findClass RL = some m.cls := hown
  refine lv_aload_n hx hb dL_law_1002 rfl (lv_at hl 3 rfl) ?_
  refine lv_aload_n hx hb dL_law_1003 rfl (lv_at hl 4 rfl) ?_
  refine lv_iload hx hb dL_law_1004 (lv_at hl 0 rfl) ?_
  refine lv_iconst (v := 1) hx hb dL_law_1006 (by decide +kernel) ?_
  refine lv_iadd hx hb dL_law_1007 ?_
  rw [show (0 + 1 : Int32) = 1 by decide]
  refine va_sld hx hb hX hbl hbA hS (i := 1) (by unfold vp_in; decide) dL_law_1008 ?_
  refine lv_aload_n hx hb dL_law_1009 rfl (lv_at hl 4 rfl) ?_
  refine lv_iload hx hb dL_law_1010 (lv_at hl 0 rfl) ?_
  refine lv_iconst (v := 2) hx hb dL_law_1012 (by decide +kernel) ?_
  refine lv_iadd hx hb dL_law_1013 ?_
  rw [show (0 + 2 : Int32) = 2 by decide]
  refine va_sld hx hb hX hbl hbA hS (i := 2) (by unfold vp_in; decide) dL_law_1014 ?_
  refine lv_aload_n hx hb dL_law_1015 rfl (lv_at hl 1 rfl) ?_
  have hPc := hP.sub (ws' := [(x0, .inr (11, xf))]) [0] rfl
  have hDc := hD.sub (ws' := [(x0, .inr (11, xf))]) [0] (by decide) rfl
  have hKc := hK.sub (tys' := []) [] rfl
  have hFc := va_free (wc := [(x0, .inr (11, xf))]) hD hS hA [0] rfl
  refine va_calli (vx_runSW (As := [.ref x0, .int (xs (1 : Int32).toNatClampNeg), .int (xs (2 : Int32).toNatClampNeg), .ref o0]) (rest := []) ⟨hx, hb, hml, hown, hts⟩ (c_L_thread l D x0 o0 xf (xs (1 : Int32).toNatClampNeg) (xs (2 : Int32).toNatClampNeg) H.size hlt xf_10) (vx_cwSW 4 hts g_lw_31 rfl rfl rfl (by decide +kernel) ⟨Nat.le_of_ble_eq_true rfl, Nat.le_of_ble_eq_true rfl⟩) ⟨st_blind, fun U hU hW => ⟨rfl, st_call hU hW hPc hKc hDc hZ hS hFc hE⟩⟩ rfl rfl hl.1 rfl (lv_room (Nat.le_of_ble_eq_true rfl)) dL_law_1016 ⟨Nat.le_of_ble_eq_true rfl, Nat.le_of_ble_eq_true rfl⟩) hS (fun q _ h => hFc q h) hFc (fun r1 u2 t H1 locs ht hvm hw hB hz1 hk1 hS => ?_)
  obtain ⟨hP, hD⟩ := va_join (wr := [(tk, .inr (9, tf)), (tx, .inl (cx, 3000, .inl (fun _ => 0))), (so, .inl (cs, 702, .inl (fun _ => 0))), (pl, .inl (cp, 702, .inl (fun _ => 0))), (li, .inl (ci, 702, .inl (fun _ => 0))), (nm, .inr (6, nf)), (us, .inl (cu, 702, .inl (fun _ => 0))), (me, .inl (cm, 702, .inl (fun _ => 0))), (cd, .inr (0, cf)), (sp, .inr (8, sf)), (rd, .inr (7, rf)), (tr, .inl (ct, 2, .inr (.inr (.inr (.inr (fun _ => none)))))), (m0, .inr (12, mf)), (b0, .inl (d0, 3000, .inl (fun _ => 0))), (b1, .inl (d1, 710, .inl (fun _ => 0))), (b2, .inl (d2, 710, .inl (fun _ => 0))), (b3, .inl (d3, 710, .inl (fun _ => 0))), (b4, .inl (d4, 710, .inl (fun _ => 0))), (b5, .inl (d5, 2, .inl (fun _ => 0))), (o0, .inl (co, 1, .inr (.inl (fun _ => 0))))]) (w1 := []) hP hD [0] [1, 2, 3, 4, 5, 6, 7, 8, 9, 10, 11, 12, 13, 14, 15, 16, 17, 18, 19, 20] rfl rfl (by decide) (by decide) hk1 hFc p_nil d_nil
  have hK := hK.sub (tys' := [(cx, .byte), (cs, .int), (cp, .int), (ci, .int), (cu, .int), (cm, .int), (ct, .object "ScheduleHouse$Trial"), (d0, .byte), (d1, .int), (d2, .int), (d3, .int), (d4, .int), (d5, .boolean), (co, .long)]) [0, 1, 2, 3, 4, 5, 6, 7, 8, 9, 10, 11, 12, 13] rfl
  generalize H1 = H at hP hS ⊢
  have hP : va_P D vwCl [(tk, .inr (9, tf)), (tx, .inl (cx, 3000, .inl (fun _ => 0))), (so, .inl (cs, 702, .inl (fun _ => 0))), (pl, .inl (cp, 702, .inl (fun _ => 0))), (li, .inl (ci, 702, .inl (fun _ => 0))), (nm, .inr (6, nf)), (us, .inl (cu, 702, .inl (fun _ => 0))), (me, .inl (cm, 702, .inl (fun _ => 0))), (cd, .inr (0, cf)), (sp, .inr (8, sf)), (rd, .inr (7, rf)), (tr, .inl (ct, 2, .inr (.inr (.inr (.inr (fun _ => none)))))), (m0, .inr (12, mf)), (b0, .inl (d0, 3000, .inl (fun _ => 0))), (b1, .inl (d1, 710, .inl (fun _ => 0))), (b2, .inl (d2, 710, .inl (fun _ => 0))), (b3, .inl (d3, 710, .inl (fun _ => 0))), (b4, .inl (d4, 710, .inl (fun _ => 0))), (b5, .inl (d5, 2, .inl (fun _ => 0))), (o0, .inl (co, 1, .inr (.inl (fun _ => 0))))] H := hP
  have hD : va_D (fun q : Nat => s.heap.size ≤ q) [(tk, .inr (9, tf)), (tx, .inl (cx, 3000, .inl (fun _ => 0))), (so, .inl (cs, 702, .inl (fun _ => 0))), (pl, .inl (cp, 702, .inl (fun _ => 0))), (li, .inl (ci, 702, .inl (fun _ => 0))), (nm, .inr (6, nf)), (us, .inl (cu, 702, .inl (fun _ => 0))), (me, .inl (cm, 702, .inl (fun _ => 0))), (cd, .inr (0, cf)), (sp, .inr (8, sf)), (rd, .inr (7, rf)), (tr, .inl (ct, 2, .inr (.inr (.inr (.inr (fun _ => none)))))), (m0, .inr (12, mf)), (b0, .inl (d0, 3000, .inl (fun _ => 0))), (b1, .inl (d1, 710, .inl (fun _ => 0))), (b2, .inl (d2, 710, .inl (fun _ => 0))), (b3, .inl (d3, 710, .inl (fun _ => 0))), (b4, .inl (d4, 710, .inl (fun _ => 0))), (b5, .inl (d5, 2, .inl (fun _ => 0))), (o0, .inl (co, 1, .inr (.inl (fun _ => 0))))] := hD
  have hK : va_K D vwCl [(cx, .byte), (cs, .int), (cp, .int), (ci, .int), (cu, .int), (cm, .int), (ct, .object "ScheduleHouse$Trial"), (d0, .byte), (d1, .int), (d2, .int), (d3, .int), (d4, .int), (d5, .boolean), (co, .long)] s := hK
  subst hw
  refine lv_istore (lv' := [(5, .int 1), (4, .int 0), (3, .ref o0), (2, .ref m0), (1, .ref x0), (0, .ref b)]) hx hb dL_law_1019 hl (by decide) rfl (fun ls hl => ?_)
  refine lv_aload_n hx hb dL_law_1021 rfl (lv_at hl 3 rfl) ?_
  refine lv_aload_n hx hb dL_law_1022 rfl (lv_at hl 5 rfl) ?_
  refine lv_iload hx hb dL_law_1023 (lv_at hl 1 rfl) ?_
  refine lv_iconst (v := 1) hx hb dL_law_1025 (by decide +kernel) ?_
  refine lv_iadd hx hb dL_law_1026 ?_
  rw [show (0 + 1 : Int32) = 1 by decide]
  refine va_sld hx hb hX hbl hbA hS (i := 1) (by unfold vp_in; decide) dL_law_1027 ?_
  refine lv_aload_n hx hb dL_law_1028 rfl (lv_at hl 5 rfl) ?_
  refine lv_iload hx hb dL_law_1029 (lv_at hl 1 rfl) ?_
  refine lv_iconst (v := 2) hx hb dL_law_1031 (by decide +kernel) ?_
  refine lv_iadd hx hb dL_law_1032 ?_
  rw [show (0 + 2 : Int32) = 2 by decide]
  refine va_sld hx hb hX hbl hbA hS (i := 2) (by unfold vp_in; decide) dL_law_1033 ?_
  have hPc := hP.sub (ws' := [(m0, .inr (12, mf))]) [12] rfl
  have hDc := hD.sub (ws' := [(m0, .inr (12, mf))]) [12] (by decide) rfl
  have hKc := hK.sub (tys' := []) [] rfl
  have hFc := va_free (wc := [(m0, .inr (12, mf))]) hD hS hA [12] rfl
  refine va_calli (va_runV (As := [.int (xs (1 : Int32).toNatClampNeg), .int (xs (2 : Int32).toNatClampNeg)]) (rest := []) ⟨hx, hb, hml, hown, hts⟩ (c_m_thread l D m0 mf (xs (1 : Int32).toNatClampNeg) (xs (2 : Int32).toNatClampNeg) H.size mf_l (mf_z 0 (by decide)) (mf_z 67 (by decide))) (cwV 2 hts g_lw_32 rfl rfl rfl (by decide +kernel) ⟨Nat.le_of_ble_eq_true rfl, Nat.le_of_ble_eq_true rfl⟩) ⟨st_blind, va_recv hKc hPc (ci := 12) (q0 := 0) rfl rfl, fun U hU hW => ⟨rfl, st_call hU hW hPc hKc hDc hZ hS hFc hE⟩⟩ rfl rfl hl.1 rfl (lv_room (Nat.le_of_ble_eq_true rfl)) dL_law_1034 ⟨Nat.le_of_ble_eq_true rfl, Nat.le_of_ble_eq_true rfl⟩) hS (fun q _ h => hFc q h) hFc (fun r3 u4 t H1 locs ht hvm hw hB hz1 hk1 hS => ?_)
  have ht9 := hw
  obtain ⟨hP1, hK1, hD1⟩ := hB
  rw [ht] at hP1
  have hK1 := va_K.moved hvm.symm hK1
  obtain ⟨hP, hD⟩ := va_join (wr := [(tk, .inr (9, tf)), (tx, .inl (cx, 3000, .inl (fun _ => 0))), (so, .inl (cs, 702, .inl (fun _ => 0))), (pl, .inl (cp, 702, .inl (fun _ => 0))), (li, .inl (ci, 702, .inl (fun _ => 0))), (nm, .inr (6, nf)), (us, .inl (cu, 702, .inl (fun _ => 0))), (me, .inl (cm, 702, .inl (fun _ => 0))), (cd, .inr (0, cf)), (sp, .inr (8, sf)), (rd, .inr (7, rf)), (tr, .inl (ct, 2, .inr (.inr (.inr (.inr (fun _ => none)))))), (b0, .inl (d0, 3000, .inl (fun _ => 0))), (b1, .inl (d1, 710, .inl (fun _ => 0))), (b2, .inl (d2, 710, .inl (fun _ => 0))), (b3, .inl (d3, 710, .inl (fun _ => 0))), (b4, .inl (d4, 710, .inl (fun _ => 0))), (b5, .inl (d5, 2, .inl (fun _ => 0))), (o0, .inl (co, 1, .inr (.inl (fun _ => 0))))]) (w1 := [(m0, .inr (12, u4))]) hP hD [12] [0, 1, 2, 3, 4, 5, 6, 7, 8, 9, 10, 11, 13, 14, 15, 16, 17, 18, 19] rfl rfl (by decide) (by decide) hk1 hFc hP1 hD1
  have hK := (hK.sub (tys' := [(cx, .byte), (cs, .int), (cp, .int), (ci, .int), (cu, .int), (cm, .int), (ct, .object "ScheduleHouse$Trial"), (d0, .byte), (d1, .int), (d2, .int), (d3, .int), (d4, .int), (d5, .boolean), (co, .long)]) [0, 1, 2, 3, 4, 5, 6, 7, 8, 9, 10, 11, 12, 13] rfl).app hK1
  generalize H1 = H at hP hS ⊢
  have hP : va_P D vwCl [(tk, .inr (9, tf)), (tx, .inl (cx, 3000, .inl (fun _ => 0))), (so, .inl (cs, 702, .inl (fun _ => 0))), (pl, .inl (cp, 702, .inl (fun _ => 0))), (li, .inl (ci, 702, .inl (fun _ => 0))), (nm, .inr (6, nf)), (us, .inl (cu, 702, .inl (fun _ => 0))), (me, .inl (cm, 702, .inl (fun _ => 0))), (cd, .inr (0, cf)), (sp, .inr (8, sf)), (rd, .inr (7, rf)), (tr, .inl (ct, 2, .inr (.inr (.inr (.inr (fun _ => none)))))), (b0, .inl (d0, 3000, .inl (fun _ => 0))), (b1, .inl (d1, 710, .inl (fun _ => 0))), (b2, .inl (d2, 710, .inl (fun _ => 0))), (b3, .inl (d3, 710, .inl (fun _ => 0))), (b4, .inl (d4, 710, .inl (fun _ => 0))), (b5, .inl (d5, 2, .inl (fun _ => 0))), (o0, .inl (co, 1, .inr (.inl (fun _ => 0)))), (m0, .inr (12, u4))] H := hP
  have hD : va_D (fun q : Nat => s.heap.size ≤ q) [(tk, .inr (9, tf)), (tx, .inl (cx, 3000, .inl (fun _ => 0))), (so, .inl (cs, 702, .inl (fun _ => 0))), (pl, .inl (cp, 702, .inl (fun _ => 0))), (li, .inl (ci, 702, .inl (fun _ => 0))), (nm, .inr (6, nf)), (us, .inl (cu, 702, .inl (fun _ => 0))), (me, .inl (cm, 702, .inl (fun _ => 0))), (cd, .inr (0, cf)), (sp, .inr (8, sf)), (rd, .inr (7, rf)), (tr, .inl (ct, 2, .inr (.inr (.inr (.inr (fun _ => none)))))), (b0, .inl (d0, 3000, .inl (fun _ => 0))), (b1, .inl (d1, 710, .inl (fun _ => 0))), (b2, .inl (d2, 710, .inl (fun _ => 0))), (b3, .inl (d3, 710, .inl (fun _ => 0))), (b4, .inl (d4, 710, .inl (fun _ => 0))), (b5, .inl (d5, 2, .inl (fun _ => 0))), (o0, .inl (co, 1, .inr (.inl (fun _ => 0)))), (m0, .inr (12, u4))] := hD
  have hK : va_K D vwCl [(cx, .byte), (cs, .int), (cp, .int), (ci, .int), (cu, .int), (cm, .int), (ct, .object "ScheduleHouse$Trial"), (d0, .byte), (d1, .int), (d2, .int), (d3, .int), (d4, .int), (d5, .boolean), (co, .long)] s := hK
  refine lv_istore (lv' := [(6, .int r3), (5, .int 1), (4, .int 0), (3, .ref o0), (2, .ref m0), (1, .ref x0), (0, .ref b)]) hx hb dL_law_1037 hl (by decide) rfl (fun ls hl => ?_)
  refine lv_aload_n hx hb dL_law_1039 rfl (lv_at hl 4 rfl) ?_
  have hPc := hP.sub (ws' := [(m0, .inr (12, u4))]) [19] rfl
  have hDc := hD.sub (ws' := [(m0, .inr (12, u4))]) [19] (by decide) rfl
  have hKc := hK.sub (tys' := []) [] rfl
  have hFc := va_free (wc := [(m0, .inr (12, u4))]) hD hS hA [19] rfl
  refine va_calli (va_runV (As := []) (rest := []) ⟨hx, hb, hml, hown, hts⟩ (c_m_thrown l D m0 u4 1 H.size ht9) (cwV 0 hts g_lw_2 rfl rfl rfl (by decide +kernel) ⟨Nat.le_of_ble_eq_true rfl, Nat.le_of_ble_eq_true rfl⟩) ⟨st_blind, va_recv hKc hPc (ci := 12) (q0 := 0) rfl rfl, fun U hU hW => ⟨rfl, st_call hU hW hPc hKc hDc hZ hS hFc hE⟩⟩ rfl rfl hl.1 rfl (lv_room (Nat.le_of_ble_eq_true rfl)) dL_law_1040 ⟨Nat.le_of_ble_eq_true rfl, Nat.le_of_ble_eq_true rfl⟩) hS (fun q _ h => hFc q h) hFc (fun r5 u6 t H1 locs ht hvm hw hB hz1 hk1 hS => ?_)
  obtain ⟨hP, hD⟩ := va_join (wr := [(tk, .inr (9, tf)), (tx, .inl (cx, 3000, .inl (fun _ => 0))), (so, .inl (cs, 702, .inl (fun _ => 0))), (pl, .inl (cp, 702, .inl (fun _ => 0))), (li, .inl (ci, 702, .inl (fun _ => 0))), (nm, .inr (6, nf)), (us, .inl (cu, 702, .inl (fun _ => 0))), (me, .inl (cm, 702, .inl (fun _ => 0))), (cd, .inr (0, cf)), (sp, .inr (8, sf)), (rd, .inr (7, rf)), (tr, .inl (ct, 2, .inr (.inr (.inr (.inr (fun _ => none)))))), (b0, .inl (d0, 3000, .inl (fun _ => 0))), (b1, .inl (d1, 710, .inl (fun _ => 0))), (b2, .inl (d2, 710, .inl (fun _ => 0))), (b3, .inl (d3, 710, .inl (fun _ => 0))), (b4, .inl (d4, 710, .inl (fun _ => 0))), (b5, .inl (d5, 2, .inl (fun _ => 0))), (o0, .inl (co, 1, .inr (.inl (fun _ => 0))))]) (w1 := []) hP hD [19] [0, 1, 2, 3, 4, 5, 6, 7, 8, 9, 10, 11, 12, 13, 14, 15, 16, 17, 18] rfl rfl (by decide) (by decide) hk1 hFc p_nil d_nil
  have hK := hK.sub (tys' := [(cx, .byte), (cs, .int), (cp, .int), (ci, .int), (cu, .int), (cm, .int), (ct, .object "ScheduleHouse$Trial"), (d0, .byte), (d1, .int), (d2, .int), (d3, .int), (d4, .int), (d5, .boolean), (co, .long)]) [0, 1, 2, 3, 4, 5, 6, 7, 8, 9, 10, 11, 12, 13] rfl
  generalize H1 = H at hP hS ⊢
  have hP : va_P D vwCl [(tk, .inr (9, tf)), (tx, .inl (cx, 3000, .inl (fun _ => 0))), (so, .inl (cs, 702, .inl (fun _ => 0))), (pl, .inl (cp, 702, .inl (fun _ => 0))), (li, .inl (ci, 702, .inl (fun _ => 0))), (nm, .inr (6, nf)), (us, .inl (cu, 702, .inl (fun _ => 0))), (me, .inl (cm, 702, .inl (fun _ => 0))), (cd, .inr (0, cf)), (sp, .inr (8, sf)), (rd, .inr (7, rf)), (tr, .inl (ct, 2, .inr (.inr (.inr (.inr (fun _ => none)))))), (b0, .inl (d0, 3000, .inl (fun _ => 0))), (b1, .inl (d1, 710, .inl (fun _ => 0))), (b2, .inl (d2, 710, .inl (fun _ => 0))), (b3, .inl (d3, 710, .inl (fun _ => 0))), (b4, .inl (d4, 710, .inl (fun _ => 0))), (b5, .inl (d5, 2, .inl (fun _ => 0))), (o0, .inl (co, 1, .inr (.inl (fun _ => 0))))] H := hP
  have hD : va_D (fun q : Nat => s.heap.size ≤ q) [(tk, .inr (9, tf)), (tx, .inl (cx, 3000, .inl (fun _ => 0))), (so, .inl (cs, 702, .inl (fun _ => 0))), (pl, .inl (cp, 702, .inl (fun _ => 0))), (li, .inl (ci, 702, .inl (fun _ => 0))), (nm, .inr (6, nf)), (us, .inl (cu, 702, .inl (fun _ => 0))), (me, .inl (cm, 702, .inl (fun _ => 0))), (cd, .inr (0, cf)), (sp, .inr (8, sf)), (rd, .inr (7, rf)), (tr, .inl (ct, 2, .inr (.inr (.inr (.inr (fun _ => none)))))), (b0, .inl (d0, 3000, .inl (fun _ => 0))), (b1, .inl (d1, 710, .inl (fun _ => 0))), (b2, .inl (d2, 710, .inl (fun _ => 0))), (b3, .inl (d3, 710, .inl (fun _ => 0))), (b4, .inl (d4, 710, .inl (fun _ => 0))), (b5, .inl (d5, 2, .inl (fun _ => 0))), (o0, .inl (co, 1, .inr (.inl (fun _ => 0))))] := hD
  have hK : va_K D vwCl [(cx, .byte), (cs, .int), (cp, .int), (ci, .int), (cu, .int), (cm, .int), (ct, .object "ScheduleHouse$Trial"), (d0, .byte), (d1, .int), (d2, .int), (d3, .int), (d4, .int), (d5, .boolean), (co, .long)] s := hK
  subst hw
  refine lv_iload hx hb dL_law_1043 (lv_at hl 1 rfl) ?_
  refine lv_icmp_eq (tgt := 1050) hx hb dL_law_1045 (by decide) (fun _ => ?_) (fun c9 => absurd rfl c9)
  refine lv_iload hx hb dL_law_1050 (lv_at hl 1 rfl) ?_
  refine lv_if_ne (tgt := 1067) hx hb dL_law_1052 (by decide) (fun _ => ?_) (fun c9 => False.elim (by revert c9; decide))
  refine lv_goto (tgt := 1894) hx hb dL_law_1067 (by decide) ?_
  refine W.widen (k := 2000) (n := 2000000) (Nat.le_of_ble_eq_true rfl) (Nat.le_of_ble_eq_true rfl) ?_
  exact law_tail l C0 hS (lv_sub hl [2, 6] rfl)
set_option maxHeartbeats 400000 in
set_option maxRecDepth 100000 in
theorem law_16 {p : Program} {e : Env} {s : State} {m : MethodId} {below : List Frame} {meth : Method} {c : Code} (l : Launch) (hlt : l.stackTraces = false) {b : Nat} {xs : Nat → Int32} (C0 : lw_At p s m meth c b 4 xs) (hE : ev s) (hZ : ev_Z (fun q : Nat => s.heap.size ≤ q) s s.heap) (D : va_G) (x0 tk tx so pl li nm us me cd sp rd tr m0 b0 b1 b2 b3 b4 b5 o0 : Nat) (cx cs cp ci cu cm ct d0 d1 d2 d3 d4 d5 co : ClassId) (xf tf nf cf sf rf mf : List Value) {H : Heap} {locs : List Loc} {ls : Array Slot} (hin : law_in D s H locs x0 tk tx so pl li nm us me cd sp rd tr m0 b0 b1 b2 b3 b4 b5 o0 cx cs cp ci cu cm ct d0 d1 d2 d3 d4 d5 co xf tf nf cf sf rf mf) (hl : lv_has ls 7 [(4, .int 0), (3, .ref o0), (2, .ref m0), (1, .ref x0), (0, .ref b)]) : W p l e room_1 s m #[Value.ref b] below meth c H locs 1000 1000000 (lw_Z below #[Value.ref b] s) (F0 m 1070 ls []) := by
  obtain ⟨hx, hb, hr, hml, hown, hts, hX, hbl, hlocks, hgv⟩ := id C0
  have hA : ∀ q : Nat, s.heap.size ≤ q → (fun q : Nat => s.heap.size ≤ q) q := fun _ h => h
  have hbA : ¬ (fun q : Nat => s.heap.size ≤ q) b := Nat.not_le.mpr hbl
  obtain ⟨hok, hP, hD, hK, hS⟩ := hin
  obtain ⟨xf_l, xf_0, xf_1, xf_2, xf_3, xf_6, xf_9, xf_10, xf_11, xf_12, tf_l, tf_0, tf_1, tf_2, tf_3, tf_4, nf_l, nf_0, nf_1, nf_2, nf_11, cf_l, cf_0, sf_l, rf_l, rf_0, rf_1, rf_2, rf_3, mf_l, mf_z, mf_p, mf_n, mf_r0, mf_r1, mf_r2, mf_r3, mf_r4, mf_r5⟩ := hok
  have hown : s.vm.findClass RL = some m.cls := hown
  refine lv_aload_n hx hb dL_law_1070 rfl (lv_at hl 3 rfl) ?_
  refine lv_aload_n hx hb dL_law_1071 rfl (lv_at hl 4 rfl) ?_
  refine lv_iload hx hb dL_law_1072 (lv_at hl 0 rfl) ?_
  refine lv_iconst (v := 1) hx hb dL_law_1074 (by decide +kernel) ?_
  refine lv_iadd hx hb dL_law_1075 ?_
  rw [show (0 + 1 : Int32) = 1 by decide]
  refine va_sld hx hb hX hbl hbA hS (i := 1) (by unfold vp_in; decide) dL_law_1076 ?_
  refine lv_aload_n hx hb dL_law_1077 rfl (lv_at hl 4 rfl) ?_
  refine lv_iload hx hb dL_law_1078 (lv_at hl 0 rfl) ?_
  refine lv_iconst (v := 2) hx hb dL_law_1080 (by decide +kernel) ?_
  refine lv_iadd hx hb dL_law_1081 ?_
  rw [show (0 + 2 : Int32) = 2 by decide]
  refine va_sld hx hb hX hbl hbA hS (i := 2) (by unfold vp_in; decide) dL_law_1082 ?_
  refine lv_aload_n hx hb dL_law_1083 rfl (lv_at hl 1 rfl) ?_
  have hPc := hP.sub (ws' := [(x0, .inr (11, xf))]) [0] rfl
  have hDc := hD.sub (ws' := [(x0, .inr (11, xf))]) [0] (by decide) rfl
  have hKc := hK.sub (tys' := []) [] rfl
  have hFc := va_free (wc := [(x0, .inr (11, xf))]) hD hS hA [0] rfl
  refine va_calli (vx_runSW (As := [.ref x0, .int (xs (1 : Int32).toNatClampNeg), .int (xs (2 : Int32).toNatClampNeg), .ref o0]) (rest := []) ⟨hx, hb, hml, hown, hts⟩ (c_L_local l D x0 o0 xf (xs (1 : Int32).toNatClampNeg) (xs (2 : Int32).toNatClampNeg) H.size hlt xf_10) (vx_cwSW 4 hts g_lw_33 rfl rfl rfl (by decide +kernel) ⟨Nat.le_of_ble_eq_true rfl, Nat.le_of_ble_eq_true rfl⟩) ⟨st_blind, fun U hU hW => ⟨rfl, st_call hU hW hPc hKc hDc hZ hS hFc hE⟩⟩ rfl rfl hl.1 rfl (lv_room (Nat.le_of_ble_eq_true rfl)) dL_law_1084 ⟨Nat.le_of_ble_eq_true rfl, Nat.le_of_ble_eq_true rfl⟩) hS (fun q _ h => hFc q h) hFc (fun r1 u2 t H1 locs ht hvm hw hB hz1 hk1 hS => ?_)
  obtain ⟨hP, hD⟩ := va_join (wr := [(tk, .inr (9, tf)), (tx, .inl (cx, 3000, .inl (fun _ => 0))), (so, .inl (cs, 702, .inl (fun _ => 0))), (pl, .inl (cp, 702, .inl (fun _ => 0))), (li, .inl (ci, 702, .inl (fun _ => 0))), (nm, .inr (6, nf)), (us, .inl (cu, 702, .inl (fun _ => 0))), (me, .inl (cm, 702, .inl (fun _ => 0))), (cd, .inr (0, cf)), (sp, .inr (8, sf)), (rd, .inr (7, rf)), (tr, .inl (ct, 2, .inr (.inr (.inr (.inr (fun _ => none)))))), (m0, .inr (12, mf)), (b0, .inl (d0, 3000, .inl (fun _ => 0))), (b1, .inl (d1, 710, .inl (fun _ => 0))), (b2, .inl (d2, 710, .inl (fun _ => 0))), (b3, .inl (d3, 710, .inl (fun _ => 0))), (b4, .inl (d4, 710, .inl (fun _ => 0))), (b5, .inl (d5, 2, .inl (fun _ => 0))), (o0, .inl (co, 1, .inr (.inl (fun _ => 0))))]) (w1 := []) hP hD [0] [1, 2, 3, 4, 5, 6, 7, 8, 9, 10, 11, 12, 13, 14, 15, 16, 17, 18, 19, 20] rfl rfl (by decide) (by decide) hk1 hFc p_nil d_nil
  have hK := hK.sub (tys' := [(cx, .byte), (cs, .int), (cp, .int), (ci, .int), (cu, .int), (cm, .int), (ct, .object "ScheduleHouse$Trial"), (d0, .byte), (d1, .int), (d2, .int), (d3, .int), (d4, .int), (d5, .boolean), (co, .long)]) [0, 1, 2, 3, 4, 5, 6, 7, 8, 9, 10, 11, 12, 13] rfl
  generalize H1 = H at hP hS ⊢
  have hP : va_P D vwCl [(tk, .inr (9, tf)), (tx, .inl (cx, 3000, .inl (fun _ => 0))), (so, .inl (cs, 702, .inl (fun _ => 0))), (pl, .inl (cp, 702, .inl (fun _ => 0))), (li, .inl (ci, 702, .inl (fun _ => 0))), (nm, .inr (6, nf)), (us, .inl (cu, 702, .inl (fun _ => 0))), (me, .inl (cm, 702, .inl (fun _ => 0))), (cd, .inr (0, cf)), (sp, .inr (8, sf)), (rd, .inr (7, rf)), (tr, .inl (ct, 2, .inr (.inr (.inr (.inr (fun _ => none)))))), (m0, .inr (12, mf)), (b0, .inl (d0, 3000, .inl (fun _ => 0))), (b1, .inl (d1, 710, .inl (fun _ => 0))), (b2, .inl (d2, 710, .inl (fun _ => 0))), (b3, .inl (d3, 710, .inl (fun _ => 0))), (b4, .inl (d4, 710, .inl (fun _ => 0))), (b5, .inl (d5, 2, .inl (fun _ => 0))), (o0, .inl (co, 1, .inr (.inl (fun _ => 0))))] H := hP
  have hD : va_D (fun q : Nat => s.heap.size ≤ q) [(tk, .inr (9, tf)), (tx, .inl (cx, 3000, .inl (fun _ => 0))), (so, .inl (cs, 702, .inl (fun _ => 0))), (pl, .inl (cp, 702, .inl (fun _ => 0))), (li, .inl (ci, 702, .inl (fun _ => 0))), (nm, .inr (6, nf)), (us, .inl (cu, 702, .inl (fun _ => 0))), (me, .inl (cm, 702, .inl (fun _ => 0))), (cd, .inr (0, cf)), (sp, .inr (8, sf)), (rd, .inr (7, rf)), (tr, .inl (ct, 2, .inr (.inr (.inr (.inr (fun _ => none)))))), (m0, .inr (12, mf)), (b0, .inl (d0, 3000, .inl (fun _ => 0))), (b1, .inl (d1, 710, .inl (fun _ => 0))), (b2, .inl (d2, 710, .inl (fun _ => 0))), (b3, .inl (d3, 710, .inl (fun _ => 0))), (b4, .inl (d4, 710, .inl (fun _ => 0))), (b5, .inl (d5, 2, .inl (fun _ => 0))), (o0, .inl (co, 1, .inr (.inl (fun _ => 0))))] := hD
  have hK : va_K D vwCl [(cx, .byte), (cs, .int), (cp, .int), (ci, .int), (cu, .int), (cm, .int), (ct, .object "ScheduleHouse$Trial"), (d0, .byte), (d1, .int), (d2, .int), (d3, .int), (d4, .int), (d5, .boolean), (co, .long)] s := hK
  subst hw
  refine lv_istore (lv' := [(5, .int 1), (4, .int 0), (3, .ref o0), (2, .ref m0), (1, .ref x0), (0, .ref b)]) hx hb dL_law_1087 hl (by decide) rfl (fun ls hl => ?_)
  refine lv_aload_n hx hb dL_law_1089 rfl (lv_at hl 3 rfl) ?_
  refine lv_aload_n hx hb dL_law_1090 rfl (lv_at hl 5 rfl) ?_
  refine lv_iload hx hb dL_law_1091 (lv_at hl 1 rfl) ?_
  refine lv_iconst (v := 1) hx hb dL_law_1093 (by decide +kernel) ?_
  refine lv_iadd hx hb dL_law_1094 ?_
  rw [show (0 + 1 : Int32) = 1 by decide]
  refine va_sld hx hb hX hbl hbA hS (i := 1) (by unfold vp_in; decide) dL_law_1095 ?_
  refine lv_aload_n hx hb dL_law_1096 rfl (lv_at hl 5 rfl) ?_
  refine lv_iload hx hb dL_law_1097 (lv_at hl 1 rfl) ?_
  refine lv_iconst (v := 2) hx hb dL_law_1099 (by decide +kernel) ?_
  refine lv_iadd hx hb dL_law_1100 ?_
  rw [show (0 + 2 : Int32) = 2 by decide]
  refine va_sld hx hb hX hbl hbA hS (i := 2) (by unfold vp_in; decide) dL_law_1101 ?_
  have hPc := hP.sub (ws' := [(m0, .inr (12, mf))]) [12] rfl
  have hDc := hD.sub (ws' := [(m0, .inr (12, mf))]) [12] (by decide) rfl
  have hKc := hK.sub (tys' := []) [] rfl
  have hFc := va_free (wc := [(m0, .inr (12, mf))]) hD hS hA [12] rfl
  refine va_calli (va_runV (As := [.int (xs (1 : Int32).toNatClampNeg), .int (xs (2 : Int32).toNatClampNeg)]) (rest := []) ⟨hx, hb, hml, hown, hts⟩ (c_m_local l D m0 mf (xs (1 : Int32).toNatClampNeg) (xs (2 : Int32).toNatClampNeg) H.size mf_l (mf_z 0 (by decide)) (mf_z 67 (by decide))) (cwV 2 hts g_lw_34 rfl rfl rfl (by decide +kernel) ⟨Nat.le_of_ble_eq_true rfl, Nat.le_of_ble_eq_true rfl⟩) ⟨st_blind, va_recv hKc hPc (ci := 12) (q0 := 0) rfl rfl, fun U hU hW => ⟨rfl, st_call hU hW hPc hKc hDc hZ hS hFc hE⟩⟩ rfl rfl hl.1 rfl (lv_room (Nat.le_of_ble_eq_true rfl)) dL_law_1102 ⟨Nat.le_of_ble_eq_true rfl, Nat.le_of_ble_eq_true rfl⟩) hS (fun q _ h => hFc q h) hFc (fun r3 u4 t H1 locs ht hvm hw hB hz1 hk1 hS => ?_)
  have ht9 := hw
  obtain ⟨hP1, hK1, hD1⟩ := hB
  rw [ht] at hP1
  have hK1 := va_K.moved hvm.symm hK1
  obtain ⟨hP, hD⟩ := va_join (wr := [(tk, .inr (9, tf)), (tx, .inl (cx, 3000, .inl (fun _ => 0))), (so, .inl (cs, 702, .inl (fun _ => 0))), (pl, .inl (cp, 702, .inl (fun _ => 0))), (li, .inl (ci, 702, .inl (fun _ => 0))), (nm, .inr (6, nf)), (us, .inl (cu, 702, .inl (fun _ => 0))), (me, .inl (cm, 702, .inl (fun _ => 0))), (cd, .inr (0, cf)), (sp, .inr (8, sf)), (rd, .inr (7, rf)), (tr, .inl (ct, 2, .inr (.inr (.inr (.inr (fun _ => none)))))), (b0, .inl (d0, 3000, .inl (fun _ => 0))), (b1, .inl (d1, 710, .inl (fun _ => 0))), (b2, .inl (d2, 710, .inl (fun _ => 0))), (b3, .inl (d3, 710, .inl (fun _ => 0))), (b4, .inl (d4, 710, .inl (fun _ => 0))), (b5, .inl (d5, 2, .inl (fun _ => 0))), (o0, .inl (co, 1, .inr (.inl (fun _ => 0))))]) (w1 := [(m0, .inr (12, u4))]) hP hD [12] [0, 1, 2, 3, 4, 5, 6, 7, 8, 9, 10, 11, 13, 14, 15, 16, 17, 18, 19] rfl rfl (by decide) (by decide) hk1 hFc hP1 hD1
  have hK := (hK.sub (tys' := [(cx, .byte), (cs, .int), (cp, .int), (ci, .int), (cu, .int), (cm, .int), (ct, .object "ScheduleHouse$Trial"), (d0, .byte), (d1, .int), (d2, .int), (d3, .int), (d4, .int), (d5, .boolean), (co, .long)]) [0, 1, 2, 3, 4, 5, 6, 7, 8, 9, 10, 11, 12, 13] rfl).app hK1
  generalize H1 = H at hP hS ⊢
  have hP : va_P D vwCl [(tk, .inr (9, tf)), (tx, .inl (cx, 3000, .inl (fun _ => 0))), (so, .inl (cs, 702, .inl (fun _ => 0))), (pl, .inl (cp, 702, .inl (fun _ => 0))), (li, .inl (ci, 702, .inl (fun _ => 0))), (nm, .inr (6, nf)), (us, .inl (cu, 702, .inl (fun _ => 0))), (me, .inl (cm, 702, .inl (fun _ => 0))), (cd, .inr (0, cf)), (sp, .inr (8, sf)), (rd, .inr (7, rf)), (tr, .inl (ct, 2, .inr (.inr (.inr (.inr (fun _ => none)))))), (b0, .inl (d0, 3000, .inl (fun _ => 0))), (b1, .inl (d1, 710, .inl (fun _ => 0))), (b2, .inl (d2, 710, .inl (fun _ => 0))), (b3, .inl (d3, 710, .inl (fun _ => 0))), (b4, .inl (d4, 710, .inl (fun _ => 0))), (b5, .inl (d5, 2, .inl (fun _ => 0))), (o0, .inl (co, 1, .inr (.inl (fun _ => 0)))), (m0, .inr (12, u4))] H := hP
  have hD : va_D (fun q : Nat => s.heap.size ≤ q) [(tk, .inr (9, tf)), (tx, .inl (cx, 3000, .inl (fun _ => 0))), (so, .inl (cs, 702, .inl (fun _ => 0))), (pl, .inl (cp, 702, .inl (fun _ => 0))), (li, .inl (ci, 702, .inl (fun _ => 0))), (nm, .inr (6, nf)), (us, .inl (cu, 702, .inl (fun _ => 0))), (me, .inl (cm, 702, .inl (fun _ => 0))), (cd, .inr (0, cf)), (sp, .inr (8, sf)), (rd, .inr (7, rf)), (tr, .inl (ct, 2, .inr (.inr (.inr (.inr (fun _ => none)))))), (b0, .inl (d0, 3000, .inl (fun _ => 0))), (b1, .inl (d1, 710, .inl (fun _ => 0))), (b2, .inl (d2, 710, .inl (fun _ => 0))), (b3, .inl (d3, 710, .inl (fun _ => 0))), (b4, .inl (d4, 710, .inl (fun _ => 0))), (b5, .inl (d5, 2, .inl (fun _ => 0))), (o0, .inl (co, 1, .inr (.inl (fun _ => 0)))), (m0, .inr (12, u4))] := hD
  have hK : va_K D vwCl [(cx, .byte), (cs, .int), (cp, .int), (ci, .int), (cu, .int), (cm, .int), (ct, .object "ScheduleHouse$Trial"), (d0, .byte), (d1, .int), (d2, .int), (d3, .int), (d4, .int), (d5, .boolean), (co, .long)] s := hK
  refine lv_istore (lv' := [(6, .int r3), (5, .int 1), (4, .int 0), (3, .ref o0), (2, .ref m0), (1, .ref x0), (0, .ref b)]) hx hb dL_law_1105 hl (by decide) rfl (fun ls hl => ?_)
  refine lv_aload_n hx hb dL_law_1107 rfl (lv_at hl 4 rfl) ?_
  have hPc := hP.sub (ws' := [(m0, .inr (12, u4))]) [19] rfl
  have hDc := hD.sub (ws' := [(m0, .inr (12, u4))]) [19] (by decide) rfl
  have hKc := hK.sub (tys' := []) [] rfl
  have hFc := va_free (wc := [(m0, .inr (12, u4))]) hD hS hA [19] rfl
  refine va_calli (va_runV (As := []) (rest := []) ⟨hx, hb, hml, hown, hts⟩ (c_m_thrown l D m0 u4 1 H.size ht9) (cwV 0 hts g_lw_2 rfl rfl rfl (by decide +kernel) ⟨Nat.le_of_ble_eq_true rfl, Nat.le_of_ble_eq_true rfl⟩) ⟨st_blind, va_recv hKc hPc (ci := 12) (q0 := 0) rfl rfl, fun U hU hW => ⟨rfl, st_call hU hW hPc hKc hDc hZ hS hFc hE⟩⟩ rfl rfl hl.1 rfl (lv_room (Nat.le_of_ble_eq_true rfl)) dL_law_1108 ⟨Nat.le_of_ble_eq_true rfl, Nat.le_of_ble_eq_true rfl⟩) hS (fun q _ h => hFc q h) hFc (fun r5 u6 t H1 locs ht hvm hw hB hz1 hk1 hS => ?_)
  obtain ⟨hP, hD⟩ := va_join (wr := [(tk, .inr (9, tf)), (tx, .inl (cx, 3000, .inl (fun _ => 0))), (so, .inl (cs, 702, .inl (fun _ => 0))), (pl, .inl (cp, 702, .inl (fun _ => 0))), (li, .inl (ci, 702, .inl (fun _ => 0))), (nm, .inr (6, nf)), (us, .inl (cu, 702, .inl (fun _ => 0))), (me, .inl (cm, 702, .inl (fun _ => 0))), (cd, .inr (0, cf)), (sp, .inr (8, sf)), (rd, .inr (7, rf)), (tr, .inl (ct, 2, .inr (.inr (.inr (.inr (fun _ => none)))))), (b0, .inl (d0, 3000, .inl (fun _ => 0))), (b1, .inl (d1, 710, .inl (fun _ => 0))), (b2, .inl (d2, 710, .inl (fun _ => 0))), (b3, .inl (d3, 710, .inl (fun _ => 0))), (b4, .inl (d4, 710, .inl (fun _ => 0))), (b5, .inl (d5, 2, .inl (fun _ => 0))), (o0, .inl (co, 1, .inr (.inl (fun _ => 0))))]) (w1 := []) hP hD [19] [0, 1, 2, 3, 4, 5, 6, 7, 8, 9, 10, 11, 12, 13, 14, 15, 16, 17, 18] rfl rfl (by decide) (by decide) hk1 hFc p_nil d_nil
  have hK := hK.sub (tys' := [(cx, .byte), (cs, .int), (cp, .int), (ci, .int), (cu, .int), (cm, .int), (ct, .object "ScheduleHouse$Trial"), (d0, .byte), (d1, .int), (d2, .int), (d3, .int), (d4, .int), (d5, .boolean), (co, .long)]) [0, 1, 2, 3, 4, 5, 6, 7, 8, 9, 10, 11, 12, 13] rfl
  generalize H1 = H at hP hS ⊢
  have hP : va_P D vwCl [(tk, .inr (9, tf)), (tx, .inl (cx, 3000, .inl (fun _ => 0))), (so, .inl (cs, 702, .inl (fun _ => 0))), (pl, .inl (cp, 702, .inl (fun _ => 0))), (li, .inl (ci, 702, .inl (fun _ => 0))), (nm, .inr (6, nf)), (us, .inl (cu, 702, .inl (fun _ => 0))), (me, .inl (cm, 702, .inl (fun _ => 0))), (cd, .inr (0, cf)), (sp, .inr (8, sf)), (rd, .inr (7, rf)), (tr, .inl (ct, 2, .inr (.inr (.inr (.inr (fun _ => none)))))), (b0, .inl (d0, 3000, .inl (fun _ => 0))), (b1, .inl (d1, 710, .inl (fun _ => 0))), (b2, .inl (d2, 710, .inl (fun _ => 0))), (b3, .inl (d3, 710, .inl (fun _ => 0))), (b4, .inl (d4, 710, .inl (fun _ => 0))), (b5, .inl (d5, 2, .inl (fun _ => 0))), (o0, .inl (co, 1, .inr (.inl (fun _ => 0))))] H := hP
  have hD : va_D (fun q : Nat => s.heap.size ≤ q) [(tk, .inr (9, tf)), (tx, .inl (cx, 3000, .inl (fun _ => 0))), (so, .inl (cs, 702, .inl (fun _ => 0))), (pl, .inl (cp, 702, .inl (fun _ => 0))), (li, .inl (ci, 702, .inl (fun _ => 0))), (nm, .inr (6, nf)), (us, .inl (cu, 702, .inl (fun _ => 0))), (me, .inl (cm, 702, .inl (fun _ => 0))), (cd, .inr (0, cf)), (sp, .inr (8, sf)), (rd, .inr (7, rf)), (tr, .inl (ct, 2, .inr (.inr (.inr (.inr (fun _ => none)))))), (b0, .inl (d0, 3000, .inl (fun _ => 0))), (b1, .inl (d1, 710, .inl (fun _ => 0))), (b2, .inl (d2, 710, .inl (fun _ => 0))), (b3, .inl (d3, 710, .inl (fun _ => 0))), (b4, .inl (d4, 710, .inl (fun _ => 0))), (b5, .inl (d5, 2, .inl (fun _ => 0))), (o0, .inl (co, 1, .inr (.inl (fun _ => 0))))] := hD
  have hK : va_K D vwCl [(cx, .byte), (cs, .int), (cp, .int), (ci, .int), (cu, .int), (cm, .int), (ct, .object "ScheduleHouse$Trial"), (d0, .byte), (d1, .int), (d2, .int), (d3, .int), (d4, .int), (d5, .boolean), (co, .long)] s := hK
  subst hw
  refine lv_iload hx hb dL_law_1111 (lv_at hl 1 rfl) ?_
  refine lv_icmp_eq (tgt := 1118) hx hb dL_law_1113 (by decide) (fun _ => ?_) (fun c9 => absurd rfl c9)
  refine lv_iload hx hb dL_law_1118 (lv_at hl 1 rfl) ?_
  refine lv_if_ne (tgt := 1135) hx hb dL_law_1120 (by decide) (fun _ => ?_) (fun c9 => False.elim (by revert c9; decide))
  refine lv_goto (tgt := 1894) hx hb dL_law_1135 (by decide) ?_
  refine W.widen (k := 2000) (n := 2000000) (Nat.le_of_ble_eq_true rfl) (Nat.le_of_ble_eq_true rfl) ?_
  exact law_tail l C0 hS (lv_sub hl [2, 6] rfl)
set_option maxHeartbeats 400000 in
set_option maxRecDepth 100000 in
theorem law_17 {p : Program} {e : Env} {s : State} {m : MethodId} {below : List Frame} {meth : Method} {c : Code} (l : Launch) (hlt : l.stackTraces = false) {b : Nat} {xs : Nat → Int32} (C0 : lw_At p s m meth c b 4 xs) (hE : ev s) (hZ : ev_Z (fun q : Nat => s.heap.size ≤ q) s s.heap) (D : va_G) (x0 tk tx so pl li nm us me cd sp rd tr m0 b0 b1 b2 b3 b4 b5 o0 : Nat) (cx cs cp ci cu cm ct d0 d1 d2 d3 d4 d5 co : ClassId) (xf tf nf cf sf rf mf : List Value) {H : Heap} {locs : List Loc} {ls : Array Slot} (hin : law_in D s H locs x0 tk tx so pl li nm us me cd sp rd tr m0 b0 b1 b2 b3 b4 b5 o0 cx cs cp ci cu cm ct d0 d1 d2 d3 d4 d5 co xf tf nf cf sf rf mf) (hl : lv_has ls 7 [(4, .int 0), (3, .ref o0), (2, .ref m0), (1, .ref x0), (0, .ref b)]) : W p l e room_1 s m #[Value.ref b] below meth c H locs 1000 1000000 (lw_Z below #[Value.ref b] s) (F0 m 1138 ls []) := by
  obtain ⟨hx, hb, hr, hml, hown, hts, hX, hbl, hlocks, hgv⟩ := id C0
  have hA : ∀ q : Nat, s.heap.size ≤ q → (fun q : Nat => s.heap.size ≤ q) q := fun _ h => h
  have hbA : ¬ (fun q : Nat => s.heap.size ≤ q) b := Nat.not_le.mpr hbl
  obtain ⟨hok, hP, hD, hK, hS⟩ := hin
  obtain ⟨xf_l, xf_0, xf_1, xf_2, xf_3, xf_6, xf_9, xf_10, xf_11, xf_12, tf_l, tf_0, tf_1, tf_2, tf_3, tf_4, nf_l, nf_0, nf_1, nf_2, nf_11, cf_l, cf_0, sf_l, rf_l, rf_0, rf_1, rf_2, rf_3, mf_l, mf_z, mf_p, mf_n, mf_r0, mf_r1, mf_r2, mf_r3, mf_r4, mf_r5⟩ := hok
  have hown : s.vm.findClass RL = some m.cls := hown
  refine lv_aload_n hx hb dL_law_1138 rfl (lv_at hl 3 rfl) ?_
  refine lv_aload_n hx hb dL_law_1139 rfl (lv_at hl 4 rfl) ?_
  refine lv_iload hx hb dL_law_1140 (lv_at hl 0 rfl) ?_
  refine lv_iconst (v := 1) hx hb dL_law_1142 (by decide +kernel) ?_
  refine lv_iadd hx hb dL_law_1143 ?_
  rw [show (0 + 1 : Int32) = 1 by decide]
  refine va_sld hx hb hX hbl hbA hS (i := 1) (by unfold vp_in; decide) dL_law_1144 ?_
  refine lv_aload_n hx hb dL_law_1145 rfl (lv_at hl 4 rfl) ?_
  refine lv_iload hx hb dL_law_1146 (lv_at hl 0 rfl) ?_
  refine lv_iconst (v := 2) hx hb dL_law_1148 (by decide +kernel) ?_
  refine lv_iadd hx hb dL_law_1149 ?_
  rw [show (0 + 2 : Int32) = 2 by decide]
  refine va_sld hx hb hX hbl hbA hS (i := 2) (by unfold vp_in; decide) dL_law_1150 ?_
  refine lv_aload_n hx hb dL_law_1151 rfl (lv_at hl 1 rfl) ?_
  have hPc := hP.sub (ws' := [(x0, .inr (11, xf))]) [0] rfl
  have hDc := hD.sub (ws' := [(x0, .inr (11, xf))]) [0] (by decide) rfl
  have hKc := hK.sub (tys' := []) [] rfl
  have hFc := va_free (wc := [(x0, .inr (11, xf))]) hD hS hA [0] rfl
  refine va_calli (vx_runSW (As := [.ref x0, .int (xs (1 : Int32).toNatClampNeg), .int (xs (2 : Int32).toNatClampNeg), .ref o0]) (rest := []) ⟨hx, hb, hml, hown, hts⟩ (c_L_act l D x0 o0 xf (xs (1 : Int32).toNatClampNeg) (xs (2 : Int32).toNatClampNeg) H.size hlt xf_10) (vx_cwSW 4 hts g_lw_35 rfl rfl rfl (by decide +kernel) ⟨Nat.le_of_ble_eq_true rfl, Nat.le_of_ble_eq_true rfl⟩) ⟨st_blind, fun U hU hW => ⟨rfl, st_call hU hW hPc hKc hDc hZ hS hFc hE⟩⟩ rfl rfl hl.1 rfl (lv_room (Nat.le_of_ble_eq_true rfl)) dL_law_1152 ⟨Nat.le_of_ble_eq_true rfl, Nat.le_of_ble_eq_true rfl⟩) hS (fun q _ h => hFc q h) hFc (fun r1 u2 t H1 locs ht hvm hw hB hz1 hk1 hS => ?_)
  obtain ⟨hP, hD⟩ := va_join (wr := [(tk, .inr (9, tf)), (tx, .inl (cx, 3000, .inl (fun _ => 0))), (so, .inl (cs, 702, .inl (fun _ => 0))), (pl, .inl (cp, 702, .inl (fun _ => 0))), (li, .inl (ci, 702, .inl (fun _ => 0))), (nm, .inr (6, nf)), (us, .inl (cu, 702, .inl (fun _ => 0))), (me, .inl (cm, 702, .inl (fun _ => 0))), (cd, .inr (0, cf)), (sp, .inr (8, sf)), (rd, .inr (7, rf)), (tr, .inl (ct, 2, .inr (.inr (.inr (.inr (fun _ => none)))))), (m0, .inr (12, mf)), (b0, .inl (d0, 3000, .inl (fun _ => 0))), (b1, .inl (d1, 710, .inl (fun _ => 0))), (b2, .inl (d2, 710, .inl (fun _ => 0))), (b3, .inl (d3, 710, .inl (fun _ => 0))), (b4, .inl (d4, 710, .inl (fun _ => 0))), (b5, .inl (d5, 2, .inl (fun _ => 0))), (o0, .inl (co, 1, .inr (.inl (fun _ => 0))))]) (w1 := []) hP hD [0] [1, 2, 3, 4, 5, 6, 7, 8, 9, 10, 11, 12, 13, 14, 15, 16, 17, 18, 19, 20] rfl rfl (by decide) (by decide) hk1 hFc p_nil d_nil
  have hK := hK.sub (tys' := [(cx, .byte), (cs, .int), (cp, .int), (ci, .int), (cu, .int), (cm, .int), (ct, .object "ScheduleHouse$Trial"), (d0, .byte), (d1, .int), (d2, .int), (d3, .int), (d4, .int), (d5, .boolean), (co, .long)]) [0, 1, 2, 3, 4, 5, 6, 7, 8, 9, 10, 11, 12, 13] rfl
  generalize H1 = H at hP hS ⊢
  have hP : va_P D vwCl [(tk, .inr (9, tf)), (tx, .inl (cx, 3000, .inl (fun _ => 0))), (so, .inl (cs, 702, .inl (fun _ => 0))), (pl, .inl (cp, 702, .inl (fun _ => 0))), (li, .inl (ci, 702, .inl (fun _ => 0))), (nm, .inr (6, nf)), (us, .inl (cu, 702, .inl (fun _ => 0))), (me, .inl (cm, 702, .inl (fun _ => 0))), (cd, .inr (0, cf)), (sp, .inr (8, sf)), (rd, .inr (7, rf)), (tr, .inl (ct, 2, .inr (.inr (.inr (.inr (fun _ => none)))))), (m0, .inr (12, mf)), (b0, .inl (d0, 3000, .inl (fun _ => 0))), (b1, .inl (d1, 710, .inl (fun _ => 0))), (b2, .inl (d2, 710, .inl (fun _ => 0))), (b3, .inl (d3, 710, .inl (fun _ => 0))), (b4, .inl (d4, 710, .inl (fun _ => 0))), (b5, .inl (d5, 2, .inl (fun _ => 0))), (o0, .inl (co, 1, .inr (.inl (fun _ => 0))))] H := hP
  have hD : va_D (fun q : Nat => s.heap.size ≤ q) [(tk, .inr (9, tf)), (tx, .inl (cx, 3000, .inl (fun _ => 0))), (so, .inl (cs, 702, .inl (fun _ => 0))), (pl, .inl (cp, 702, .inl (fun _ => 0))), (li, .inl (ci, 702, .inl (fun _ => 0))), (nm, .inr (6, nf)), (us, .inl (cu, 702, .inl (fun _ => 0))), (me, .inl (cm, 702, .inl (fun _ => 0))), (cd, .inr (0, cf)), (sp, .inr (8, sf)), (rd, .inr (7, rf)), (tr, .inl (ct, 2, .inr (.inr (.inr (.inr (fun _ => none)))))), (m0, .inr (12, mf)), (b0, .inl (d0, 3000, .inl (fun _ => 0))), (b1, .inl (d1, 710, .inl (fun _ => 0))), (b2, .inl (d2, 710, .inl (fun _ => 0))), (b3, .inl (d3, 710, .inl (fun _ => 0))), (b4, .inl (d4, 710, .inl (fun _ => 0))), (b5, .inl (d5, 2, .inl (fun _ => 0))), (o0, .inl (co, 1, .inr (.inl (fun _ => 0))))] := hD
  have hK : va_K D vwCl [(cx, .byte), (cs, .int), (cp, .int), (ci, .int), (cu, .int), (cm, .int), (ct, .object "ScheduleHouse$Trial"), (d0, .byte), (d1, .int), (d2, .int), (d3, .int), (d4, .int), (d5, .boolean), (co, .long)] s := hK
  subst hw
  refine lv_istore (lv' := [(5, .int 1), (4, .int 0), (3, .ref o0), (2, .ref m0), (1, .ref x0), (0, .ref b)]) hx hb dL_law_1155 hl (by decide) rfl (fun ls hl => ?_)
  refine lv_aload_n hx hb dL_law_1157 rfl (lv_at hl 3 rfl) ?_
  refine lv_aload_n hx hb dL_law_1158 rfl (lv_at hl 5 rfl) ?_
  refine lv_iload hx hb dL_law_1159 (lv_at hl 1 rfl) ?_
  refine lv_iconst (v := 1) hx hb dL_law_1161 (by decide +kernel) ?_
  refine lv_iadd hx hb dL_law_1162 ?_
  rw [show (0 + 1 : Int32) = 1 by decide]
  refine va_sld hx hb hX hbl hbA hS (i := 1) (by unfold vp_in; decide) dL_law_1163 ?_
  refine lv_aload_n hx hb dL_law_1164 rfl (lv_at hl 5 rfl) ?_
  refine lv_iload hx hb dL_law_1165 (lv_at hl 1 rfl) ?_
  refine lv_iconst (v := 2) hx hb dL_law_1167 (by decide +kernel) ?_
  refine lv_iadd hx hb dL_law_1168 ?_
  rw [show (0 + 2 : Int32) = 2 by decide]
  refine va_sld hx hb hX hbl hbA hS (i := 2) (by unfold vp_in; decide) dL_law_1169 ?_
  have hPc := hP.sub (ws' := [(m0, .inr (12, mf))]) [12] rfl
  have hDc := hD.sub (ws' := [(m0, .inr (12, mf))]) [12] (by decide) rfl
  have hKc := hK.sub (tys' := []) [] rfl
  have hFc := va_free (wc := [(m0, .inr (12, mf))]) hD hS hA [12] rfl
  refine va_calli (va_runV (As := [.int (xs (1 : Int32).toNatClampNeg), .int (xs (2 : Int32).toNatClampNeg)]) (rest := []) ⟨hx, hb, hml, hown, hts⟩ (c_m_act l D m0 mf (xs (1 : Int32).toNatClampNeg) (xs (2 : Int32).toNatClampNeg) H.size mf_l (mf_z 0 (by decide)) (mf_z 67 (by decide))) (cwV 2 hts g_lw_36 rfl rfl rfl (by decide +kernel) ⟨Nat.le_of_ble_eq_true rfl, Nat.le_of_ble_eq_true rfl⟩) ⟨st_blind, va_recv hKc hPc (ci := 12) (q0 := 0) rfl rfl, fun U hU hW => ⟨rfl, st_call hU hW hPc hKc hDc hZ hS hFc hE⟩⟩ rfl rfl hl.1 rfl (lv_room (Nat.le_of_ble_eq_true rfl)) dL_law_1170 ⟨Nat.le_of_ble_eq_true rfl, Nat.le_of_ble_eq_true rfl⟩) hS (fun q _ h => hFc q h) hFc (fun r3 u4 t H1 locs ht hvm hw hB hz1 hk1 hS => ?_)
  have ht9 := hw
  obtain ⟨hP1, hK1, hD1⟩ := hB
  rw [ht] at hP1
  have hK1 := va_K.moved hvm.symm hK1
  obtain ⟨hP, hD⟩ := va_join (wr := [(tk, .inr (9, tf)), (tx, .inl (cx, 3000, .inl (fun _ => 0))), (so, .inl (cs, 702, .inl (fun _ => 0))), (pl, .inl (cp, 702, .inl (fun _ => 0))), (li, .inl (ci, 702, .inl (fun _ => 0))), (nm, .inr (6, nf)), (us, .inl (cu, 702, .inl (fun _ => 0))), (me, .inl (cm, 702, .inl (fun _ => 0))), (cd, .inr (0, cf)), (sp, .inr (8, sf)), (rd, .inr (7, rf)), (tr, .inl (ct, 2, .inr (.inr (.inr (.inr (fun _ => none)))))), (b0, .inl (d0, 3000, .inl (fun _ => 0))), (b1, .inl (d1, 710, .inl (fun _ => 0))), (b2, .inl (d2, 710, .inl (fun _ => 0))), (b3, .inl (d3, 710, .inl (fun _ => 0))), (b4, .inl (d4, 710, .inl (fun _ => 0))), (b5, .inl (d5, 2, .inl (fun _ => 0))), (o0, .inl (co, 1, .inr (.inl (fun _ => 0))))]) (w1 := [(m0, .inr (12, u4))]) hP hD [12] [0, 1, 2, 3, 4, 5, 6, 7, 8, 9, 10, 11, 13, 14, 15, 16, 17, 18, 19] rfl rfl (by decide) (by decide) hk1 hFc hP1 hD1
  have hK := (hK.sub (tys' := [(cx, .byte), (cs, .int), (cp, .int), (ci, .int), (cu, .int), (cm, .int), (ct, .object "ScheduleHouse$Trial"), (d0, .byte), (d1, .int), (d2, .int), (d3, .int), (d4, .int), (d5, .boolean), (co, .long)]) [0, 1, 2, 3, 4, 5, 6, 7, 8, 9, 10, 11, 12, 13] rfl).app hK1
  generalize H1 = H at hP hS ⊢
  have hP : va_P D vwCl [(tk, .inr (9, tf)), (tx, .inl (cx, 3000, .inl (fun _ => 0))), (so, .inl (cs, 702, .inl (fun _ => 0))), (pl, .inl (cp, 702, .inl (fun _ => 0))), (li, .inl (ci, 702, .inl (fun _ => 0))), (nm, .inr (6, nf)), (us, .inl (cu, 702, .inl (fun _ => 0))), (me, .inl (cm, 702, .inl (fun _ => 0))), (cd, .inr (0, cf)), (sp, .inr (8, sf)), (rd, .inr (7, rf)), (tr, .inl (ct, 2, .inr (.inr (.inr (.inr (fun _ => none)))))), (b0, .inl (d0, 3000, .inl (fun _ => 0))), (b1, .inl (d1, 710, .inl (fun _ => 0))), (b2, .inl (d2, 710, .inl (fun _ => 0))), (b3, .inl (d3, 710, .inl (fun _ => 0))), (b4, .inl (d4, 710, .inl (fun _ => 0))), (b5, .inl (d5, 2, .inl (fun _ => 0))), (o0, .inl (co, 1, .inr (.inl (fun _ => 0)))), (m0, .inr (12, u4))] H := hP
  have hD : va_D (fun q : Nat => s.heap.size ≤ q) [(tk, .inr (9, tf)), (tx, .inl (cx, 3000, .inl (fun _ => 0))), (so, .inl (cs, 702, .inl (fun _ => 0))), (pl, .inl (cp, 702, .inl (fun _ => 0))), (li, .inl (ci, 702, .inl (fun _ => 0))), (nm, .inr (6, nf)), (us, .inl (cu, 702, .inl (fun _ => 0))), (me, .inl (cm, 702, .inl (fun _ => 0))), (cd, .inr (0, cf)), (sp, .inr (8, sf)), (rd, .inr (7, rf)), (tr, .inl (ct, 2, .inr (.inr (.inr (.inr (fun _ => none)))))), (b0, .inl (d0, 3000, .inl (fun _ => 0))), (b1, .inl (d1, 710, .inl (fun _ => 0))), (b2, .inl (d2, 710, .inl (fun _ => 0))), (b3, .inl (d3, 710, .inl (fun _ => 0))), (b4, .inl (d4, 710, .inl (fun _ => 0))), (b5, .inl (d5, 2, .inl (fun _ => 0))), (o0, .inl (co, 1, .inr (.inl (fun _ => 0)))), (m0, .inr (12, u4))] := hD
  have hK : va_K D vwCl [(cx, .byte), (cs, .int), (cp, .int), (ci, .int), (cu, .int), (cm, .int), (ct, .object "ScheduleHouse$Trial"), (d0, .byte), (d1, .int), (d2, .int), (d3, .int), (d4, .int), (d5, .boolean), (co, .long)] s := hK
  refine lv_istore (lv' := [(6, .int r3), (5, .int 1), (4, .int 0), (3, .ref o0), (2, .ref m0), (1, .ref x0), (0, .ref b)]) hx hb dL_law_1173 hl (by decide) rfl (fun ls hl => ?_)
  refine lv_aload_n hx hb dL_law_1175 rfl (lv_at hl 4 rfl) ?_
  have hPc := hP.sub (ws' := [(m0, .inr (12, u4))]) [19] rfl
  have hDc := hD.sub (ws' := [(m0, .inr (12, u4))]) [19] (by decide) rfl
  have hKc := hK.sub (tys' := []) [] rfl
  have hFc := va_free (wc := [(m0, .inr (12, u4))]) hD hS hA [19] rfl
  refine va_calli (va_runV (As := []) (rest := []) ⟨hx, hb, hml, hown, hts⟩ (c_m_thrown l D m0 u4 1 H.size ht9) (cwV 0 hts g_lw_2 rfl rfl rfl (by decide +kernel) ⟨Nat.le_of_ble_eq_true rfl, Nat.le_of_ble_eq_true rfl⟩) ⟨st_blind, va_recv hKc hPc (ci := 12) (q0 := 0) rfl rfl, fun U hU hW => ⟨rfl, st_call hU hW hPc hKc hDc hZ hS hFc hE⟩⟩ rfl rfl hl.1 rfl (lv_room (Nat.le_of_ble_eq_true rfl)) dL_law_1176 ⟨Nat.le_of_ble_eq_true rfl, Nat.le_of_ble_eq_true rfl⟩) hS (fun q _ h => hFc q h) hFc (fun r5 u6 t H1 locs ht hvm hw hB hz1 hk1 hS => ?_)
  obtain ⟨hP, hD⟩ := va_join (wr := [(tk, .inr (9, tf)), (tx, .inl (cx, 3000, .inl (fun _ => 0))), (so, .inl (cs, 702, .inl (fun _ => 0))), (pl, .inl (cp, 702, .inl (fun _ => 0))), (li, .inl (ci, 702, .inl (fun _ => 0))), (nm, .inr (6, nf)), (us, .inl (cu, 702, .inl (fun _ => 0))), (me, .inl (cm, 702, .inl (fun _ => 0))), (cd, .inr (0, cf)), (sp, .inr (8, sf)), (rd, .inr (7, rf)), (tr, .inl (ct, 2, .inr (.inr (.inr (.inr (fun _ => none)))))), (b0, .inl (d0, 3000, .inl (fun _ => 0))), (b1, .inl (d1, 710, .inl (fun _ => 0))), (b2, .inl (d2, 710, .inl (fun _ => 0))), (b3, .inl (d3, 710, .inl (fun _ => 0))), (b4, .inl (d4, 710, .inl (fun _ => 0))), (b5, .inl (d5, 2, .inl (fun _ => 0))), (o0, .inl (co, 1, .inr (.inl (fun _ => 0))))]) (w1 := []) hP hD [19] [0, 1, 2, 3, 4, 5, 6, 7, 8, 9, 10, 11, 12, 13, 14, 15, 16, 17, 18] rfl rfl (by decide) (by decide) hk1 hFc p_nil d_nil
  have hK := hK.sub (tys' := [(cx, .byte), (cs, .int), (cp, .int), (ci, .int), (cu, .int), (cm, .int), (ct, .object "ScheduleHouse$Trial"), (d0, .byte), (d1, .int), (d2, .int), (d3, .int), (d4, .int), (d5, .boolean), (co, .long)]) [0, 1, 2, 3, 4, 5, 6, 7, 8, 9, 10, 11, 12, 13] rfl
  generalize H1 = H at hP hS ⊢
  have hP : va_P D vwCl [(tk, .inr (9, tf)), (tx, .inl (cx, 3000, .inl (fun _ => 0))), (so, .inl (cs, 702, .inl (fun _ => 0))), (pl, .inl (cp, 702, .inl (fun _ => 0))), (li, .inl (ci, 702, .inl (fun _ => 0))), (nm, .inr (6, nf)), (us, .inl (cu, 702, .inl (fun _ => 0))), (me, .inl (cm, 702, .inl (fun _ => 0))), (cd, .inr (0, cf)), (sp, .inr (8, sf)), (rd, .inr (7, rf)), (tr, .inl (ct, 2, .inr (.inr (.inr (.inr (fun _ => none)))))), (b0, .inl (d0, 3000, .inl (fun _ => 0))), (b1, .inl (d1, 710, .inl (fun _ => 0))), (b2, .inl (d2, 710, .inl (fun _ => 0))), (b3, .inl (d3, 710, .inl (fun _ => 0))), (b4, .inl (d4, 710, .inl (fun _ => 0))), (b5, .inl (d5, 2, .inl (fun _ => 0))), (o0, .inl (co, 1, .inr (.inl (fun _ => 0))))] H := hP
  have hD : va_D (fun q : Nat => s.heap.size ≤ q) [(tk, .inr (9, tf)), (tx, .inl (cx, 3000, .inl (fun _ => 0))), (so, .inl (cs, 702, .inl (fun _ => 0))), (pl, .inl (cp, 702, .inl (fun _ => 0))), (li, .inl (ci, 702, .inl (fun _ => 0))), (nm, .inr (6, nf)), (us, .inl (cu, 702, .inl (fun _ => 0))), (me, .inl (cm, 702, .inl (fun _ => 0))), (cd, .inr (0, cf)), (sp, .inr (8, sf)), (rd, .inr (7, rf)), (tr, .inl (ct, 2, .inr (.inr (.inr (.inr (fun _ => none)))))), (b0, .inl (d0, 3000, .inl (fun _ => 0))), (b1, .inl (d1, 710, .inl (fun _ => 0))), (b2, .inl (d2, 710, .inl (fun _ => 0))), (b3, .inl (d3, 710, .inl (fun _ => 0))), (b4, .inl (d4, 710, .inl (fun _ => 0))), (b5, .inl (d5, 2, .inl (fun _ => 0))), (o0, .inl (co, 1, .inr (.inl (fun _ => 0))))] := hD
  have hK : va_K D vwCl [(cx, .byte), (cs, .int), (cp, .int), (ci, .int), (cu, .int), (cm, .int), (ct, .object "ScheduleHouse$Trial"), (d0, .byte), (d1, .int), (d2, .int), (d3, .int), (d4, .int), (d5, .boolean), (co, .long)] s := hK
  subst hw
  refine lv_iload hx hb dL_law_1179 (lv_at hl 1 rfl) ?_
  refine lv_icmp_eq (tgt := 1186) hx hb dL_law_1181 (by decide) (fun _ => ?_) (fun c9 => absurd rfl c9)
  refine lv_iload hx hb dL_law_1186 (lv_at hl 1 rfl) ?_
  refine lv_if_ne (tgt := 1203) hx hb dL_law_1188 (by decide) (fun _ => ?_) (fun c9 => False.elim (by revert c9; decide))
  refine lv_goto (tgt := 1894) hx hb dL_law_1203 (by decide) ?_
  refine W.widen (k := 2000) (n := 2000000) (Nat.le_of_ble_eq_true rfl) (Nat.le_of_ble_eq_true rfl) ?_
  exact law_tail l C0 hS (lv_sub hl [2, 6] rfl)
set_option maxHeartbeats 400000 in
set_option maxRecDepth 100000 in
theorem law_18 {p : Program} {e : Env} {s : State} {m : MethodId} {below : List Frame} {meth : Method} {c : Code} (l : Launch) (hlt : l.stackTraces = false) {b : Nat} {xs : Nat → Int32} (C0 : lw_At p s m meth c b 4 xs) (hE : ev s) (hZ : ev_Z (fun q : Nat => s.heap.size ≤ q) s s.heap) (D : va_G) (x0 tk tx so pl li nm us me cd sp rd tr m0 b0 b1 b2 b3 b4 b5 o0 : Nat) (cx cs cp ci cu cm ct d0 d1 d2 d3 d4 d5 co : ClassId) (xf tf nf cf sf rf mf : List Value) {H : Heap} {locs : List Loc} {ls : Array Slot} (hin : law_in D s H locs x0 tk tx so pl li nm us me cd sp rd tr m0 b0 b1 b2 b3 b4 b5 o0 cx cs cp ci cu cm ct d0 d1 d2 d3 d4 d5 co xf tf nf cf sf rf mf) (hl : lv_has ls 7 [(4, .int 0), (3, .ref o0), (2, .ref m0), (1, .ref x0), (0, .ref b)]) : W p l e room_1 s m #[Value.ref b] below meth c H locs 1000 1000000 (lw_Z below #[Value.ref b] s) (F0 m 1206 ls []) := by
  obtain ⟨hx, hb, hr, hml, hown, hts, hX, hbl, hlocks, hgv⟩ := id C0
  have hA : ∀ q : Nat, s.heap.size ≤ q → (fun q : Nat => s.heap.size ≤ q) q := fun _ h => h
  have hbA : ¬ (fun q : Nat => s.heap.size ≤ q) b := Nat.not_le.mpr hbl
  obtain ⟨hok, hP, hD, hK, hS⟩ := hin
  obtain ⟨xf_l, xf_0, xf_1, xf_2, xf_3, xf_6, xf_9, xf_10, xf_11, xf_12, tf_l, tf_0, tf_1, tf_2, tf_3, tf_4, nf_l, nf_0, nf_1, nf_2, nf_11, cf_l, cf_0, sf_l, rf_l, rf_0, rf_1, rf_2, rf_3, mf_l, mf_z, mf_p, mf_n, mf_r0, mf_r1, mf_r2, mf_r3, mf_r4, mf_r5⟩ := hok
  have hown : s.vm.findClass RL = some m.cls := hown
  refine lv_aload_n hx hb dL_law_1206 rfl (lv_at hl 3 rfl) ?_
  refine lv_aload_n hx hb dL_law_1207 rfl (lv_at hl 4 rfl) ?_
  refine lv_iload hx hb dL_law_1208 (lv_at hl 0 rfl) ?_
  refine lv_iconst (v := 1) hx hb dL_law_1210 (by decide +kernel) ?_
  refine lv_iadd hx hb dL_law_1211 ?_
  rw [show (0 + 1 : Int32) = 1 by decide]
  refine va_sld hx hb hX hbl hbA hS (i := 1) (by unfold vp_in; decide) dL_law_1212 ?_
  refine lv_aload_n hx hb dL_law_1213 rfl (lv_at hl 4 rfl) ?_
  refine lv_iload hx hb dL_law_1214 (lv_at hl 0 rfl) ?_
  refine lv_iconst (v := 2) hx hb dL_law_1216 (by decide +kernel) ?_
  refine lv_iadd hx hb dL_law_1217 ?_
  rw [show (0 + 2 : Int32) = 2 by decide]
  refine va_sld hx hb hX hbl hbA hS (i := 2) (by unfold vp_in; decide) dL_law_1218 ?_
  refine lv_aload_n hx hb dL_law_1219 rfl (lv_at hl 1 rfl) ?_
  have hPc := hP.sub (ws' := [(x0, .inr (11, xf))]) [0] rfl
  have hDc := hD.sub (ws' := [(x0, .inr (11, xf))]) [0] (by decide) rfl
  have hKc := hK.sub (tys' := []) [] rfl
  have hFc := va_free (wc := [(x0, .inr (11, xf))]) hD hS hA [0] rfl
  refine va_calli (vx_runSW (As := [.ref x0, .int (xs (1 : Int32).toNatClampNeg), .int (xs (2 : Int32).toNatClampNeg), .ref o0]) (rest := []) ⟨hx, hb, hml, hown, hts⟩ (c_L_before l D x0 o0 xf (xs (1 : Int32).toNatClampNeg) (xs (2 : Int32).toNatClampNeg) H.size hlt xf_10) (vx_cwSW 4 hts g_lw_37 rfl rfl rfl (by decide +kernel) ⟨Nat.le_of_ble_eq_true rfl, Nat.le_of_ble_eq_true rfl⟩) ⟨st_blind, fun U hU hW => ⟨rfl, st_call hU hW hPc hKc hDc hZ hS hFc hE⟩⟩ rfl rfl hl.1 rfl (lv_room (Nat.le_of_ble_eq_true rfl)) dL_law_1220 ⟨Nat.le_of_ble_eq_true rfl, Nat.le_of_ble_eq_true rfl⟩) hS (fun q _ h => hFc q h) hFc (fun r1 u2 t H1 locs ht hvm hw hB hz1 hk1 hS => ?_)
  obtain ⟨hP, hD⟩ := va_join (wr := [(tk, .inr (9, tf)), (tx, .inl (cx, 3000, .inl (fun _ => 0))), (so, .inl (cs, 702, .inl (fun _ => 0))), (pl, .inl (cp, 702, .inl (fun _ => 0))), (li, .inl (ci, 702, .inl (fun _ => 0))), (nm, .inr (6, nf)), (us, .inl (cu, 702, .inl (fun _ => 0))), (me, .inl (cm, 702, .inl (fun _ => 0))), (cd, .inr (0, cf)), (sp, .inr (8, sf)), (rd, .inr (7, rf)), (tr, .inl (ct, 2, .inr (.inr (.inr (.inr (fun _ => none)))))), (m0, .inr (12, mf)), (b0, .inl (d0, 3000, .inl (fun _ => 0))), (b1, .inl (d1, 710, .inl (fun _ => 0))), (b2, .inl (d2, 710, .inl (fun _ => 0))), (b3, .inl (d3, 710, .inl (fun _ => 0))), (b4, .inl (d4, 710, .inl (fun _ => 0))), (b5, .inl (d5, 2, .inl (fun _ => 0))), (o0, .inl (co, 1, .inr (.inl (fun _ => 0))))]) (w1 := []) hP hD [0] [1, 2, 3, 4, 5, 6, 7, 8, 9, 10, 11, 12, 13, 14, 15, 16, 17, 18, 19, 20] rfl rfl (by decide) (by decide) hk1 hFc p_nil d_nil
  have hK := hK.sub (tys' := [(cx, .byte), (cs, .int), (cp, .int), (ci, .int), (cu, .int), (cm, .int), (ct, .object "ScheduleHouse$Trial"), (d0, .byte), (d1, .int), (d2, .int), (d3, .int), (d4, .int), (d5, .boolean), (co, .long)]) [0, 1, 2, 3, 4, 5, 6, 7, 8, 9, 10, 11, 12, 13] rfl
  generalize H1 = H at hP hS ⊢
  have hP : va_P D vwCl [(tk, .inr (9, tf)), (tx, .inl (cx, 3000, .inl (fun _ => 0))), (so, .inl (cs, 702, .inl (fun _ => 0))), (pl, .inl (cp, 702, .inl (fun _ => 0))), (li, .inl (ci, 702, .inl (fun _ => 0))), (nm, .inr (6, nf)), (us, .inl (cu, 702, .inl (fun _ => 0))), (me, .inl (cm, 702, .inl (fun _ => 0))), (cd, .inr (0, cf)), (sp, .inr (8, sf)), (rd, .inr (7, rf)), (tr, .inl (ct, 2, .inr (.inr (.inr (.inr (fun _ => none)))))), (m0, .inr (12, mf)), (b0, .inl (d0, 3000, .inl (fun _ => 0))), (b1, .inl (d1, 710, .inl (fun _ => 0))), (b2, .inl (d2, 710, .inl (fun _ => 0))), (b3, .inl (d3, 710, .inl (fun _ => 0))), (b4, .inl (d4, 710, .inl (fun _ => 0))), (b5, .inl (d5, 2, .inl (fun _ => 0))), (o0, .inl (co, 1, .inr (.inl (fun _ => 0))))] H := hP
  have hD : va_D (fun q : Nat => s.heap.size ≤ q) [(tk, .inr (9, tf)), (tx, .inl (cx, 3000, .inl (fun _ => 0))), (so, .inl (cs, 702, .inl (fun _ => 0))), (pl, .inl (cp, 702, .inl (fun _ => 0))), (li, .inl (ci, 702, .inl (fun _ => 0))), (nm, .inr (6, nf)), (us, .inl (cu, 702, .inl (fun _ => 0))), (me, .inl (cm, 702, .inl (fun _ => 0))), (cd, .inr (0, cf)), (sp, .inr (8, sf)), (rd, .inr (7, rf)), (tr, .inl (ct, 2, .inr (.inr (.inr (.inr (fun _ => none)))))), (m0, .inr (12, mf)), (b0, .inl (d0, 3000, .inl (fun _ => 0))), (b1, .inl (d1, 710, .inl (fun _ => 0))), (b2, .inl (d2, 710, .inl (fun _ => 0))), (b3, .inl (d3, 710, .inl (fun _ => 0))), (b4, .inl (d4, 710, .inl (fun _ => 0))), (b5, .inl (d5, 2, .inl (fun _ => 0))), (o0, .inl (co, 1, .inr (.inl (fun _ => 0))))] := hD
  have hK : va_K D vwCl [(cx, .byte), (cs, .int), (cp, .int), (ci, .int), (cu, .int), (cm, .int), (ct, .object "ScheduleHouse$Trial"), (d0, .byte), (d1, .int), (d2, .int), (d3, .int), (d4, .int), (d5, .boolean), (co, .long)] s := hK
  subst hw
  refine lv_istore (lv' := [(5, .int 1), (4, .int 0), (3, .ref o0), (2, .ref m0), (1, .ref x0), (0, .ref b)]) hx hb dL_law_1223 hl (by decide) rfl (fun ls hl => ?_)
  refine lv_aload_n hx hb dL_law_1225 rfl (lv_at hl 3 rfl) ?_
  refine lv_aload_n hx hb dL_law_1226 rfl (lv_at hl 5 rfl) ?_
  refine lv_iload hx hb dL_law_1227 (lv_at hl 1 rfl) ?_
  refine lv_iconst (v := 1) hx hb dL_law_1229 (by decide +kernel) ?_
  refine lv_iadd hx hb dL_law_1230 ?_
  rw [show (0 + 1 : Int32) = 1 by decide]
  refine va_sld hx hb hX hbl hbA hS (i := 1) (by unfold vp_in; decide) dL_law_1231 ?_
  refine lv_aload_n hx hb dL_law_1232 rfl (lv_at hl 5 rfl) ?_
  refine lv_iload hx hb dL_law_1233 (lv_at hl 1 rfl) ?_
  refine lv_iconst (v := 2) hx hb dL_law_1235 (by decide +kernel) ?_
  refine lv_iadd hx hb dL_law_1236 ?_
  rw [show (0 + 2 : Int32) = 2 by decide]
  refine va_sld hx hb hX hbl hbA hS (i := 2) (by unfold vp_in; decide) dL_law_1237 ?_
  have hPc := hP.sub (ws' := [(m0, .inr (12, mf))]) [12] rfl
  have hDc := hD.sub (ws' := [(m0, .inr (12, mf))]) [12] (by decide) rfl
  have hKc := hK.sub (tys' := []) [] rfl
  have hFc := va_free (wc := [(m0, .inr (12, mf))]) hD hS hA [12] rfl
  refine va_calli (va_runV (As := [.int (xs (1 : Int32).toNatClampNeg), .int (xs (2 : Int32).toNatClampNeg)]) (rest := []) ⟨hx, hb, hml, hown, hts⟩ (c_m_before l D m0 mf (xs (1 : Int32).toNatClampNeg) (xs (2 : Int32).toNatClampNeg) H.size mf_l (mf_z 0 (by decide)) (mf_z 67 (by decide))) (cwV 2 hts g_lw_38 rfl rfl rfl (by decide +kernel) ⟨Nat.le_of_ble_eq_true rfl, Nat.le_of_ble_eq_true rfl⟩) ⟨st_blind, va_recv hKc hPc (ci := 12) (q0 := 0) rfl rfl, fun U hU hW => ⟨rfl, st_call hU hW hPc hKc hDc hZ hS hFc hE⟩⟩ rfl rfl hl.1 rfl (lv_room (Nat.le_of_ble_eq_true rfl)) dL_law_1238 ⟨Nat.le_of_ble_eq_true rfl, Nat.le_of_ble_eq_true rfl⟩) hS (fun q _ h => hFc q h) hFc (fun r3 u4 t H1 locs ht hvm hw hB hz1 hk1 hS => ?_)
  have ht9 := hw
  obtain ⟨hP1, hK1, hD1⟩ := hB
  rw [ht] at hP1
  have hK1 := va_K.moved hvm.symm hK1
  obtain ⟨hP, hD⟩ := va_join (wr := [(tk, .inr (9, tf)), (tx, .inl (cx, 3000, .inl (fun _ => 0))), (so, .inl (cs, 702, .inl (fun _ => 0))), (pl, .inl (cp, 702, .inl (fun _ => 0))), (li, .inl (ci, 702, .inl (fun _ => 0))), (nm, .inr (6, nf)), (us, .inl (cu, 702, .inl (fun _ => 0))), (me, .inl (cm, 702, .inl (fun _ => 0))), (cd, .inr (0, cf)), (sp, .inr (8, sf)), (rd, .inr (7, rf)), (tr, .inl (ct, 2, .inr (.inr (.inr (.inr (fun _ => none)))))), (b0, .inl (d0, 3000, .inl (fun _ => 0))), (b1, .inl (d1, 710, .inl (fun _ => 0))), (b2, .inl (d2, 710, .inl (fun _ => 0))), (b3, .inl (d3, 710, .inl (fun _ => 0))), (b4, .inl (d4, 710, .inl (fun _ => 0))), (b5, .inl (d5, 2, .inl (fun _ => 0))), (o0, .inl (co, 1, .inr (.inl (fun _ => 0))))]) (w1 := [(m0, .inr (12, u4))]) hP hD [12] [0, 1, 2, 3, 4, 5, 6, 7, 8, 9, 10, 11, 13, 14, 15, 16, 17, 18, 19] rfl rfl (by decide) (by decide) hk1 hFc hP1 hD1
  have hK := (hK.sub (tys' := [(cx, .byte), (cs, .int), (cp, .int), (ci, .int), (cu, .int), (cm, .int), (ct, .object "ScheduleHouse$Trial"), (d0, .byte), (d1, .int), (d2, .int), (d3, .int), (d4, .int), (d5, .boolean), (co, .long)]) [0, 1, 2, 3, 4, 5, 6, 7, 8, 9, 10, 11, 12, 13] rfl).app hK1
  generalize H1 = H at hP hS ⊢
  have hP : va_P D vwCl [(tk, .inr (9, tf)), (tx, .inl (cx, 3000, .inl (fun _ => 0))), (so, .inl (cs, 702, .inl (fun _ => 0))), (pl, .inl (cp, 702, .inl (fun _ => 0))), (li, .inl (ci, 702, .inl (fun _ => 0))), (nm, .inr (6, nf)), (us, .inl (cu, 702, .inl (fun _ => 0))), (me, .inl (cm, 702, .inl (fun _ => 0))), (cd, .inr (0, cf)), (sp, .inr (8, sf)), (rd, .inr (7, rf)), (tr, .inl (ct, 2, .inr (.inr (.inr (.inr (fun _ => none)))))), (b0, .inl (d0, 3000, .inl (fun _ => 0))), (b1, .inl (d1, 710, .inl (fun _ => 0))), (b2, .inl (d2, 710, .inl (fun _ => 0))), (b3, .inl (d3, 710, .inl (fun _ => 0))), (b4, .inl (d4, 710, .inl (fun _ => 0))), (b5, .inl (d5, 2, .inl (fun _ => 0))), (o0, .inl (co, 1, .inr (.inl (fun _ => 0)))), (m0, .inr (12, u4))] H := hP
  have hD : va_D (fun q : Nat => s.heap.size ≤ q) [(tk, .inr (9, tf)), (tx, .inl (cx, 3000, .inl (fun _ => 0))), (so, .inl (cs, 702, .inl (fun _ => 0))), (pl, .inl (cp, 702, .inl (fun _ => 0))), (li, .inl (ci, 702, .inl (fun _ => 0))), (nm, .inr (6, nf)), (us, .inl (cu, 702, .inl (fun _ => 0))), (me, .inl (cm, 702, .inl (fun _ => 0))), (cd, .inr (0, cf)), (sp, .inr (8, sf)), (rd, .inr (7, rf)), (tr, .inl (ct, 2, .inr (.inr (.inr (.inr (fun _ => none)))))), (b0, .inl (d0, 3000, .inl (fun _ => 0))), (b1, .inl (d1, 710, .inl (fun _ => 0))), (b2, .inl (d2, 710, .inl (fun _ => 0))), (b3, .inl (d3, 710, .inl (fun _ => 0))), (b4, .inl (d4, 710, .inl (fun _ => 0))), (b5, .inl (d5, 2, .inl (fun _ => 0))), (o0, .inl (co, 1, .inr (.inl (fun _ => 0)))), (m0, .inr (12, u4))] := hD
  have hK : va_K D vwCl [(cx, .byte), (cs, .int), (cp, .int), (ci, .int), (cu, .int), (cm, .int), (ct, .object "ScheduleHouse$Trial"), (d0, .byte), (d1, .int), (d2, .int), (d3, .int), (d4, .int), (d5, .boolean), (co, .long)] s := hK
  refine lv_istore (lv' := [(6, .int r3), (5, .int 1), (4, .int 0), (3, .ref o0), (2, .ref m0), (1, .ref x0), (0, .ref b)]) hx hb dL_law_1241 hl (by decide) rfl (fun ls hl => ?_)
  refine lv_aload_n hx hb dL_law_1243 rfl (lv_at hl 4 rfl) ?_
  have hPc := hP.sub (ws' := [(m0, .inr (12, u4))]) [19] rfl
  have hDc := hD.sub (ws' := [(m0, .inr (12, u4))]) [19] (by decide) rfl
  have hKc := hK.sub (tys' := []) [] rfl
  have hFc := va_free (wc := [(m0, .inr (12, u4))]) hD hS hA [19] rfl
  refine va_calli (va_runV (As := []) (rest := []) ⟨hx, hb, hml, hown, hts⟩ (c_m_thrown l D m0 u4 1 H.size ht9) (cwV 0 hts g_lw_2 rfl rfl rfl (by decide +kernel) ⟨Nat.le_of_ble_eq_true rfl, Nat.le_of_ble_eq_true rfl⟩) ⟨st_blind, va_recv hKc hPc (ci := 12) (q0 := 0) rfl rfl, fun U hU hW => ⟨rfl, st_call hU hW hPc hKc hDc hZ hS hFc hE⟩⟩ rfl rfl hl.1 rfl (lv_room (Nat.le_of_ble_eq_true rfl)) dL_law_1244 ⟨Nat.le_of_ble_eq_true rfl, Nat.le_of_ble_eq_true rfl⟩) hS (fun q _ h => hFc q h) hFc (fun r5 u6 t H1 locs ht hvm hw hB hz1 hk1 hS => ?_)
  obtain ⟨hP, hD⟩ := va_join (wr := [(tk, .inr (9, tf)), (tx, .inl (cx, 3000, .inl (fun _ => 0))), (so, .inl (cs, 702, .inl (fun _ => 0))), (pl, .inl (cp, 702, .inl (fun _ => 0))), (li, .inl (ci, 702, .inl (fun _ => 0))), (nm, .inr (6, nf)), (us, .inl (cu, 702, .inl (fun _ => 0))), (me, .inl (cm, 702, .inl (fun _ => 0))), (cd, .inr (0, cf)), (sp, .inr (8, sf)), (rd, .inr (7, rf)), (tr, .inl (ct, 2, .inr (.inr (.inr (.inr (fun _ => none)))))), (b0, .inl (d0, 3000, .inl (fun _ => 0))), (b1, .inl (d1, 710, .inl (fun _ => 0))), (b2, .inl (d2, 710, .inl (fun _ => 0))), (b3, .inl (d3, 710, .inl (fun _ => 0))), (b4, .inl (d4, 710, .inl (fun _ => 0))), (b5, .inl (d5, 2, .inl (fun _ => 0))), (o0, .inl (co, 1, .inr (.inl (fun _ => 0))))]) (w1 := []) hP hD [19] [0, 1, 2, 3, 4, 5, 6, 7, 8, 9, 10, 11, 12, 13, 14, 15, 16, 17, 18] rfl rfl (by decide) (by decide) hk1 hFc p_nil d_nil
  have hK := hK.sub (tys' := [(cx, .byte), (cs, .int), (cp, .int), (ci, .int), (cu, .int), (cm, .int), (ct, .object "ScheduleHouse$Trial"), (d0, .byte), (d1, .int), (d2, .int), (d3, .int), (d4, .int), (d5, .boolean), (co, .long)]) [0, 1, 2, 3, 4, 5, 6, 7, 8, 9, 10, 11, 12, 13] rfl
  generalize H1 = H at hP hS ⊢
  have hP : va_P D vwCl [(tk, .inr (9, tf)), (tx, .inl (cx, 3000, .inl (fun _ => 0))), (so, .inl (cs, 702, .inl (fun _ => 0))), (pl, .inl (cp, 702, .inl (fun _ => 0))), (li, .inl (ci, 702, .inl (fun _ => 0))), (nm, .inr (6, nf)), (us, .inl (cu, 702, .inl (fun _ => 0))), (me, .inl (cm, 702, .inl (fun _ => 0))), (cd, .inr (0, cf)), (sp, .inr (8, sf)), (rd, .inr (7, rf)), (tr, .inl (ct, 2, .inr (.inr (.inr (.inr (fun _ => none)))))), (b0, .inl (d0, 3000, .inl (fun _ => 0))), (b1, .inl (d1, 710, .inl (fun _ => 0))), (b2, .inl (d2, 710, .inl (fun _ => 0))), (b3, .inl (d3, 710, .inl (fun _ => 0))), (b4, .inl (d4, 710, .inl (fun _ => 0))), (b5, .inl (d5, 2, .inl (fun _ => 0))), (o0, .inl (co, 1, .inr (.inl (fun _ => 0))))] H := hP
  have hD : va_D (fun q : Nat => s.heap.size ≤ q) [(tk, .inr (9, tf)), (tx, .inl (cx, 3000, .inl (fun _ => 0))), (so, .inl (cs, 702, .inl (fun _ => 0))), (pl, .inl (cp, 702, .inl (fun _ => 0))), (li, .inl (ci, 702, .inl (fun _ => 0))), (nm, .inr (6, nf)), (us, .inl (cu, 702, .inl (fun _ => 0))), (me, .inl (cm, 702, .inl (fun _ => 0))), (cd, .inr (0, cf)), (sp, .inr (8, sf)), (rd, .inr (7, rf)), (tr, .inl (ct, 2, .inr (.inr (.inr (.inr (fun _ => none)))))), (b0, .inl (d0, 3000, .inl (fun _ => 0))), (b1, .inl (d1, 710, .inl (fun _ => 0))), (b2, .inl (d2, 710, .inl (fun _ => 0))), (b3, .inl (d3, 710, .inl (fun _ => 0))), (b4, .inl (d4, 710, .inl (fun _ => 0))), (b5, .inl (d5, 2, .inl (fun _ => 0))), (o0, .inl (co, 1, .inr (.inl (fun _ => 0))))] := hD
  have hK : va_K D vwCl [(cx, .byte), (cs, .int), (cp, .int), (ci, .int), (cu, .int), (cm, .int), (ct, .object "ScheduleHouse$Trial"), (d0, .byte), (d1, .int), (d2, .int), (d3, .int), (d4, .int), (d5, .boolean), (co, .long)] s := hK
  subst hw
  refine lv_iload hx hb dL_law_1247 (lv_at hl 1 rfl) ?_
  refine lv_icmp_eq (tgt := 1254) hx hb dL_law_1249 (by decide) (fun _ => ?_) (fun c9 => absurd rfl c9)
  refine lv_iload hx hb dL_law_1254 (lv_at hl 1 rfl) ?_
  refine lv_if_ne (tgt := 1278) hx hb dL_law_1256 (by decide) (fun _ => ?_) (fun c9 => False.elim (by revert c9; decide))
  refine lv_goto (tgt := 1894) hx hb dL_law_1278 (by decide) ?_
  refine W.widen (k := 2000) (n := 2000000) (Nat.le_of_ble_eq_true rfl) (Nat.le_of_ble_eq_true rfl) ?_
  exact law_tail l C0 hS (lv_sub hl [2, 6] rfl)
set_option maxHeartbeats 400000 in
set_option maxRecDepth 100000 in
theorem law_19 {p : Program} {e : Env} {s : State} {m : MethodId} {below : List Frame} {meth : Method} {c : Code} (l : Launch) (hlt : l.stackTraces = false) {b : Nat} {xs : Nat → Int32} (C0 : lw_At p s m meth c b 4 xs) (hE : ev s) (hZ : ev_Z (fun q : Nat => s.heap.size ≤ q) s s.heap) (D : va_G) (x0 tk tx so pl li nm us me cd sp rd tr m0 b0 b1 b2 b3 b4 b5 o0 : Nat) (cx cs cp ci cu cm ct d0 d1 d2 d3 d4 d5 co : ClassId) (xf tf nf cf sf rf mf : List Value) {H : Heap} {locs : List Loc} {ls : Array Slot} (hin : law_in D s H locs x0 tk tx so pl li nm us me cd sp rd tr m0 b0 b1 b2 b3 b4 b5 o0 cx cs cp ci cu cm ct d0 d1 d2 d3 d4 d5 co xf tf nf cf sf rf mf) (hl : lv_has ls 7 [(4, .int 0), (3, .ref o0), (2, .ref m0), (1, .ref x0), (0, .ref b)]) : W p l e room_1 s m #[Value.ref b] below meth c H locs 1000 1000000 (lw_Z below #[Value.ref b] s) (F0 m 1281 ls []) := by
  obtain ⟨hx, hb, hr, hml, hown, hts, hX, hbl, hlocks, hgv⟩ := id C0
  have hA : ∀ q : Nat, s.heap.size ≤ q → (fun q : Nat => s.heap.size ≤ q) q := fun _ h => h
  have hbA : ¬ (fun q : Nat => s.heap.size ≤ q) b := Nat.not_le.mpr hbl
  obtain ⟨hok, hP, hD, hK, hS⟩ := hin
  obtain ⟨xf_l, xf_0, xf_1, xf_2, xf_3, xf_6, xf_9, xf_10, xf_11, xf_12, tf_l, tf_0, tf_1, tf_2, tf_3, tf_4, nf_l, nf_0, nf_1, nf_2, nf_11, cf_l, cf_0, sf_l, rf_l, rf_0, rf_1, rf_2, rf_3, mf_l, mf_z, mf_p, mf_n, mf_r0, mf_r1, mf_r2, mf_r3, mf_r4, mf_r5⟩ := hok
  have hown : s.vm.findClass RL = some m.cls := hown
  refine lv_aload_n hx hb dL_law_1281 rfl (lv_at hl 3 rfl) ?_
  refine lv_aload_n hx hb dL_law_1282 rfl (lv_at hl 4 rfl) ?_
  refine lv_iload hx hb dL_law_1283 (lv_at hl 0 rfl) ?_
  refine lv_iconst (v := 1) hx hb dL_law_1285 (by decide +kernel) ?_
  refine lv_iadd hx hb dL_law_1286 ?_
  rw [show (0 + 1 : Int32) = 1 by decide]
  refine va_sld hx hb hX hbl hbA hS (i := 1) (by unfold vp_in; decide) dL_law_1287 ?_
  refine lv_aload_n hx hb dL_law_1288 rfl (lv_at hl 4 rfl) ?_
  refine lv_iload hx hb dL_law_1289 (lv_at hl 0 rfl) ?_
  refine lv_iconst (v := 2) hx hb dL_law_1291 (by decide +kernel) ?_
  refine lv_iadd hx hb dL_law_1292 ?_
  rw [show (0 + 2 : Int32) = 2 by decide]
  refine va_sld hx hb hX hbl hbA hS (i := 2) (by unfold vp_in; decide) dL_law_1293 ?_
  refine lv_aload_n hx hb dL_law_1294 rfl (lv_at hl 1 rfl) ?_
  have hPc := hP.sub (ws' := [(x0, .inr (11, xf))]) [0] rfl
  have hDc := hD.sub (ws' := [(x0, .inr (11, xf))]) [0] (by decide) rfl
  have hKc := hK.sub (tys' := []) [] rfl
  have hFc := va_free (wc := [(x0, .inr (11, xf))]) hD hS hA [0] rfl
  refine va_calli (vx_runSW (As := [.ref x0, .int (xs (1 : Int32).toNatClampNeg), .int (xs (2 : Int32).toNatClampNeg), .ref o0]) (rest := []) ⟨hx, hb, hml, hown, hts⟩ (c_L_race l D x0 o0 xf (xs (1 : Int32).toNatClampNeg) (xs (2 : Int32).toNatClampNeg) H.size hlt xf_10) (vx_cwSW 4 hts g_lw_39 rfl rfl rfl (by decide +kernel) ⟨Nat.le_of_ble_eq_true rfl, Nat.le_of_ble_eq_true rfl⟩) ⟨st_blind, fun U hU hW => ⟨rfl, st_call hU hW hPc hKc hDc hZ hS hFc hE⟩⟩ rfl rfl hl.1 rfl (lv_room (Nat.le_of_ble_eq_true rfl)) dL_law_1295 ⟨Nat.le_of_ble_eq_true rfl, Nat.le_of_ble_eq_true rfl⟩) hS (fun q _ h => hFc q h) hFc (fun r1 u2 t H1 locs ht hvm hw hB hz1 hk1 hS => ?_)
  obtain ⟨hP, hD⟩ := va_join (wr := [(tk, .inr (9, tf)), (tx, .inl (cx, 3000, .inl (fun _ => 0))), (so, .inl (cs, 702, .inl (fun _ => 0))), (pl, .inl (cp, 702, .inl (fun _ => 0))), (li, .inl (ci, 702, .inl (fun _ => 0))), (nm, .inr (6, nf)), (us, .inl (cu, 702, .inl (fun _ => 0))), (me, .inl (cm, 702, .inl (fun _ => 0))), (cd, .inr (0, cf)), (sp, .inr (8, sf)), (rd, .inr (7, rf)), (tr, .inl (ct, 2, .inr (.inr (.inr (.inr (fun _ => none)))))), (m0, .inr (12, mf)), (b0, .inl (d0, 3000, .inl (fun _ => 0))), (b1, .inl (d1, 710, .inl (fun _ => 0))), (b2, .inl (d2, 710, .inl (fun _ => 0))), (b3, .inl (d3, 710, .inl (fun _ => 0))), (b4, .inl (d4, 710, .inl (fun _ => 0))), (b5, .inl (d5, 2, .inl (fun _ => 0))), (o0, .inl (co, 1, .inr (.inl (fun _ => 0))))]) (w1 := []) hP hD [0] [1, 2, 3, 4, 5, 6, 7, 8, 9, 10, 11, 12, 13, 14, 15, 16, 17, 18, 19, 20] rfl rfl (by decide) (by decide) hk1 hFc p_nil d_nil
  have hK := hK.sub (tys' := [(cx, .byte), (cs, .int), (cp, .int), (ci, .int), (cu, .int), (cm, .int), (ct, .object "ScheduleHouse$Trial"), (d0, .byte), (d1, .int), (d2, .int), (d3, .int), (d4, .int), (d5, .boolean), (co, .long)]) [0, 1, 2, 3, 4, 5, 6, 7, 8, 9, 10, 11, 12, 13] rfl
  generalize H1 = H at hP hS ⊢
  have hP : va_P D vwCl [(tk, .inr (9, tf)), (tx, .inl (cx, 3000, .inl (fun _ => 0))), (so, .inl (cs, 702, .inl (fun _ => 0))), (pl, .inl (cp, 702, .inl (fun _ => 0))), (li, .inl (ci, 702, .inl (fun _ => 0))), (nm, .inr (6, nf)), (us, .inl (cu, 702, .inl (fun _ => 0))), (me, .inl (cm, 702, .inl (fun _ => 0))), (cd, .inr (0, cf)), (sp, .inr (8, sf)), (rd, .inr (7, rf)), (tr, .inl (ct, 2, .inr (.inr (.inr (.inr (fun _ => none)))))), (m0, .inr (12, mf)), (b0, .inl (d0, 3000, .inl (fun _ => 0))), (b1, .inl (d1, 710, .inl (fun _ => 0))), (b2, .inl (d2, 710, .inl (fun _ => 0))), (b3, .inl (d3, 710, .inl (fun _ => 0))), (b4, .inl (d4, 710, .inl (fun _ => 0))), (b5, .inl (d5, 2, .inl (fun _ => 0))), (o0, .inl (co, 1, .inr (.inl (fun _ => 0))))] H := hP
  have hD : va_D (fun q : Nat => s.heap.size ≤ q) [(tk, .inr (9, tf)), (tx, .inl (cx, 3000, .inl (fun _ => 0))), (so, .inl (cs, 702, .inl (fun _ => 0))), (pl, .inl (cp, 702, .inl (fun _ => 0))), (li, .inl (ci, 702, .inl (fun _ => 0))), (nm, .inr (6, nf)), (us, .inl (cu, 702, .inl (fun _ => 0))), (me, .inl (cm, 702, .inl (fun _ => 0))), (cd, .inr (0, cf)), (sp, .inr (8, sf)), (rd, .inr (7, rf)), (tr, .inl (ct, 2, .inr (.inr (.inr (.inr (fun _ => none)))))), (m0, .inr (12, mf)), (b0, .inl (d0, 3000, .inl (fun _ => 0))), (b1, .inl (d1, 710, .inl (fun _ => 0))), (b2, .inl (d2, 710, .inl (fun _ => 0))), (b3, .inl (d3, 710, .inl (fun _ => 0))), (b4, .inl (d4, 710, .inl (fun _ => 0))), (b5, .inl (d5, 2, .inl (fun _ => 0))), (o0, .inl (co, 1, .inr (.inl (fun _ => 0))))] := hD
  have hK : va_K D vwCl [(cx, .byte), (cs, .int), (cp, .int), (ci, .int), (cu, .int), (cm, .int), (ct, .object "ScheduleHouse$Trial"), (d0, .byte), (d1, .int), (d2, .int), (d3, .int), (d4, .int), (d5, .boolean), (co, .long)] s := hK
  subst hw
  refine lv_istore (lv' := [(5, .int 1), (4, .int 0), (3, .ref o0), (2, .ref m0), (1, .ref x0), (0, .ref b)]) hx hb dL_law_1298 hl (by decide) rfl (fun ls hl => ?_)
  refine lv_aload_n hx hb dL_law_1300 rfl (lv_at hl 3 rfl) ?_
  refine lv_aload_n hx hb dL_law_1301 rfl (lv_at hl 5 rfl) ?_
  refine lv_iload hx hb dL_law_1302 (lv_at hl 1 rfl) ?_
  refine lv_iconst (v := 1) hx hb dL_law_1304 (by decide +kernel) ?_
  refine lv_iadd hx hb dL_law_1305 ?_
  rw [show (0 + 1 : Int32) = 1 by decide]
  refine va_sld hx hb hX hbl hbA hS (i := 1) (by unfold vp_in; decide) dL_law_1306 ?_
  refine lv_aload_n hx hb dL_law_1307 rfl (lv_at hl 5 rfl) ?_
  refine lv_iload hx hb dL_law_1308 (lv_at hl 1 rfl) ?_
  refine lv_iconst (v := 2) hx hb dL_law_1310 (by decide +kernel) ?_
  refine lv_iadd hx hb dL_law_1311 ?_
  rw [show (0 + 2 : Int32) = 2 by decide]
  refine va_sld hx hb hX hbl hbA hS (i := 2) (by unfold vp_in; decide) dL_law_1312 ?_
  have hPc := hP.sub (ws' := [(m0, .inr (12, mf))]) [12] rfl
  have hDc := hD.sub (ws' := [(m0, .inr (12, mf))]) [12] (by decide) rfl
  have hKc := hK.sub (tys' := []) [] rfl
  have hFc := va_free (wc := [(m0, .inr (12, mf))]) hD hS hA [12] rfl
  refine va_calli (va_runV (As := [.int (xs (1 : Int32).toNatClampNeg), .int (xs (2 : Int32).toNatClampNeg)]) (rest := []) ⟨hx, hb, hml, hown, hts⟩ (c_m_race l D m0 mf (xs (1 : Int32).toNatClampNeg) (xs (2 : Int32).toNatClampNeg) H.size mf_l (mf_z 0 (by decide)) (mf_z 67 (by decide))) (cwV 2 hts g_lw_40 rfl rfl rfl (by decide +kernel) ⟨Nat.le_of_ble_eq_true rfl, Nat.le_of_ble_eq_true rfl⟩) ⟨st_blind, va_recv hKc hPc (ci := 12) (q0 := 0) rfl rfl, fun U hU hW => ⟨rfl, st_call hU hW hPc hKc hDc hZ hS hFc hE⟩⟩ rfl rfl hl.1 rfl (lv_room (Nat.le_of_ble_eq_true rfl)) dL_law_1313 ⟨Nat.le_of_ble_eq_true rfl, Nat.le_of_ble_eq_true rfl⟩) hS (fun q _ h => hFc q h) hFc (fun r3 u4 t H1 locs ht hvm hw hB hz1 hk1 hS => ?_)
  have ht9 := hw
  obtain ⟨hP1, hK1, hD1⟩ := hB
  rw [ht] at hP1
  have hK1 := va_K.moved hvm.symm hK1
  obtain ⟨hP, hD⟩ := va_join (wr := [(tk, .inr (9, tf)), (tx, .inl (cx, 3000, .inl (fun _ => 0))), (so, .inl (cs, 702, .inl (fun _ => 0))), (pl, .inl (cp, 702, .inl (fun _ => 0))), (li, .inl (ci, 702, .inl (fun _ => 0))), (nm, .inr (6, nf)), (us, .inl (cu, 702, .inl (fun _ => 0))), (me, .inl (cm, 702, .inl (fun _ => 0))), (cd, .inr (0, cf)), (sp, .inr (8, sf)), (rd, .inr (7, rf)), (tr, .inl (ct, 2, .inr (.inr (.inr (.inr (fun _ => none)))))), (b0, .inl (d0, 3000, .inl (fun _ => 0))), (b1, .inl (d1, 710, .inl (fun _ => 0))), (b2, .inl (d2, 710, .inl (fun _ => 0))), (b3, .inl (d3, 710, .inl (fun _ => 0))), (b4, .inl (d4, 710, .inl (fun _ => 0))), (b5, .inl (d5, 2, .inl (fun _ => 0))), (o0, .inl (co, 1, .inr (.inl (fun _ => 0))))]) (w1 := [(m0, .inr (12, u4))]) hP hD [12] [0, 1, 2, 3, 4, 5, 6, 7, 8, 9, 10, 11, 13, 14, 15, 16, 17, 18, 19] rfl rfl (by decide) (by decide) hk1 hFc hP1 hD1
  have hK := (hK.sub (tys' := [(cx, .byte), (cs, .int), (cp, .int), (ci, .int), (cu, .int), (cm, .int), (ct, .object "ScheduleHouse$Trial"), (d0, .byte), (d1, .int), (d2, .int), (d3, .int), (d4, .int), (d5, .boolean), (co, .long)]) [0, 1, 2, 3, 4, 5, 6, 7, 8, 9, 10, 11, 12, 13] rfl).app hK1
  generalize H1 = H at hP hS ⊢
  have hP : va_P D vwCl [(tk, .inr (9, tf)), (tx, .inl (cx, 3000, .inl (fun _ => 0))), (so, .inl (cs, 702, .inl (fun _ => 0))), (pl, .inl (cp, 702, .inl (fun _ => 0))), (li, .inl (ci, 702, .inl (fun _ => 0))), (nm, .inr (6, nf)), (us, .inl (cu, 702, .inl (fun _ => 0))), (me, .inl (cm, 702, .inl (fun _ => 0))), (cd, .inr (0, cf)), (sp, .inr (8, sf)), (rd, .inr (7, rf)), (tr, .inl (ct, 2, .inr (.inr (.inr (.inr (fun _ => none)))))), (b0, .inl (d0, 3000, .inl (fun _ => 0))), (b1, .inl (d1, 710, .inl (fun _ => 0))), (b2, .inl (d2, 710, .inl (fun _ => 0))), (b3, .inl (d3, 710, .inl (fun _ => 0))), (b4, .inl (d4, 710, .inl (fun _ => 0))), (b5, .inl (d5, 2, .inl (fun _ => 0))), (o0, .inl (co, 1, .inr (.inl (fun _ => 0)))), (m0, .inr (12, u4))] H := hP
  have hD : va_D (fun q : Nat => s.heap.size ≤ q) [(tk, .inr (9, tf)), (tx, .inl (cx, 3000, .inl (fun _ => 0))), (so, .inl (cs, 702, .inl (fun _ => 0))), (pl, .inl (cp, 702, .inl (fun _ => 0))), (li, .inl (ci, 702, .inl (fun _ => 0))), (nm, .inr (6, nf)), (us, .inl (cu, 702, .inl (fun _ => 0))), (me, .inl (cm, 702, .inl (fun _ => 0))), (cd, .inr (0, cf)), (sp, .inr (8, sf)), (rd, .inr (7, rf)), (tr, .inl (ct, 2, .inr (.inr (.inr (.inr (fun _ => none)))))), (b0, .inl (d0, 3000, .inl (fun _ => 0))), (b1, .inl (d1, 710, .inl (fun _ => 0))), (b2, .inl (d2, 710, .inl (fun _ => 0))), (b3, .inl (d3, 710, .inl (fun _ => 0))), (b4, .inl (d4, 710, .inl (fun _ => 0))), (b5, .inl (d5, 2, .inl (fun _ => 0))), (o0, .inl (co, 1, .inr (.inl (fun _ => 0)))), (m0, .inr (12, u4))] := hD
  have hK : va_K D vwCl [(cx, .byte), (cs, .int), (cp, .int), (ci, .int), (cu, .int), (cm, .int), (ct, .object "ScheduleHouse$Trial"), (d0, .byte), (d1, .int), (d2, .int), (d3, .int), (d4, .int), (d5, .boolean), (co, .long)] s := hK
  refine lv_istore (lv' := [(6, .int r3), (5, .int 1), (4, .int 0), (3, .ref o0), (2, .ref m0), (1, .ref x0), (0, .ref b)]) hx hb dL_law_1316 hl (by decide) rfl (fun ls hl => ?_)
  refine lv_aload_n hx hb dL_law_1318 rfl (lv_at hl 4 rfl) ?_
  have hPc := hP.sub (ws' := [(m0, .inr (12, u4))]) [19] rfl
  have hDc := hD.sub (ws' := [(m0, .inr (12, u4))]) [19] (by decide) rfl
  have hKc := hK.sub (tys' := []) [] rfl
  have hFc := va_free (wc := [(m0, .inr (12, u4))]) hD hS hA [19] rfl
  refine va_calli (va_runV (As := []) (rest := []) ⟨hx, hb, hml, hown, hts⟩ (c_m_thrown l D m0 u4 1 H.size ht9) (cwV 0 hts g_lw_2 rfl rfl rfl (by decide +kernel) ⟨Nat.le_of_ble_eq_true rfl, Nat.le_of_ble_eq_true rfl⟩) ⟨st_blind, va_recv hKc hPc (ci := 12) (q0 := 0) rfl rfl, fun U hU hW => ⟨rfl, st_call hU hW hPc hKc hDc hZ hS hFc hE⟩⟩ rfl rfl hl.1 rfl (lv_room (Nat.le_of_ble_eq_true rfl)) dL_law_1319 ⟨Nat.le_of_ble_eq_true rfl, Nat.le_of_ble_eq_true rfl⟩) hS (fun q _ h => hFc q h) hFc (fun r5 u6 t H1 locs ht hvm hw hB hz1 hk1 hS => ?_)
  obtain ⟨hP, hD⟩ := va_join (wr := [(tk, .inr (9, tf)), (tx, .inl (cx, 3000, .inl (fun _ => 0))), (so, .inl (cs, 702, .inl (fun _ => 0))), (pl, .inl (cp, 702, .inl (fun _ => 0))), (li, .inl (ci, 702, .inl (fun _ => 0))), (nm, .inr (6, nf)), (us, .inl (cu, 702, .inl (fun _ => 0))), (me, .inl (cm, 702, .inl (fun _ => 0))), (cd, .inr (0, cf)), (sp, .inr (8, sf)), (rd, .inr (7, rf)), (tr, .inl (ct, 2, .inr (.inr (.inr (.inr (fun _ => none)))))), (b0, .inl (d0, 3000, .inl (fun _ => 0))), (b1, .inl (d1, 710, .inl (fun _ => 0))), (b2, .inl (d2, 710, .inl (fun _ => 0))), (b3, .inl (d3, 710, .inl (fun _ => 0))), (b4, .inl (d4, 710, .inl (fun _ => 0))), (b5, .inl (d5, 2, .inl (fun _ => 0))), (o0, .inl (co, 1, .inr (.inl (fun _ => 0))))]) (w1 := []) hP hD [19] [0, 1, 2, 3, 4, 5, 6, 7, 8, 9, 10, 11, 12, 13, 14, 15, 16, 17, 18] rfl rfl (by decide) (by decide) hk1 hFc p_nil d_nil
  have hK := hK.sub (tys' := [(cx, .byte), (cs, .int), (cp, .int), (ci, .int), (cu, .int), (cm, .int), (ct, .object "ScheduleHouse$Trial"), (d0, .byte), (d1, .int), (d2, .int), (d3, .int), (d4, .int), (d5, .boolean), (co, .long)]) [0, 1, 2, 3, 4, 5, 6, 7, 8, 9, 10, 11, 12, 13] rfl
  generalize H1 = H at hP hS ⊢
  have hP : va_P D vwCl [(tk, .inr (9, tf)), (tx, .inl (cx, 3000, .inl (fun _ => 0))), (so, .inl (cs, 702, .inl (fun _ => 0))), (pl, .inl (cp, 702, .inl (fun _ => 0))), (li, .inl (ci, 702, .inl (fun _ => 0))), (nm, .inr (6, nf)), (us, .inl (cu, 702, .inl (fun _ => 0))), (me, .inl (cm, 702, .inl (fun _ => 0))), (cd, .inr (0, cf)), (sp, .inr (8, sf)), (rd, .inr (7, rf)), (tr, .inl (ct, 2, .inr (.inr (.inr (.inr (fun _ => none)))))), (b0, .inl (d0, 3000, .inl (fun _ => 0))), (b1, .inl (d1, 710, .inl (fun _ => 0))), (b2, .inl (d2, 710, .inl (fun _ => 0))), (b3, .inl (d3, 710, .inl (fun _ => 0))), (b4, .inl (d4, 710, .inl (fun _ => 0))), (b5, .inl (d5, 2, .inl (fun _ => 0))), (o0, .inl (co, 1, .inr (.inl (fun _ => 0))))] H := hP
  have hD : va_D (fun q : Nat => s.heap.size ≤ q) [(tk, .inr (9, tf)), (tx, .inl (cx, 3000, .inl (fun _ => 0))), (so, .inl (cs, 702, .inl (fun _ => 0))), (pl, .inl (cp, 702, .inl (fun _ => 0))), (li, .inl (ci, 702, .inl (fun _ => 0))), (nm, .inr (6, nf)), (us, .inl (cu, 702, .inl (fun _ => 0))), (me, .inl (cm, 702, .inl (fun _ => 0))), (cd, .inr (0, cf)), (sp, .inr (8, sf)), (rd, .inr (7, rf)), (tr, .inl (ct, 2, .inr (.inr (.inr (.inr (fun _ => none)))))), (b0, .inl (d0, 3000, .inl (fun _ => 0))), (b1, .inl (d1, 710, .inl (fun _ => 0))), (b2, .inl (d2, 710, .inl (fun _ => 0))), (b3, .inl (d3, 710, .inl (fun _ => 0))), (b4, .inl (d4, 710, .inl (fun _ => 0))), (b5, .inl (d5, 2, .inl (fun _ => 0))), (o0, .inl (co, 1, .inr (.inl (fun _ => 0))))] := hD
  have hK : va_K D vwCl [(cx, .byte), (cs, .int), (cp, .int), (ci, .int), (cu, .int), (cm, .int), (ct, .object "ScheduleHouse$Trial"), (d0, .byte), (d1, .int), (d2, .int), (d3, .int), (d4, .int), (d5, .boolean), (co, .long)] s := hK
  subst hw
  refine lv_iload hx hb dL_law_1322 (lv_at hl 1 rfl) ?_
  refine lv_icmp_eq (tgt := 1329) hx hb dL_law_1324 (by decide) (fun _ => ?_) (fun c9 => absurd rfl c9)
  refine lv_iload hx hb dL_law_1329 (lv_at hl 1 rfl) ?_
  refine lv_if_ne (tgt := 1346) hx hb dL_law_1331 (by decide) (fun _ => ?_) (fun c9 => False.elim (by revert c9; decide))
  refine lv_goto (tgt := 1894) hx hb dL_law_1346 (by decide) ?_
  refine W.widen (k := 2000) (n := 2000000) (Nat.le_of_ble_eq_true rfl) (Nat.le_of_ble_eq_true rfl) ?_
  exact law_tail l C0 hS (lv_sub hl [2, 6] rfl)
set_option maxHeartbeats 400000 in
set_option maxRecDepth 100000 in
theorem law_20 {p : Program} {e : Env} {s : State} {m : MethodId} {below : List Frame} {meth : Method} {c : Code} (l : Launch) (hlt : l.stackTraces = false) {b : Nat} {xs : Nat → Int32} (C0 : lw_At p s m meth c b 4 xs) (hE : ev s) (hZ : ev_Z (fun q : Nat => s.heap.size ≤ q) s s.heap) (D : va_G) (x0 tk tx so pl li nm us me cd sp rd tr m0 b0 b1 b2 b3 b4 b5 o0 : Nat) (cx cs cp ci cu cm ct d0 d1 d2 d3 d4 d5 co : ClassId) (xf tf nf cf sf rf mf : List Value) {H : Heap} {locs : List Loc} {ls : Array Slot} (hin : law_in D s H locs x0 tk tx so pl li nm us me cd sp rd tr m0 b0 b1 b2 b3 b4 b5 o0 cx cs cp ci cu cm ct d0 d1 d2 d3 d4 d5 co xf tf nf cf sf rf mf) (hl : lv_has ls 7 [(4, .int 0), (3, .ref o0), (2, .ref m0), (1, .ref x0), (0, .ref b)]) : W p l e room_1 s m #[Value.ref b] below meth c H locs 1000 1000000 (lw_Z below #[Value.ref b] s) (F0 m 1349 ls []) := by
  obtain ⟨hx, hb, hr, hml, hown, hts, hX, hbl, hlocks, hgv⟩ := id C0
  have hA : ∀ q : Nat, s.heap.size ≤ q → (fun q : Nat => s.heap.size ≤ q) q := fun _ h => h
  have hbA : ¬ (fun q : Nat => s.heap.size ≤ q) b := Nat.not_le.mpr hbl
  obtain ⟨hok, hP, hD, hK, hS⟩ := hin
  obtain ⟨xf_l, xf_0, xf_1, xf_2, xf_3, xf_6, xf_9, xf_10, xf_11, xf_12, tf_l, tf_0, tf_1, tf_2, tf_3, tf_4, nf_l, nf_0, nf_1, nf_2, nf_11, cf_l, cf_0, sf_l, rf_l, rf_0, rf_1, rf_2, rf_3, mf_l, mf_z, mf_p, mf_n, mf_r0, mf_r1, mf_r2, mf_r3, mf_r4, mf_r5⟩ := hok
  have hown : s.vm.findClass RL = some m.cls := hown
  refine lv_aload_n hx hb dL_law_1349 rfl (lv_at hl 3 rfl) ?_
  refine lv_aload_n hx hb dL_law_1350 rfl (lv_at hl 4 rfl) ?_
  refine lv_iload hx hb dL_law_1351 (lv_at hl 0 rfl) ?_
  refine lv_iconst (v := 1) hx hb dL_law_1353 (by decide +kernel) ?_
  refine lv_iadd hx hb dL_law_1354 ?_
  rw [show (0 + 1 : Int32) = 1 by decide]
  refine va_sld hx hb hX hbl hbA hS (i := 1) (by unfold vp_in; decide) dL_law_1355 ?_
  refine lv_aload_n hx hb dL_law_1356 rfl (lv_at hl 1 rfl) ?_
  have hPc := hP.sub (ws' := [(x0, .inr (11, xf))]) [0] rfl
  have hDc := hD.sub (ws' := [(x0, .inr (11, xf))]) [0] (by decide) rfl
  have hKc := hK.sub (tys' := []) [] rfl
  have hFc := va_free (wc := [(x0, .inr (11, xf))]) hD hS hA [0] rfl
  refine va_calli (vx_runSW (As := [.ref x0, .int (xs (1 : Int32).toNatClampNeg), .ref o0]) (rest := []) ⟨hx, hb, hml, hown, hts⟩ (c_L_linear l D x0 o0 xf (xs (1 : Int32).toNatClampNeg) H.size hlt xf_10) (vx_cwSW 3 hts g_lw_41 rfl rfl rfl (by decide +kernel) ⟨Nat.le_of_ble_eq_true rfl, Nat.le_of_ble_eq_true rfl⟩) ⟨st_blind, fun U hU hW => ⟨rfl, st_call hU hW hPc hKc hDc hZ hS hFc hE⟩⟩ rfl rfl hl.1 rfl (lv_room (Nat.le_of_ble_eq_true rfl)) dL_law_1357 ⟨Nat.le_of_ble_eq_true rfl, Nat.le_of_ble_eq_true rfl⟩) hS (fun q _ h => hFc q h) hFc (fun r1 u2 t H1 locs ht hvm hw hB hz1 hk1 hS => ?_)
  obtain ⟨hP, hD⟩ := va_join (wr := [(tk, .inr (9, tf)), (tx, .inl (cx, 3000, .inl (fun _ => 0))), (so, .inl (cs, 702, .inl (fun _ => 0))), (pl, .inl (cp, 702, .inl (fun _ => 0))), (li, .inl (ci, 702, .inl (fun _ => 0))), (nm, .inr (6, nf)), (us, .inl (cu, 702, .inl (fun _ => 0))), (me, .inl (cm, 702, .inl (fun _ => 0))), (cd, .inr (0, cf)), (sp, .inr (8, sf)), (rd, .inr (7, rf)), (tr, .inl (ct, 2, .inr (.inr (.inr (.inr (fun _ => none)))))), (m0, .inr (12, mf)), (b0, .inl (d0, 3000, .inl (fun _ => 0))), (b1, .inl (d1, 710, .inl (fun _ => 0))), (b2, .inl (d2, 710, .inl (fun _ => 0))), (b3, .inl (d3, 710, .inl (fun _ => 0))), (b4, .inl (d4, 710, .inl (fun _ => 0))), (b5, .inl (d5, 2, .inl (fun _ => 0))), (o0, .inl (co, 1, .inr (.inl (fun _ => 0))))]) (w1 := []) hP hD [0] [1, 2, 3, 4, 5, 6, 7, 8, 9, 10, 11, 12, 13, 14, 15, 16, 17, 18, 19, 20] rfl rfl (by decide) (by decide) hk1 hFc p_nil d_nil
  have hK := hK.sub (tys' := [(cx, .byte), (cs, .int), (cp, .int), (ci, .int), (cu, .int), (cm, .int), (ct, .object "ScheduleHouse$Trial"), (d0, .byte), (d1, .int), (d2, .int), (d3, .int), (d4, .int), (d5, .boolean), (co, .long)]) [0, 1, 2, 3, 4, 5, 6, 7, 8, 9, 10, 11, 12, 13] rfl
  generalize H1 = H at hP hS ⊢
  have hP : va_P D vwCl [(tk, .inr (9, tf)), (tx, .inl (cx, 3000, .inl (fun _ => 0))), (so, .inl (cs, 702, .inl (fun _ => 0))), (pl, .inl (cp, 702, .inl (fun _ => 0))), (li, .inl (ci, 702, .inl (fun _ => 0))), (nm, .inr (6, nf)), (us, .inl (cu, 702, .inl (fun _ => 0))), (me, .inl (cm, 702, .inl (fun _ => 0))), (cd, .inr (0, cf)), (sp, .inr (8, sf)), (rd, .inr (7, rf)), (tr, .inl (ct, 2, .inr (.inr (.inr (.inr (fun _ => none)))))), (m0, .inr (12, mf)), (b0, .inl (d0, 3000, .inl (fun _ => 0))), (b1, .inl (d1, 710, .inl (fun _ => 0))), (b2, .inl (d2, 710, .inl (fun _ => 0))), (b3, .inl (d3, 710, .inl (fun _ => 0))), (b4, .inl (d4, 710, .inl (fun _ => 0))), (b5, .inl (d5, 2, .inl (fun _ => 0))), (o0, .inl (co, 1, .inr (.inl (fun _ => 0))))] H := hP
  have hD : va_D (fun q : Nat => s.heap.size ≤ q) [(tk, .inr (9, tf)), (tx, .inl (cx, 3000, .inl (fun _ => 0))), (so, .inl (cs, 702, .inl (fun _ => 0))), (pl, .inl (cp, 702, .inl (fun _ => 0))), (li, .inl (ci, 702, .inl (fun _ => 0))), (nm, .inr (6, nf)), (us, .inl (cu, 702, .inl (fun _ => 0))), (me, .inl (cm, 702, .inl (fun _ => 0))), (cd, .inr (0, cf)), (sp, .inr (8, sf)), (rd, .inr (7, rf)), (tr, .inl (ct, 2, .inr (.inr (.inr (.inr (fun _ => none)))))), (m0, .inr (12, mf)), (b0, .inl (d0, 3000, .inl (fun _ => 0))), (b1, .inl (d1, 710, .inl (fun _ => 0))), (b2, .inl (d2, 710, .inl (fun _ => 0))), (b3, .inl (d3, 710, .inl (fun _ => 0))), (b4, .inl (d4, 710, .inl (fun _ => 0))), (b5, .inl (d5, 2, .inl (fun _ => 0))), (o0, .inl (co, 1, .inr (.inl (fun _ => 0))))] := hD
  have hK : va_K D vwCl [(cx, .byte), (cs, .int), (cp, .int), (ci, .int), (cu, .int), (cm, .int), (ct, .object "ScheduleHouse$Trial"), (d0, .byte), (d1, .int), (d2, .int), (d3, .int), (d4, .int), (d5, .boolean), (co, .long)] s := hK
  subst hw
  refine lv_istore (lv' := [(5, .int 1), (4, .int 0), (3, .ref o0), (2, .ref m0), (1, .ref x0), (0, .ref b)]) hx hb dL_law_1360 hl (by decide) rfl (fun ls hl => ?_)
  refine lv_aload_n hx hb dL_law_1362 rfl (lv_at hl 3 rfl) ?_
  refine lv_aload_n hx hb dL_law_1363 rfl (lv_at hl 5 rfl) ?_
  refine lv_iload hx hb dL_law_1364 (lv_at hl 1 rfl) ?_
  refine lv_iconst (v := 1) hx hb dL_law_1366 (by decide +kernel) ?_
  refine lv_iadd hx hb dL_law_1367 ?_
  rw [show (0 + 1 : Int32) = 1 by decide]
  refine va_sld hx hb hX hbl hbA hS (i := 1) (by unfold vp_in; decide) dL_law_1368 ?_
  have hPc := hP.sub (ws' := [(m0, .inr (12, mf))]) [12] rfl
  have hDc := hD.sub (ws' := [(m0, .inr (12, mf))]) [12] (by decide) rfl
  have hKc := hK.sub (tys' := []) [] rfl
  have hFc := va_free (wc := [(m0, .inr (12, mf))]) hD hS hA [12] rfl
  refine va_calli (va_runV (As := [.int (xs (1 : Int32).toNatClampNeg)]) (rest := []) ⟨hx, hb, hml, hown, hts⟩ (c_m_linear l D m0 mf (xs (1 : Int32).toNatClampNeg) H.size mf_l (mf_z 0 (by decide)) (mf_z 67 (by decide))) (cwV 1 hts g_lw_42 rfl rfl rfl (by decide +kernel) ⟨Nat.le_of_ble_eq_true rfl, Nat.le_of_ble_eq_true rfl⟩) ⟨st_blind, va_recv hKc hPc (ci := 12) (q0 := 0) rfl rfl, fun U hU hW => ⟨rfl, st_call hU hW hPc hKc hDc hZ hS hFc hE⟩⟩ rfl rfl hl.1 rfl (lv_room (Nat.le_of_ble_eq_true rfl)) dL_law_1369 ⟨Nat.le_of_ble_eq_true rfl, Nat.le_of_ble_eq_true rfl⟩) hS (fun q _ h => hFc q h) hFc (fun r3 u4 t H1 locs ht hvm hw hB hz1 hk1 hS => ?_)
  have ht9 := hw
  obtain ⟨hP1, hK1, hD1⟩ := hB
  rw [ht] at hP1
  have hK1 := va_K.moved hvm.symm hK1
  obtain ⟨hP, hD⟩ := va_join (wr := [(tk, .inr (9, tf)), (tx, .inl (cx, 3000, .inl (fun _ => 0))), (so, .inl (cs, 702, .inl (fun _ => 0))), (pl, .inl (cp, 702, .inl (fun _ => 0))), (li, .inl (ci, 702, .inl (fun _ => 0))), (nm, .inr (6, nf)), (us, .inl (cu, 702, .inl (fun _ => 0))), (me, .inl (cm, 702, .inl (fun _ => 0))), (cd, .inr (0, cf)), (sp, .inr (8, sf)), (rd, .inr (7, rf)), (tr, .inl (ct, 2, .inr (.inr (.inr (.inr (fun _ => none)))))), (b0, .inl (d0, 3000, .inl (fun _ => 0))), (b1, .inl (d1, 710, .inl (fun _ => 0))), (b2, .inl (d2, 710, .inl (fun _ => 0))), (b3, .inl (d3, 710, .inl (fun _ => 0))), (b4, .inl (d4, 710, .inl (fun _ => 0))), (b5, .inl (d5, 2, .inl (fun _ => 0))), (o0, .inl (co, 1, .inr (.inl (fun _ => 0))))]) (w1 := [(m0, .inr (12, u4))]) hP hD [12] [0, 1, 2, 3, 4, 5, 6, 7, 8, 9, 10, 11, 13, 14, 15, 16, 17, 18, 19] rfl rfl (by decide) (by decide) hk1 hFc hP1 hD1
  have hK := (hK.sub (tys' := [(cx, .byte), (cs, .int), (cp, .int), (ci, .int), (cu, .int), (cm, .int), (ct, .object "ScheduleHouse$Trial"), (d0, .byte), (d1, .int), (d2, .int), (d3, .int), (d4, .int), (d5, .boolean), (co, .long)]) [0, 1, 2, 3, 4, 5, 6, 7, 8, 9, 10, 11, 12, 13] rfl).app hK1
  generalize H1 = H at hP hS ⊢
  have hP : va_P D vwCl [(tk, .inr (9, tf)), (tx, .inl (cx, 3000, .inl (fun _ => 0))), (so, .inl (cs, 702, .inl (fun _ => 0))), (pl, .inl (cp, 702, .inl (fun _ => 0))), (li, .inl (ci, 702, .inl (fun _ => 0))), (nm, .inr (6, nf)), (us, .inl (cu, 702, .inl (fun _ => 0))), (me, .inl (cm, 702, .inl (fun _ => 0))), (cd, .inr (0, cf)), (sp, .inr (8, sf)), (rd, .inr (7, rf)), (tr, .inl (ct, 2, .inr (.inr (.inr (.inr (fun _ => none)))))), (b0, .inl (d0, 3000, .inl (fun _ => 0))), (b1, .inl (d1, 710, .inl (fun _ => 0))), (b2, .inl (d2, 710, .inl (fun _ => 0))), (b3, .inl (d3, 710, .inl (fun _ => 0))), (b4, .inl (d4, 710, .inl (fun _ => 0))), (b5, .inl (d5, 2, .inl (fun _ => 0))), (o0, .inl (co, 1, .inr (.inl (fun _ => 0)))), (m0, .inr (12, u4))] H := hP
  have hD : va_D (fun q : Nat => s.heap.size ≤ q) [(tk, .inr (9, tf)), (tx, .inl (cx, 3000, .inl (fun _ => 0))), (so, .inl (cs, 702, .inl (fun _ => 0))), (pl, .inl (cp, 702, .inl (fun _ => 0))), (li, .inl (ci, 702, .inl (fun _ => 0))), (nm, .inr (6, nf)), (us, .inl (cu, 702, .inl (fun _ => 0))), (me, .inl (cm, 702, .inl (fun _ => 0))), (cd, .inr (0, cf)), (sp, .inr (8, sf)), (rd, .inr (7, rf)), (tr, .inl (ct, 2, .inr (.inr (.inr (.inr (fun _ => none)))))), (b0, .inl (d0, 3000, .inl (fun _ => 0))), (b1, .inl (d1, 710, .inl (fun _ => 0))), (b2, .inl (d2, 710, .inl (fun _ => 0))), (b3, .inl (d3, 710, .inl (fun _ => 0))), (b4, .inl (d4, 710, .inl (fun _ => 0))), (b5, .inl (d5, 2, .inl (fun _ => 0))), (o0, .inl (co, 1, .inr (.inl (fun _ => 0)))), (m0, .inr (12, u4))] := hD
  have hK : va_K D vwCl [(cx, .byte), (cs, .int), (cp, .int), (ci, .int), (cu, .int), (cm, .int), (ct, .object "ScheduleHouse$Trial"), (d0, .byte), (d1, .int), (d2, .int), (d3, .int), (d4, .int), (d5, .boolean), (co, .long)] s := hK
  refine lv_istore (lv' := [(6, .int r3), (5, .int 1), (4, .int 0), (3, .ref o0), (2, .ref m0), (1, .ref x0), (0, .ref b)]) hx hb dL_law_1372 hl (by decide) rfl (fun ls hl => ?_)
  refine lv_aload_n hx hb dL_law_1374 rfl (lv_at hl 4 rfl) ?_
  have hPc := hP.sub (ws' := [(m0, .inr (12, u4))]) [19] rfl
  have hDc := hD.sub (ws' := [(m0, .inr (12, u4))]) [19] (by decide) rfl
  have hKc := hK.sub (tys' := []) [] rfl
  have hFc := va_free (wc := [(m0, .inr (12, u4))]) hD hS hA [19] rfl
  refine va_calli (va_runV (As := []) (rest := []) ⟨hx, hb, hml, hown, hts⟩ (c_m_thrown l D m0 u4 1 H.size ht9) (cwV 0 hts g_lw_2 rfl rfl rfl (by decide +kernel) ⟨Nat.le_of_ble_eq_true rfl, Nat.le_of_ble_eq_true rfl⟩) ⟨st_blind, va_recv hKc hPc (ci := 12) (q0 := 0) rfl rfl, fun U hU hW => ⟨rfl, st_call hU hW hPc hKc hDc hZ hS hFc hE⟩⟩ rfl rfl hl.1 rfl (lv_room (Nat.le_of_ble_eq_true rfl)) dL_law_1375 ⟨Nat.le_of_ble_eq_true rfl, Nat.le_of_ble_eq_true rfl⟩) hS (fun q _ h => hFc q h) hFc (fun r5 u6 t H1 locs ht hvm hw hB hz1 hk1 hS => ?_)
  obtain ⟨hP, hD⟩ := va_join (wr := [(tk, .inr (9, tf)), (tx, .inl (cx, 3000, .inl (fun _ => 0))), (so, .inl (cs, 702, .inl (fun _ => 0))), (pl, .inl (cp, 702, .inl (fun _ => 0))), (li, .inl (ci, 702, .inl (fun _ => 0))), (nm, .inr (6, nf)), (us, .inl (cu, 702, .inl (fun _ => 0))), (me, .inl (cm, 702, .inl (fun _ => 0))), (cd, .inr (0, cf)), (sp, .inr (8, sf)), (rd, .inr (7, rf)), (tr, .inl (ct, 2, .inr (.inr (.inr (.inr (fun _ => none)))))), (b0, .inl (d0, 3000, .inl (fun _ => 0))), (b1, .inl (d1, 710, .inl (fun _ => 0))), (b2, .inl (d2, 710, .inl (fun _ => 0))), (b3, .inl (d3, 710, .inl (fun _ => 0))), (b4, .inl (d4, 710, .inl (fun _ => 0))), (b5, .inl (d5, 2, .inl (fun _ => 0))), (o0, .inl (co, 1, .inr (.inl (fun _ => 0))))]) (w1 := []) hP hD [19] [0, 1, 2, 3, 4, 5, 6, 7, 8, 9, 10, 11, 12, 13, 14, 15, 16, 17, 18] rfl rfl (by decide) (by decide) hk1 hFc p_nil d_nil
  have hK := hK.sub (tys' := [(cx, .byte), (cs, .int), (cp, .int), (ci, .int), (cu, .int), (cm, .int), (ct, .object "ScheduleHouse$Trial"), (d0, .byte), (d1, .int), (d2, .int), (d3, .int), (d4, .int), (d5, .boolean), (co, .long)]) [0, 1, 2, 3, 4, 5, 6, 7, 8, 9, 10, 11, 12, 13] rfl
  generalize H1 = H at hP hS ⊢
  have hP : va_P D vwCl [(tk, .inr (9, tf)), (tx, .inl (cx, 3000, .inl (fun _ => 0))), (so, .inl (cs, 702, .inl (fun _ => 0))), (pl, .inl (cp, 702, .inl (fun _ => 0))), (li, .inl (ci, 702, .inl (fun _ => 0))), (nm, .inr (6, nf)), (us, .inl (cu, 702, .inl (fun _ => 0))), (me, .inl (cm, 702, .inl (fun _ => 0))), (cd, .inr (0, cf)), (sp, .inr (8, sf)), (rd, .inr (7, rf)), (tr, .inl (ct, 2, .inr (.inr (.inr (.inr (fun _ => none)))))), (b0, .inl (d0, 3000, .inl (fun _ => 0))), (b1, .inl (d1, 710, .inl (fun _ => 0))), (b2, .inl (d2, 710, .inl (fun _ => 0))), (b3, .inl (d3, 710, .inl (fun _ => 0))), (b4, .inl (d4, 710, .inl (fun _ => 0))), (b5, .inl (d5, 2, .inl (fun _ => 0))), (o0, .inl (co, 1, .inr (.inl (fun _ => 0))))] H := hP
  have hD : va_D (fun q : Nat => s.heap.size ≤ q) [(tk, .inr (9, tf)), (tx, .inl (cx, 3000, .inl (fun _ => 0))), (so, .inl (cs, 702, .inl (fun _ => 0))), (pl, .inl (cp, 702, .inl (fun _ => 0))), (li, .inl (ci, 702, .inl (fun _ => 0))), (nm, .inr (6, nf)), (us, .inl (cu, 702, .inl (fun _ => 0))), (me, .inl (cm, 702, .inl (fun _ => 0))), (cd, .inr (0, cf)), (sp, .inr (8, sf)), (rd, .inr (7, rf)), (tr, .inl (ct, 2, .inr (.inr (.inr (.inr (fun _ => none)))))), (b0, .inl (d0, 3000, .inl (fun _ => 0))), (b1, .inl (d1, 710, .inl (fun _ => 0))), (b2, .inl (d2, 710, .inl (fun _ => 0))), (b3, .inl (d3, 710, .inl (fun _ => 0))), (b4, .inl (d4, 710, .inl (fun _ => 0))), (b5, .inl (d5, 2, .inl (fun _ => 0))), (o0, .inl (co, 1, .inr (.inl (fun _ => 0))))] := hD
  have hK : va_K D vwCl [(cx, .byte), (cs, .int), (cp, .int), (ci, .int), (cu, .int), (cm, .int), (ct, .object "ScheduleHouse$Trial"), (d0, .byte), (d1, .int), (d2, .int), (d3, .int), (d4, .int), (d5, .boolean), (co, .long)] s := hK
  subst hw
  refine lv_iload hx hb dL_law_1378 (lv_at hl 1 rfl) ?_
  refine lv_icmp_eq (tgt := 1385) hx hb dL_law_1380 (by decide) (fun _ => ?_) (fun c9 => absurd rfl c9)
  refine lv_iload hx hb dL_law_1385 (lv_at hl 1 rfl) ?_
  refine lv_if_ne (tgt := 1402) hx hb dL_law_1387 (by decide) (fun _ => ?_) (fun c9 => False.elim (by revert c9; decide))
  refine lv_goto (tgt := 1894) hx hb dL_law_1402 (by decide) ?_
  refine W.widen (k := 2000) (n := 2000000) (Nat.le_of_ble_eq_true rfl) (Nat.le_of_ble_eq_true rfl) ?_
  exact law_tail l C0 hS (lv_sub hl [2, 6] rfl)
set_option maxHeartbeats 400000 in
set_option maxRecDepth 100000 in
theorem law_21 {p : Program} {e : Env} {s : State} {m : MethodId} {below : List Frame} {meth : Method} {c : Code} (l : Launch) (hlt : l.stackTraces = false) {b : Nat} {xs : Nat → Int32} (C0 : lw_At p s m meth c b 4 xs) (hE : ev s) (hZ : ev_Z (fun q : Nat => s.heap.size ≤ q) s s.heap) (D : va_G) (x0 tk tx so pl li nm us me cd sp rd tr m0 b0 b1 b2 b3 b4 b5 o0 : Nat) (cx cs cp ci cu cm ct d0 d1 d2 d3 d4 d5 co : ClassId) (xf tf nf cf sf rf mf : List Value) {H : Heap} {locs : List Loc} {ls : Array Slot} (hin : law_in D s H locs x0 tk tx so pl li nm us me cd sp rd tr m0 b0 b1 b2 b3 b4 b5 o0 cx cs cp ci cu cm ct d0 d1 d2 d3 d4 d5 co xf tf nf cf sf rf mf) (hl : lv_has ls 7 [(4, .int 0), (3, .ref o0), (2, .ref m0), (1, .ref x0), (0, .ref b)]) : W p l e room_1 s m #[Value.ref b] below meth c H locs 1000 1000000 (lw_Z below #[Value.ref b] s) (F0 m 1405 ls []) := by
  obtain ⟨hx, hb, hr, hml, hown, hts, hX, hbl, hlocks, hgv⟩ := id C0
  have hA : ∀ q : Nat, s.heap.size ≤ q → (fun q : Nat => s.heap.size ≤ q) q := fun _ h => h
  have hbA : ¬ (fun q : Nat => s.heap.size ≤ q) b := Nat.not_le.mpr hbl
  obtain ⟨hok, hP, hD, hK, hS⟩ := hin
  obtain ⟨xf_l, xf_0, xf_1, xf_2, xf_3, xf_6, xf_9, xf_10, xf_11, xf_12, tf_l, tf_0, tf_1, tf_2, tf_3, tf_4, nf_l, nf_0, nf_1, nf_2, nf_11, cf_l, cf_0, sf_l, rf_l, rf_0, rf_1, rf_2, rf_3, mf_l, mf_z, mf_p, mf_n, mf_r0, mf_r1, mf_r2, mf_r3, mf_r4, mf_r5⟩ := hok
  have hown : s.vm.findClass RL = some m.cls := hown
  refine lv_aload_n hx hb dL_law_1405 rfl (lv_at hl 3 rfl) ?_
  refine lv_aload_n hx hb dL_law_1406 rfl (lv_at hl 4 rfl) ?_
  refine lv_iload hx hb dL_law_1407 (lv_at hl 0 rfl) ?_
  refine lv_iconst (v := 1) hx hb dL_law_1409 (by decide +kernel) ?_
  refine lv_iadd hx hb dL_law_1410 ?_
  rw [show (0 + 1 : Int32) = 1 by decide]
  refine va_sld hx hb hX hbl hbA hS (i := 1) (by unfold vp_in; decide) dL_law_1411 ?_
  refine lv_aload_n hx hb dL_law_1412 rfl (lv_at hl 4 rfl) ?_
  refine lv_iload hx hb dL_law_1413 (lv_at hl 0 rfl) ?_
  refine lv_iconst (v := 2) hx hb dL_law_1415 (by decide +kernel) ?_
  refine lv_iadd hx hb dL_law_1416 ?_
  rw [show (0 + 2 : Int32) = 2 by decide]
  refine va_sld hx hb hX hbl hbA hS (i := 2) (by unfold vp_in; decide) dL_law_1417 ?_
  refine lv_aload_n hx hb dL_law_1418 rfl (lv_at hl 1 rfl) ?_
  have hPc := hP.sub (ws' := [(x0, .inr (11, xf))]) [0] rfl
  have hDc := hD.sub (ws' := [(x0, .inr (11, xf))]) [0] (by decide) rfl
  have hKc := hK.sub (tys' := []) [] rfl
  have hFc := va_free (wc := [(x0, .inr (11, xf))]) hD hS hA [0] rfl
  refine va_calli (vx_runSW (As := [.ref x0, .int (xs (1 : Int32).toNatClampNeg), .int (xs (2 : Int32).toNatClampNeg), .ref o0]) (rest := []) ⟨hx, hb, hml, hown, hts⟩ (c_L_attempt l D x0 o0 xf (xs (1 : Int32).toNatClampNeg) (xs (2 : Int32).toNatClampNeg) H.size hlt xf_9) (vx_cwSW 4 hts g_lw_43 rfl rfl rfl (by decide +kernel) ⟨Nat.le_of_ble_eq_true rfl, Nat.le_of_ble_eq_true rfl⟩) ⟨st_blind, fun U hU hW => ⟨rfl, st_call hU hW hPc hKc hDc hZ hS hFc hE⟩⟩ rfl rfl hl.1 rfl (lv_room (Nat.le_of_ble_eq_true rfl)) dL_law_1419 ⟨Nat.le_of_ble_eq_true rfl, Nat.le_of_ble_eq_true rfl⟩) hS (fun q _ h => hFc q h) hFc (fun r1 u2 t H1 locs ht hvm hw hB hz1 hk1 hS => ?_)
  obtain ⟨hP, hD⟩ := va_join (wr := [(tk, .inr (9, tf)), (tx, .inl (cx, 3000, .inl (fun _ => 0))), (so, .inl (cs, 702, .inl (fun _ => 0))), (pl, .inl (cp, 702, .inl (fun _ => 0))), (li, .inl (ci, 702, .inl (fun _ => 0))), (nm, .inr (6, nf)), (us, .inl (cu, 702, .inl (fun _ => 0))), (me, .inl (cm, 702, .inl (fun _ => 0))), (cd, .inr (0, cf)), (sp, .inr (8, sf)), (rd, .inr (7, rf)), (tr, .inl (ct, 2, .inr (.inr (.inr (.inr (fun _ => none)))))), (m0, .inr (12, mf)), (b0, .inl (d0, 3000, .inl (fun _ => 0))), (b1, .inl (d1, 710, .inl (fun _ => 0))), (b2, .inl (d2, 710, .inl (fun _ => 0))), (b3, .inl (d3, 710, .inl (fun _ => 0))), (b4, .inl (d4, 710, .inl (fun _ => 0))), (b5, .inl (d5, 2, .inl (fun _ => 0))), (o0, .inl (co, 1, .inr (.inl (fun _ => 0))))]) (w1 := []) hP hD [0] [1, 2, 3, 4, 5, 6, 7, 8, 9, 10, 11, 12, 13, 14, 15, 16, 17, 18, 19, 20] rfl rfl (by decide) (by decide) hk1 hFc p_nil d_nil
  have hK := hK.sub (tys' := [(cx, .byte), (cs, .int), (cp, .int), (ci, .int), (cu, .int), (cm, .int), (ct, .object "ScheduleHouse$Trial"), (d0, .byte), (d1, .int), (d2, .int), (d3, .int), (d4, .int), (d5, .boolean), (co, .long)]) [0, 1, 2, 3, 4, 5, 6, 7, 8, 9, 10, 11, 12, 13] rfl
  generalize H1 = H at hP hS ⊢
  have hP : va_P D vwCl [(tk, .inr (9, tf)), (tx, .inl (cx, 3000, .inl (fun _ => 0))), (so, .inl (cs, 702, .inl (fun _ => 0))), (pl, .inl (cp, 702, .inl (fun _ => 0))), (li, .inl (ci, 702, .inl (fun _ => 0))), (nm, .inr (6, nf)), (us, .inl (cu, 702, .inl (fun _ => 0))), (me, .inl (cm, 702, .inl (fun _ => 0))), (cd, .inr (0, cf)), (sp, .inr (8, sf)), (rd, .inr (7, rf)), (tr, .inl (ct, 2, .inr (.inr (.inr (.inr (fun _ => none)))))), (m0, .inr (12, mf)), (b0, .inl (d0, 3000, .inl (fun _ => 0))), (b1, .inl (d1, 710, .inl (fun _ => 0))), (b2, .inl (d2, 710, .inl (fun _ => 0))), (b3, .inl (d3, 710, .inl (fun _ => 0))), (b4, .inl (d4, 710, .inl (fun _ => 0))), (b5, .inl (d5, 2, .inl (fun _ => 0))), (o0, .inl (co, 1, .inr (.inl (fun _ => 0))))] H := hP
  have hD : va_D (fun q : Nat => s.heap.size ≤ q) [(tk, .inr (9, tf)), (tx, .inl (cx, 3000, .inl (fun _ => 0))), (so, .inl (cs, 702, .inl (fun _ => 0))), (pl, .inl (cp, 702, .inl (fun _ => 0))), (li, .inl (ci, 702, .inl (fun _ => 0))), (nm, .inr (6, nf)), (us, .inl (cu, 702, .inl (fun _ => 0))), (me, .inl (cm, 702, .inl (fun _ => 0))), (cd, .inr (0, cf)), (sp, .inr (8, sf)), (rd, .inr (7, rf)), (tr, .inl (ct, 2, .inr (.inr (.inr (.inr (fun _ => none)))))), (m0, .inr (12, mf)), (b0, .inl (d0, 3000, .inl (fun _ => 0))), (b1, .inl (d1, 710, .inl (fun _ => 0))), (b2, .inl (d2, 710, .inl (fun _ => 0))), (b3, .inl (d3, 710, .inl (fun _ => 0))), (b4, .inl (d4, 710, .inl (fun _ => 0))), (b5, .inl (d5, 2, .inl (fun _ => 0))), (o0, .inl (co, 1, .inr (.inl (fun _ => 0))))] := hD
  have hK : va_K D vwCl [(cx, .byte), (cs, .int), (cp, .int), (ci, .int), (cu, .int), (cm, .int), (ct, .object "ScheduleHouse$Trial"), (d0, .byte), (d1, .int), (d2, .int), (d3, .int), (d4, .int), (d5, .boolean), (co, .long)] s := hK
  subst hw
  refine lv_istore (lv' := [(5, .int 1), (4, .int 0), (3, .ref o0), (2, .ref m0), (1, .ref x0), (0, .ref b)]) hx hb dL_law_1422 hl (by decide) rfl (fun ls hl => ?_)
  refine lv_aload_n hx hb dL_law_1424 rfl (lv_at hl 3 rfl) ?_
  refine lv_aload_n hx hb dL_law_1425 rfl (lv_at hl 5 rfl) ?_
  refine lv_iload hx hb dL_law_1426 (lv_at hl 1 rfl) ?_
  refine lv_iconst (v := 1) hx hb dL_law_1428 (by decide +kernel) ?_
  refine lv_iadd hx hb dL_law_1429 ?_
  rw [show (0 + 1 : Int32) = 1 by decide]
  refine va_sld hx hb hX hbl hbA hS (i := 1) (by unfold vp_in; decide) dL_law_1430 ?_
  refine lv_aload_n hx hb dL_law_1431 rfl (lv_at hl 5 rfl) ?_
  refine lv_iload hx hb dL_law_1432 (lv_at hl 1 rfl) ?_
  refine lv_iconst (v := 2) hx hb dL_law_1434 (by decide +kernel) ?_
  refine lv_iadd hx hb dL_law_1435 ?_
  rw [show (0 + 2 : Int32) = 2 by decide]
  refine va_sld hx hb hX hbl hbA hS (i := 2) (by unfold vp_in; decide) dL_law_1436 ?_
  have hPc := hP.sub (ws' := [(m0, .inr (12, mf))]) [12] rfl
  have hDc := hD.sub (ws' := [(m0, .inr (12, mf))]) [12] (by decide) rfl
  have hKc := hK.sub (tys' := []) [] rfl
  have hFc := va_free (wc := [(m0, .inr (12, mf))]) hD hS hA [12] rfl
  refine va_calli (va_runV (As := [.int (xs (1 : Int32).toNatClampNeg), .int (xs (2 : Int32).toNatClampNeg)]) (rest := []) ⟨hx, hb, hml, hown, hts⟩ (c_m_attempt l D m0 mf (xs (1 : Int32).toNatClampNeg) (xs (2 : Int32).toNatClampNeg) H.size mf_l (mf_z 0 (by decide)) (mf_z 66 (by decide))) (cwV 2 hts g_lw_44 rfl rfl rfl (by decide +kernel) ⟨Nat.le_of_ble_eq_true rfl, Nat.le_of_ble_eq_true rfl⟩) ⟨st_blind, va_recv hKc hPc (ci := 12) (q0 := 0) rfl rfl, fun U hU hW => ⟨rfl, st_call hU hW hPc hKc hDc hZ hS hFc hE⟩⟩ rfl rfl hl.1 rfl (lv_room (Nat.le_of_ble_eq_true rfl)) dL_law_1437 ⟨Nat.le_of_ble_eq_true rfl, Nat.le_of_ble_eq_true rfl⟩) hS (fun q _ h => hFc q h) hFc (fun r3 u4 t H1 locs ht hvm hw hB hz1 hk1 hS => ?_)
  have ht9 := hw
  obtain ⟨hP1, hK1, hD1⟩ := hB
  rw [ht] at hP1
  have hK1 := va_K.moved hvm.symm hK1
  obtain ⟨hP, hD⟩ := va_join (wr := [(tk, .inr (9, tf)), (tx, .inl (cx, 3000, .inl (fun _ => 0))), (so, .inl (cs, 702, .inl (fun _ => 0))), (pl, .inl (cp, 702, .inl (fun _ => 0))), (li, .inl (ci, 702, .inl (fun _ => 0))), (nm, .inr (6, nf)), (us, .inl (cu, 702, .inl (fun _ => 0))), (me, .inl (cm, 702, .inl (fun _ => 0))), (cd, .inr (0, cf)), (sp, .inr (8, sf)), (rd, .inr (7, rf)), (tr, .inl (ct, 2, .inr (.inr (.inr (.inr (fun _ => none)))))), (b0, .inl (d0, 3000, .inl (fun _ => 0))), (b1, .inl (d1, 710, .inl (fun _ => 0))), (b2, .inl (d2, 710, .inl (fun _ => 0))), (b3, .inl (d3, 710, .inl (fun _ => 0))), (b4, .inl (d4, 710, .inl (fun _ => 0))), (b5, .inl (d5, 2, .inl (fun _ => 0))), (o0, .inl (co, 1, .inr (.inl (fun _ => 0))))]) (w1 := [(m0, .inr (12, u4))]) hP hD [12] [0, 1, 2, 3, 4, 5, 6, 7, 8, 9, 10, 11, 13, 14, 15, 16, 17, 18, 19] rfl rfl (by decide) (by decide) hk1 hFc hP1 hD1
  have hK := (hK.sub (tys' := [(cx, .byte), (cs, .int), (cp, .int), (ci, .int), (cu, .int), (cm, .int), (ct, .object "ScheduleHouse$Trial"), (d0, .byte), (d1, .int), (d2, .int), (d3, .int), (d4, .int), (d5, .boolean), (co, .long)]) [0, 1, 2, 3, 4, 5, 6, 7, 8, 9, 10, 11, 12, 13] rfl).app hK1
  generalize H1 = H at hP hS ⊢
  have hP : va_P D vwCl [(tk, .inr (9, tf)), (tx, .inl (cx, 3000, .inl (fun _ => 0))), (so, .inl (cs, 702, .inl (fun _ => 0))), (pl, .inl (cp, 702, .inl (fun _ => 0))), (li, .inl (ci, 702, .inl (fun _ => 0))), (nm, .inr (6, nf)), (us, .inl (cu, 702, .inl (fun _ => 0))), (me, .inl (cm, 702, .inl (fun _ => 0))), (cd, .inr (0, cf)), (sp, .inr (8, sf)), (rd, .inr (7, rf)), (tr, .inl (ct, 2, .inr (.inr (.inr (.inr (fun _ => none)))))), (b0, .inl (d0, 3000, .inl (fun _ => 0))), (b1, .inl (d1, 710, .inl (fun _ => 0))), (b2, .inl (d2, 710, .inl (fun _ => 0))), (b3, .inl (d3, 710, .inl (fun _ => 0))), (b4, .inl (d4, 710, .inl (fun _ => 0))), (b5, .inl (d5, 2, .inl (fun _ => 0))), (o0, .inl (co, 1, .inr (.inl (fun _ => 0)))), (m0, .inr (12, u4))] H := hP
  have hD : va_D (fun q : Nat => s.heap.size ≤ q) [(tk, .inr (9, tf)), (tx, .inl (cx, 3000, .inl (fun _ => 0))), (so, .inl (cs, 702, .inl (fun _ => 0))), (pl, .inl (cp, 702, .inl (fun _ => 0))), (li, .inl (ci, 702, .inl (fun _ => 0))), (nm, .inr (6, nf)), (us, .inl (cu, 702, .inl (fun _ => 0))), (me, .inl (cm, 702, .inl (fun _ => 0))), (cd, .inr (0, cf)), (sp, .inr (8, sf)), (rd, .inr (7, rf)), (tr, .inl (ct, 2, .inr (.inr (.inr (.inr (fun _ => none)))))), (b0, .inl (d0, 3000, .inl (fun _ => 0))), (b1, .inl (d1, 710, .inl (fun _ => 0))), (b2, .inl (d2, 710, .inl (fun _ => 0))), (b3, .inl (d3, 710, .inl (fun _ => 0))), (b4, .inl (d4, 710, .inl (fun _ => 0))), (b5, .inl (d5, 2, .inl (fun _ => 0))), (o0, .inl (co, 1, .inr (.inl (fun _ => 0)))), (m0, .inr (12, u4))] := hD
  have hK : va_K D vwCl [(cx, .byte), (cs, .int), (cp, .int), (ci, .int), (cu, .int), (cm, .int), (ct, .object "ScheduleHouse$Trial"), (d0, .byte), (d1, .int), (d2, .int), (d3, .int), (d4, .int), (d5, .boolean), (co, .long)] s := hK
  refine lv_istore (lv' := [(6, .int r3), (5, .int 1), (4, .int 0), (3, .ref o0), (2, .ref m0), (1, .ref x0), (0, .ref b)]) hx hb dL_law_1440 hl (by decide) rfl (fun ls hl => ?_)
  refine lv_aload_n hx hb dL_law_1442 rfl (lv_at hl 4 rfl) ?_
  have hPc := hP.sub (ws' := [(m0, .inr (12, u4))]) [19] rfl
  have hDc := hD.sub (ws' := [(m0, .inr (12, u4))]) [19] (by decide) rfl
  have hKc := hK.sub (tys' := []) [] rfl
  have hFc := va_free (wc := [(m0, .inr (12, u4))]) hD hS hA [19] rfl
  refine va_calli (va_runV (As := []) (rest := []) ⟨hx, hb, hml, hown, hts⟩ (c_m_thrown l D m0 u4 1 H.size ht9) (cwV 0 hts g_lw_2 rfl rfl rfl (by decide +kernel) ⟨Nat.le_of_ble_eq_true rfl, Nat.le_of_ble_eq_true rfl⟩) ⟨st_blind, va_recv hKc hPc (ci := 12) (q0 := 0) rfl rfl, fun U hU hW => ⟨rfl, st_call hU hW hPc hKc hDc hZ hS hFc hE⟩⟩ rfl rfl hl.1 rfl (lv_room (Nat.le_of_ble_eq_true rfl)) dL_law_1443 ⟨Nat.le_of_ble_eq_true rfl, Nat.le_of_ble_eq_true rfl⟩) hS (fun q _ h => hFc q h) hFc (fun r5 u6 t H1 locs ht hvm hw hB hz1 hk1 hS => ?_)
  obtain ⟨hP, hD⟩ := va_join (wr := [(tk, .inr (9, tf)), (tx, .inl (cx, 3000, .inl (fun _ => 0))), (so, .inl (cs, 702, .inl (fun _ => 0))), (pl, .inl (cp, 702, .inl (fun _ => 0))), (li, .inl (ci, 702, .inl (fun _ => 0))), (nm, .inr (6, nf)), (us, .inl (cu, 702, .inl (fun _ => 0))), (me, .inl (cm, 702, .inl (fun _ => 0))), (cd, .inr (0, cf)), (sp, .inr (8, sf)), (rd, .inr (7, rf)), (tr, .inl (ct, 2, .inr (.inr (.inr (.inr (fun _ => none)))))), (b0, .inl (d0, 3000, .inl (fun _ => 0))), (b1, .inl (d1, 710, .inl (fun _ => 0))), (b2, .inl (d2, 710, .inl (fun _ => 0))), (b3, .inl (d3, 710, .inl (fun _ => 0))), (b4, .inl (d4, 710, .inl (fun _ => 0))), (b5, .inl (d5, 2, .inl (fun _ => 0))), (o0, .inl (co, 1, .inr (.inl (fun _ => 0))))]) (w1 := []) hP hD [19] [0, 1, 2, 3, 4, 5, 6, 7, 8, 9, 10, 11, 12, 13, 14, 15, 16, 17, 18] rfl rfl (by decide) (by decide) hk1 hFc p_nil d_nil
  have hK := hK.sub (tys' := [(cx, .byte), (cs, .int), (cp, .int), (ci, .int), (cu, .int), (cm, .int), (ct, .object "ScheduleHouse$Trial"), (d0, .byte), (d1, .int), (d2, .int), (d3, .int), (d4, .int), (d5, .boolean), (co, .long)]) [0, 1, 2, 3, 4, 5, 6, 7, 8, 9, 10, 11, 12, 13] rfl
  generalize H1 = H at hP hS ⊢
  have hP : va_P D vwCl [(tk, .inr (9, tf)), (tx, .inl (cx, 3000, .inl (fun _ => 0))), (so, .inl (cs, 702, .inl (fun _ => 0))), (pl, .inl (cp, 702, .inl (fun _ => 0))), (li, .inl (ci, 702, .inl (fun _ => 0))), (nm, .inr (6, nf)), (us, .inl (cu, 702, .inl (fun _ => 0))), (me, .inl (cm, 702, .inl (fun _ => 0))), (cd, .inr (0, cf)), (sp, .inr (8, sf)), (rd, .inr (7, rf)), (tr, .inl (ct, 2, .inr (.inr (.inr (.inr (fun _ => none)))))), (b0, .inl (d0, 3000, .inl (fun _ => 0))), (b1, .inl (d1, 710, .inl (fun _ => 0))), (b2, .inl (d2, 710, .inl (fun _ => 0))), (b3, .inl (d3, 710, .inl (fun _ => 0))), (b4, .inl (d4, 710, .inl (fun _ => 0))), (b5, .inl (d5, 2, .inl (fun _ => 0))), (o0, .inl (co, 1, .inr (.inl (fun _ => 0))))] H := hP
  have hD : va_D (fun q : Nat => s.heap.size ≤ q) [(tk, .inr (9, tf)), (tx, .inl (cx, 3000, .inl (fun _ => 0))), (so, .inl (cs, 702, .inl (fun _ => 0))), (pl, .inl (cp, 702, .inl (fun _ => 0))), (li, .inl (ci, 702, .inl (fun _ => 0))), (nm, .inr (6, nf)), (us, .inl (cu, 702, .inl (fun _ => 0))), (me, .inl (cm, 702, .inl (fun _ => 0))), (cd, .inr (0, cf)), (sp, .inr (8, sf)), (rd, .inr (7, rf)), (tr, .inl (ct, 2, .inr (.inr (.inr (.inr (fun _ => none)))))), (b0, .inl (d0, 3000, .inl (fun _ => 0))), (b1, .inl (d1, 710, .inl (fun _ => 0))), (b2, .inl (d2, 710, .inl (fun _ => 0))), (b3, .inl (d3, 710, .inl (fun _ => 0))), (b4, .inl (d4, 710, .inl (fun _ => 0))), (b5, .inl (d5, 2, .inl (fun _ => 0))), (o0, .inl (co, 1, .inr (.inl (fun _ => 0))))] := hD
  have hK : va_K D vwCl [(cx, .byte), (cs, .int), (cp, .int), (ci, .int), (cu, .int), (cm, .int), (ct, .object "ScheduleHouse$Trial"), (d0, .byte), (d1, .int), (d2, .int), (d3, .int), (d4, .int), (d5, .boolean), (co, .long)] s := hK
  subst hw
  refine lv_iload hx hb dL_law_1446 (lv_at hl 1 rfl) ?_
  refine lv_icmp_eq (tgt := 1453) hx hb dL_law_1448 (by decide) (fun _ => ?_) (fun c9 => absurd rfl c9)
  refine lv_iload hx hb dL_law_1453 (lv_at hl 1 rfl) ?_
  refine lv_if_ne (tgt := 1470) hx hb dL_law_1455 (by decide) (fun _ => ?_) (fun c9 => False.elim (by revert c9; decide))
  refine lv_goto (tgt := 1894) hx hb dL_law_1470 (by decide) ?_
  refine W.widen (k := 2000) (n := 2000000) (Nat.le_of_ble_eq_true rfl) (Nat.le_of_ble_eq_true rfl) ?_
  exact law_tail l C0 hS (lv_sub hl [2, 6] rfl)
set_option maxHeartbeats 400000 in
set_option maxRecDepth 100000 in
theorem law_22 {p : Program} {e : Env} {s : State} {m : MethodId} {below : List Frame} {meth : Method} {c : Code} (l : Launch) (hlt : l.stackTraces = false) {b : Nat} {xs : Nat → Int32} (C0 : lw_At p s m meth c b 4 xs) (hE : ev s) (hZ : ev_Z (fun q : Nat => s.heap.size ≤ q) s s.heap) (D : va_G) (x0 tk tx so pl li nm us me cd sp rd tr m0 b0 b1 b2 b3 b4 b5 o0 : Nat) (cx cs cp ci cu cm ct d0 d1 d2 d3 d4 d5 co : ClassId) (xf tf nf cf sf rf mf : List Value) {H : Heap} {locs : List Loc} {ls : Array Slot} (hin : law_in D s H locs x0 tk tx so pl li nm us me cd sp rd tr m0 b0 b1 b2 b3 b4 b5 o0 cx cs cp ci cu cm ct d0 d1 d2 d3 d4 d5 co xf tf nf cf sf rf mf) (hl : lv_has ls 7 [(4, .int 0), (3, .ref o0), (2, .ref m0), (1, .ref x0), (0, .ref b)]) : W p l e room_1 s m #[Value.ref b] below meth c H locs 1000 1000000 (lw_Z below #[Value.ref b] s) (F0 m 1473 ls []) := by
  obtain ⟨hx, hb, hr, hml, hown, hts, hX, hbl, hlocks, hgv⟩ := id C0
  have hA : ∀ q : Nat, s.heap.size ≤ q → (fun q : Nat => s.heap.size ≤ q) q := fun _ h => h
  have hbA : ¬ (fun q : Nat => s.heap.size ≤ q) b := Nat.not_le.mpr hbl
  obtain ⟨hok, hP, hD, hK, hS⟩ := hin
  obtain ⟨xf_l, xf_0, xf_1, xf_2, xf_3, xf_6, xf_9, xf_10, xf_11, xf_12, tf_l, tf_0, tf_1, tf_2, tf_3, tf_4, nf_l, nf_0, nf_1, nf_2, nf_11, cf_l, cf_0, sf_l, rf_l, rf_0, rf_1, rf_2, rf_3, mf_l, mf_z, mf_p, mf_n, mf_r0, mf_r1, mf_r2, mf_r3, mf_r4, mf_r5⟩ := hok
  have hown : s.vm.findClass RL = some m.cls := hown
  refine lv_aload_n hx hb dL_law_1473 rfl (lv_at hl 3 rfl) ?_
  refine lv_aload_n hx hb dL_law_1474 rfl (lv_at hl 4 rfl) ?_
  refine lv_iload hx hb dL_law_1475 (lv_at hl 0 rfl) ?_
  refine lv_iconst (v := 1) hx hb dL_law_1477 (by decide +kernel) ?_
  refine lv_iadd hx hb dL_law_1478 ?_
  rw [show (0 + 1 : Int32) = 1 by decide]
  refine va_sld hx hb hX hbl hbA hS (i := 1) (by unfold vp_in; decide) dL_law_1479 ?_
  refine lv_aload_n hx hb dL_law_1480 rfl (lv_at hl 4 rfl) ?_
  refine lv_iload hx hb dL_law_1481 (lv_at hl 0 rfl) ?_
  refine lv_iconst (v := 2) hx hb dL_law_1483 (by decide +kernel) ?_
  refine lv_iadd hx hb dL_law_1484 ?_
  rw [show (0 + 2 : Int32) = 2 by decide]
  refine va_sld hx hb hX hbl hbA hS (i := 2) (by unfold vp_in; decide) dL_law_1485 ?_
  refine lv_aload_n hx hb dL_law_1486 rfl (lv_at hl 1 rfl) ?_
  have hPc := hP.sub (ws' := [(x0, .inr (11, xf)), (tr, .inl (ct, 2, .inr (.inr (.inr (.inr (fun _ => none)))))), (o0, .inl (co, 1, .inr (.inl (fun _ => 0))))]) [0, 12, 20] rfl
  have hDc := hD.sub (ws' := [(x0, .inr (11, xf)), (tr, .inl (ct, 2, .inr (.inr (.inr (.inr (fun _ => none)))))), (o0, .inl (co, 1, .inr (.inl (fun _ => 0))))]) [0, 12, 20] (by decide) rfl
  have hKc := hK.sub (tys' := [(ct, .object "ScheduleHouse$Trial"), (co, .long)]) [6, 13] rfl
  have hFc := va_free (wc := [(x0, .inr (11, xf)), (tr, .inl (ct, 2, .inr (.inr (.inr (.inr (fun _ => none)))))), (o0, .inl (co, 1, .inr (.inl (fun _ => 0))))]) hD hS hA [0, 12, 20] rfl
  refine va_calli (vx_runSW (As := [.ref x0, .int (xs (1 : Int32).toNatClampNeg), .int (xs (2 : Int32).toNatClampNeg), .ref o0]) (rest := []) ⟨hx, hb, hml, hown, hts⟩ (c_L_tried l D x0 o0 tr ct co xf (fun _ => 0) (xs (1 : Int32).toNatClampNeg) (xs (2 : Int32).toNatClampNeg) H.size hlt xf_6) (vx_cwSW 4 hts g_lw_45 rfl rfl rfl (by decide +kernel) ⟨Nat.le_of_ble_eq_true rfl, Nat.le_of_ble_eq_true rfl⟩) ⟨st_blind, fun U hU hW => ⟨rfl, st_call hU hW hPc hKc hDc hZ hS hFc hE⟩⟩ rfl rfl hl.1 rfl (lv_room (Nat.le_of_ble_eq_true rfl)) dL_law_1487 ⟨Nat.le_of_ble_eq_true rfl, Nat.le_of_ble_eq_true rfl⟩) hS (fun q _ h => hFc q h) hFc (fun r1 u2 t H1 locs ht hvm hw hB hz1 hk1 hS => ?_)
  have hXX := hw
  obtain ⟨hP1, hK1, hD1⟩ := hB
  rw [ht] at hP1
  have hK1 := va_K.moved hvm.symm hK1
  obtain ⟨hP, hD⟩ := va_join (wr := [(tk, .inr (9, tf)), (tx, .inl (cx, 3000, .inl (fun _ => 0))), (so, .inl (cs, 702, .inl (fun _ => 0))), (pl, .inl (cp, 702, .inl (fun _ => 0))), (li, .inl (ci, 702, .inl (fun _ => 0))), (nm, .inr (6, nf)), (us, .inl (cu, 702, .inl (fun _ => 0))), (me, .inl (cm, 702, .inl (fun _ => 0))), (cd, .inr (0, cf)), (sp, .inr (8, sf)), (rd, .inr (7, rf)), (m0, .inr (12, mf)), (b0, .inl (d0, 3000, .inl (fun _ => 0))), (b1, .inl (d1, 710, .inl (fun _ => 0))), (b2, .inl (d2, 710, .inl (fun _ => 0))), (b3, .inl (d3, 710, .inl (fun _ => 0))), (b4, .inl (d4, 710, .inl (fun _ => 0))), (b5, .inl (d5, 2, .inl (fun _ => 0)))]) (w1 := [(o0, .inl (co, 1, .inr (.inl u2)))]) hP hD [0, 12, 20] [1, 2, 3, 4, 5, 6, 7, 8, 9, 10, 11, 13, 14, 15, 16, 17, 18, 19] rfl rfl (by decide) (by decide) hk1 hFc hP1 hD1
  have hK := (hK.sub (tys' := [(cx, .byte), (cs, .int), (cp, .int), (ci, .int), (cu, .int), (cm, .int), (d0, .byte), (d1, .int), (d2, .int), (d3, .int), (d4, .int), (d5, .boolean)]) [0, 1, 2, 3, 4, 5, 7, 8, 9, 10, 11, 12] rfl).app hK1
  generalize H1 = H at hP hS ⊢
  have hP : va_P D vwCl [(tk, .inr (9, tf)), (tx, .inl (cx, 3000, .inl (fun _ => 0))), (so, .inl (cs, 702, .inl (fun _ => 0))), (pl, .inl (cp, 702, .inl (fun _ => 0))), (li, .inl (ci, 702, .inl (fun _ => 0))), (nm, .inr (6, nf)), (us, .inl (cu, 702, .inl (fun _ => 0))), (me, .inl (cm, 702, .inl (fun _ => 0))), (cd, .inr (0, cf)), (sp, .inr (8, sf)), (rd, .inr (7, rf)), (m0, .inr (12, mf)), (b0, .inl (d0, 3000, .inl (fun _ => 0))), (b1, .inl (d1, 710, .inl (fun _ => 0))), (b2, .inl (d2, 710, .inl (fun _ => 0))), (b3, .inl (d3, 710, .inl (fun _ => 0))), (b4, .inl (d4, 710, .inl (fun _ => 0))), (b5, .inl (d5, 2, .inl (fun _ => 0))), (o0, .inl (co, 1, .inr (.inl u2)))] H := hP
  have hD : va_D (fun q : Nat => s.heap.size ≤ q) [(tk, .inr (9, tf)), (tx, .inl (cx, 3000, .inl (fun _ => 0))), (so, .inl (cs, 702, .inl (fun _ => 0))), (pl, .inl (cp, 702, .inl (fun _ => 0))), (li, .inl (ci, 702, .inl (fun _ => 0))), (nm, .inr (6, nf)), (us, .inl (cu, 702, .inl (fun _ => 0))), (me, .inl (cm, 702, .inl (fun _ => 0))), (cd, .inr (0, cf)), (sp, .inr (8, sf)), (rd, .inr (7, rf)), (m0, .inr (12, mf)), (b0, .inl (d0, 3000, .inl (fun _ => 0))), (b1, .inl (d1, 710, .inl (fun _ => 0))), (b2, .inl (d2, 710, .inl (fun _ => 0))), (b3, .inl (d3, 710, .inl (fun _ => 0))), (b4, .inl (d4, 710, .inl (fun _ => 0))), (b5, .inl (d5, 2, .inl (fun _ => 0))), (o0, .inl (co, 1, .inr (.inl u2)))] := hD
  have hK : va_K D vwCl [(cx, .byte), (cs, .int), (cp, .int), (ci, .int), (cu, .int), (cm, .int), (d0, .byte), (d1, .int), (d2, .int), (d3, .int), (d4, .int), (d5, .boolean), (co, .long)] s := hK
  refine lv_istore (lv' := [(5, .int r1), (4, .int 0), (3, .ref o0), (2, .ref m0), (1, .ref x0), (0, .ref b)]) hx hb dL_law_1490 hl (by decide) rfl (fun ls hl => ?_)
  refine lv_aload_n hx hb dL_law_1492 rfl (lv_at hl 3 rfl) ?_
  refine lv_aload_n hx hb dL_law_1493 rfl (lv_at hl 5 rfl) ?_
  refine lv_iload hx hb dL_law_1494 (lv_at hl 1 rfl) ?_
  refine lv_iconst (v := 1) hx hb dL_law_1496 (by decide +kernel) ?_
  refine lv_iadd hx hb dL_law_1497 ?_
  rw [show (0 + 1 : Int32) = 1 by decide]
  refine va_sld hx hb hX hbl hbA hS (i := 1) (by unfold vp_in; decide) dL_law_1498 ?_
  refine lv_aload_n hx hb dL_law_1499 rfl (lv_at hl 5 rfl) ?_
  refine lv_iload hx hb dL_law_1500 (lv_at hl 1 rfl) ?_
  refine lv_iconst (v := 2) hx hb dL_law_1502 (by decide +kernel) ?_
  refine lv_iadd hx hb dL_law_1503 ?_
  rw [show (0 + 2 : Int32) = 2 by decide]
  refine va_sld hx hb hX hbl hbA hS (i := 2) (by unfold vp_in; decide) dL_law_1504 ?_
  have hPc := hP.sub (ws' := [(m0, .inr (12, mf)), (b5, .inl (d5, 2, .inl (fun _ => 0)))]) [11, 17] rfl
  have hDc := hD.sub (ws' := [(m0, .inr (12, mf)), (b5, .inl (d5, 2, .inl (fun _ => 0)))]) [11, 17] (by decide) rfl
  have hKc := hK.sub (tys' := [(d5, .boolean)]) [11] rfl
  have hFc := va_free (wc := [(m0, .inr (12, mf)), (b5, .inl (d5, 2, .inl (fun _ => 0)))]) hD hS hA [11, 17] rfl
  refine va_calli (va_runV (As := [.int (xs (1 : Int32).toNatClampNeg), .int (xs (2 : Int32).toNatClampNeg)]) (rest := []) ⟨hx, hb, hml, hown, hts⟩ (c_m_tried l D m0 b5 d5 mf (xs (1 : Int32).toNatClampNeg) (xs (2 : Int32).toNatClampNeg) H.size mf_l (mf_z 0 (by decide)) mf_r5) (cwV 2 hts g_lw_46 rfl rfl rfl (by decide +kernel) ⟨Nat.le_of_ble_eq_true rfl, Nat.le_of_ble_eq_true rfl⟩) ⟨st_blind, va_recv hKc hPc (ci := 12) (q0 := 0) rfl rfl, fun U hU hW => ⟨rfl, st_call hU hW hPc hKc hDc hZ hS hFc hE⟩⟩ rfl rfl hl.1 rfl (lv_room (Nat.le_of_ble_eq_true rfl)) dL_law_1505 ⟨Nat.le_of_ble_eq_true rfl, Nat.le_of_ble_eq_true rfl⟩) hS (fun q _ h => hFc q h) hFc (fun r3 u4 t H1 locs ht hvm hw hB hz1 hk1 hS => ?_)
  obtain ⟨t9, ht9, hM⟩ := hw
  obtain ⟨hP1, hK1, hD1⟩ := hB
  rw [ht] at hP1
  have hK1 := va_K.moved hvm.symm hK1
  obtain ⟨hP, hD⟩ := va_join (wr := [(tk, .inr (9, tf)), (tx, .inl (cx, 3000, .inl (fun _ => 0))), (so, .inl (cs, 702, .inl (fun _ => 0))), (pl, .inl (cp, 702, .inl (fun _ => 0))), (li, .inl (ci, 702, .inl (fun _ => 0))), (nm, .inr (6, nf)), (us, .inl (cu, 702, .inl (fun _ => 0))), (me, .inl (cm, 702, .inl (fun _ => 0))), (cd, .inr (0, cf)), (sp, .inr (8, sf)), (rd, .inr (7, rf)), (b0, .inl (d0, 3000, .inl (fun _ => 0))), (b1, .inl (d1, 710, .inl (fun _ => 0))), (b2, .inl (d2, 710, .inl (fun _ => 0))), (b3, .inl (d3, 710, .inl (fun _ => 0))), (b4, .inl (d4, 710, .inl (fun _ => 0))), (o0, .inl (co, 1, .inr (.inl u2)))]) (w1 := [(m0, .inr (12, u4))]) hP hD [11, 17] [0, 1, 2, 3, 4, 5, 6, 7, 8, 9, 10, 12, 13, 14, 15, 16, 18] rfl rfl (by decide) (by decide) hk1 hFc hP1 hD1
  have hK := (hK.sub (tys' := [(cx, .byte), (cs, .int), (cp, .int), (ci, .int), (cu, .int), (cm, .int), (d0, .byte), (d1, .int), (d2, .int), (d3, .int), (d4, .int), (co, .long)]) [0, 1, 2, 3, 4, 5, 6, 7, 8, 9, 10, 12] rfl).app hK1
  generalize H1 = H at hP hS ⊢
  have hP : va_P D vwCl [(tk, .inr (9, tf)), (tx, .inl (cx, 3000, .inl (fun _ => 0))), (so, .inl (cs, 702, .inl (fun _ => 0))), (pl, .inl (cp, 702, .inl (fun _ => 0))), (li, .inl (ci, 702, .inl (fun _ => 0))), (nm, .inr (6, nf)), (us, .inl (cu, 702, .inl (fun _ => 0))), (me, .inl (cm, 702, .inl (fun _ => 0))), (cd, .inr (0, cf)), (sp, .inr (8, sf)), (rd, .inr (7, rf)), (b0, .inl (d0, 3000, .inl (fun _ => 0))), (b1, .inl (d1, 710, .inl (fun _ => 0))), (b2, .inl (d2, 710, .inl (fun _ => 0))), (b3, .inl (d3, 710, .inl (fun _ => 0))), (b4, .inl (d4, 710, .inl (fun _ => 0))), (o0, .inl (co, 1, .inr (.inl u2))), (m0, .inr (12, u4))] H := hP
  have hD : va_D (fun q : Nat => s.heap.size ≤ q) [(tk, .inr (9, tf)), (tx, .inl (cx, 3000, .inl (fun _ => 0))), (so, .inl (cs, 702, .inl (fun _ => 0))), (pl, .inl (cp, 702, .inl (fun _ => 0))), (li, .inl (ci, 702, .inl (fun _ => 0))), (nm, .inr (6, nf)), (us, .inl (cu, 702, .inl (fun _ => 0))), (me, .inl (cm, 702, .inl (fun _ => 0))), (cd, .inr (0, cf)), (sp, .inr (8, sf)), (rd, .inr (7, rf)), (b0, .inl (d0, 3000, .inl (fun _ => 0))), (b1, .inl (d1, 710, .inl (fun _ => 0))), (b2, .inl (d2, 710, .inl (fun _ => 0))), (b3, .inl (d3, 710, .inl (fun _ => 0))), (b4, .inl (d4, 710, .inl (fun _ => 0))), (o0, .inl (co, 1, .inr (.inl u2))), (m0, .inr (12, u4))] := hD
  have hK : va_K D vwCl [(cx, .byte), (cs, .int), (cp, .int), (ci, .int), (cu, .int), (cm, .int), (d0, .byte), (d1, .int), (d2, .int), (d3, .int), (d4, .int), (co, .long)] s := hK
  have ag := ag_tried (xs (1 : Int32).toNatClampNeg) (xs (2 : Int32).toNatClampNeg) r1 t9 r3 u2 hXX hM
  refine lv_istore (lv' := [(6, .int r3), (5, .int r1), (4, .int 0), (3, .ref o0), (2, .ref m0), (1, .ref x0), (0, .ref b)]) hx hb dL_law_1508 hl (by decide) rfl (fun ls hl => ?_)
  refine lv_aload_n hx hb dL_law_1510 rfl (lv_at hl 4 rfl) ?_
  have hPc := hP.sub (ws' := [(m0, .inr (12, u4))]) [17] rfl
  have hDc := hD.sub (ws' := [(m0, .inr (12, u4))]) [17] (by decide) rfl
  have hKc := hK.sub (tys' := []) [] rfl
  have hFc := va_free (wc := [(m0, .inr (12, u4))]) hD hS hA [17] rfl
  refine va_calli (va_runV (As := []) (rest := []) ⟨hx, hb, hml, hown, hts⟩ (c_m_thrown l D m0 u4 t9 H.size ht9) (cwV 0 hts g_lw_2 rfl rfl rfl (by decide +kernel) ⟨Nat.le_of_ble_eq_true rfl, Nat.le_of_ble_eq_true rfl⟩) ⟨st_blind, va_recv hKc hPc (ci := 12) (q0 := 0) rfl rfl, fun U hU hW => ⟨rfl, st_call hU hW hPc hKc hDc hZ hS hFc hE⟩⟩ rfl rfl hl.1 rfl (lv_room (Nat.le_of_ble_eq_true rfl)) dL_law_1511 ⟨Nat.le_of_ble_eq_true rfl, Nat.le_of_ble_eq_true rfl⟩) hS (fun q _ h => hFc q h) hFc (fun r5 u6 t H1 locs ht hvm hw hB hz1 hk1 hS => ?_)
  obtain ⟨hP, hD⟩ := va_join (wr := [(tk, .inr (9, tf)), (tx, .inl (cx, 3000, .inl (fun _ => 0))), (so, .inl (cs, 702, .inl (fun _ => 0))), (pl, .inl (cp, 702, .inl (fun _ => 0))), (li, .inl (ci, 702, .inl (fun _ => 0))), (nm, .inr (6, nf)), (us, .inl (cu, 702, .inl (fun _ => 0))), (me, .inl (cm, 702, .inl (fun _ => 0))), (cd, .inr (0, cf)), (sp, .inr (8, sf)), (rd, .inr (7, rf)), (b0, .inl (d0, 3000, .inl (fun _ => 0))), (b1, .inl (d1, 710, .inl (fun _ => 0))), (b2, .inl (d2, 710, .inl (fun _ => 0))), (b3, .inl (d3, 710, .inl (fun _ => 0))), (b4, .inl (d4, 710, .inl (fun _ => 0))), (o0, .inl (co, 1, .inr (.inl u2)))]) (w1 := []) hP hD [17] [0, 1, 2, 3, 4, 5, 6, 7, 8, 9, 10, 11, 12, 13, 14, 15, 16] rfl rfl (by decide) (by decide) hk1 hFc p_nil d_nil
  have hK := hK.sub (tys' := [(cx, .byte), (cs, .int), (cp, .int), (ci, .int), (cu, .int), (cm, .int), (d0, .byte), (d1, .int), (d2, .int), (d3, .int), (d4, .int), (co, .long)]) [0, 1, 2, 3, 4, 5, 6, 7, 8, 9, 10, 11] rfl
  generalize H1 = H at hP hS ⊢
  have hP : va_P D vwCl [(tk, .inr (9, tf)), (tx, .inl (cx, 3000, .inl (fun _ => 0))), (so, .inl (cs, 702, .inl (fun _ => 0))), (pl, .inl (cp, 702, .inl (fun _ => 0))), (li, .inl (ci, 702, .inl (fun _ => 0))), (nm, .inr (6, nf)), (us, .inl (cu, 702, .inl (fun _ => 0))), (me, .inl (cm, 702, .inl (fun _ => 0))), (cd, .inr (0, cf)), (sp, .inr (8, sf)), (rd, .inr (7, rf)), (b0, .inl (d0, 3000, .inl (fun _ => 0))), (b1, .inl (d1, 710, .inl (fun _ => 0))), (b2, .inl (d2, 710, .inl (fun _ => 0))), (b3, .inl (d3, 710, .inl (fun _ => 0))), (b4, .inl (d4, 710, .inl (fun _ => 0))), (o0, .inl (co, 1, .inr (.inl u2)))] H := hP
  have hD : va_D (fun q : Nat => s.heap.size ≤ q) [(tk, .inr (9, tf)), (tx, .inl (cx, 3000, .inl (fun _ => 0))), (so, .inl (cs, 702, .inl (fun _ => 0))), (pl, .inl (cp, 702, .inl (fun _ => 0))), (li, .inl (ci, 702, .inl (fun _ => 0))), (nm, .inr (6, nf)), (us, .inl (cu, 702, .inl (fun _ => 0))), (me, .inl (cm, 702, .inl (fun _ => 0))), (cd, .inr (0, cf)), (sp, .inr (8, sf)), (rd, .inr (7, rf)), (b0, .inl (d0, 3000, .inl (fun _ => 0))), (b1, .inl (d1, 710, .inl (fun _ => 0))), (b2, .inl (d2, 710, .inl (fun _ => 0))), (b3, .inl (d3, 710, .inl (fun _ => 0))), (b4, .inl (d4, 710, .inl (fun _ => 0))), (o0, .inl (co, 1, .inr (.inl u2)))] := hD
  have hK : va_K D vwCl [(cx, .byte), (cs, .int), (cp, .int), (ci, .int), (cu, .int), (cm, .int), (d0, .byte), (d1, .int), (d2, .int), (d3, .int), (d4, .int), (co, .long)] s := hK
  subst hw
  refine lv_iload hx hb dL_law_1514 (lv_at hl 1 rfl) ?_
  refine lv_icmp_eq (tgt := 1521) hx hb dL_law_1516 (by decide) (fun _ => ?_) (fun c9 => absurd ag.1 c9)
  refine lv_iload hx hb dL_law_1521 (lv_at hl 1 rfl) ?_
  refine lv_if_ne (tgt := 1538) hx hb dL_law_1523 (by decide) (fun c5 => ?_) (fun c5 => ?_)
  · refine lv_goto (tgt := 1894) hx hb dL_law_1538 (by decide) ?_
    refine W.widen (k := 2000) (n := 2000000) (Nat.le_of_ble_eq_true rfl) (Nat.le_of_ble_eq_true rfl) ?_
    exact law_tail l C0 hS (lv_sub hl [2, 6] rfl)
  · refine lv_aload_n hx hb dL_law_1526 rfl (lv_at hl 3 rfl) ?_
    refine lv_iconst (v := 0) hx hb dL_law_1527 (by decide +kernel) ?_
    refine va_lald hx hb hK hP 16 11 rfl rfl (i := 0) (by unfold vp_in; decide) dL_law_1528 ?_
    refine lv_iload hx hb dL_law_1529 (lv_at hl 0 rfl) ?_
    refine lv_i2l (v := r3.toInt64) hx hb dL_law_1531 rfl ?_
    rw [show u2 (0 : Int32).toNatClampNeg = r3.toInt64 from ag.2 c5]
    refine W.lcmp hx hb dL_law_1532 ?_
    rw [cmp_eq]
    refine lv_if_eq (tgt := 1538) hx hb dL_law_1533 (by decide) (fun _ => ?_) (fun c9 => False.elim (by revert c9; decide))
    refine lv_goto (tgt := 1894) hx hb dL_law_1538 (by decide) ?_
    refine W.widen (k := 2000) (n := 2000000) (Nat.le_of_ble_eq_true rfl) (Nat.le_of_ble_eq_true rfl) ?_
    exact law_tail l C0 hS (lv_sub hl [2, 6] rfl)
set_option maxHeartbeats 400000 in
set_option maxRecDepth 100000 in
theorem law_23 {p : Program} {e : Env} {s : State} {m : MethodId} {below : List Frame} {meth : Method} {c : Code} (l : Launch) (hlt : l.stackTraces = false) {b : Nat} {xs : Nat → Int32} (C0 : lw_At p s m meth c b 4 xs) (hE : ev s) (hZ : ev_Z (fun q : Nat => s.heap.size ≤ q) s s.heap) (D : va_G) (x0 tk tx so pl li nm us me cd sp rd tr m0 b0 b1 b2 b3 b4 b5 o0 : Nat) (cx cs cp ci cu cm ct d0 d1 d2 d3 d4 d5 co : ClassId) (xf tf nf cf sf rf mf : List Value) {H : Heap} {locs : List Loc} {ls : Array Slot} (hin : law_in D s H locs x0 tk tx so pl li nm us me cd sp rd tr m0 b0 b1 b2 b3 b4 b5 o0 cx cs cp ci cu cm ct d0 d1 d2 d3 d4 d5 co xf tf nf cf sf rf mf) (hl : lv_has ls 7 [(4, .int 0), (3, .ref o0), (2, .ref m0), (1, .ref x0), (0, .ref b)]) : W p l e room_1 s m #[Value.ref b] below meth c H locs 1000 1000000 (lw_Z below #[Value.ref b] s) (F0 m 1541 ls []) := by
  obtain ⟨hx, hb, hr, hml, hown, hts, hX, hbl, hlocks, hgv⟩ := id C0
  have hA : ∀ q : Nat, s.heap.size ≤ q → (fun q : Nat => s.heap.size ≤ q) q := fun _ h => h
  have hbA : ¬ (fun q : Nat => s.heap.size ≤ q) b := Nat.not_le.mpr hbl
  obtain ⟨hok, hP, hD, hK, hS⟩ := hin
  obtain ⟨xf_l, xf_0, xf_1, xf_2, xf_3, xf_6, xf_9, xf_10, xf_11, xf_12, tf_l, tf_0, tf_1, tf_2, tf_3, tf_4, nf_l, nf_0, nf_1, nf_2, nf_11, cf_l, cf_0, sf_l, rf_l, rf_0, rf_1, rf_2, rf_3, mf_l, mf_z, mf_p, mf_n, mf_r0, mf_r1, mf_r2, mf_r3, mf_r4, mf_r5⟩ := hok
  have hown : s.vm.findClass RL = some m.cls := hown
  refine lv_aload_n hx hb dL_law_1541 rfl (lv_at hl 3 rfl) ?_
  refine lv_aload_n hx hb dL_law_1542 rfl (lv_at hl 4 rfl) ?_
  refine lv_iload hx hb dL_law_1543 (lv_at hl 0 rfl) ?_
  refine lv_iconst (v := 1) hx hb dL_law_1545 (by decide +kernel) ?_
  refine lv_iadd hx hb dL_law_1546 ?_
  rw [show (0 + 1 : Int32) = 1 by decide]
  refine va_sld hx hb hX hbl hbA hS (i := 1) (by unfold vp_in; decide) dL_law_1547 ?_
  refine lv_aload_n hx hb dL_law_1548 rfl (lv_at hl 4 rfl) ?_
  refine lv_iload hx hb dL_law_1549 (lv_at hl 0 rfl) ?_
  refine lv_iconst (v := 2) hx hb dL_law_1551 (by decide +kernel) ?_
  refine lv_iadd hx hb dL_law_1552 ?_
  rw [show (0 + 2 : Int32) = 2 by decide]
  refine va_sld hx hb hX hbl hbA hS (i := 2) (by unfold vp_in; decide) dL_law_1553 ?_
  refine lv_aload_n hx hb dL_law_1554 rfl (lv_at hl 4 rfl) ?_
  refine lv_iload hx hb dL_law_1555 (lv_at hl 0 rfl) ?_
  refine lv_iconst (v := 3) hx hb dL_law_1557 (by decide +kernel) ?_
  refine lv_iadd hx hb dL_law_1558 ?_
  rw [show (0 + 3 : Int32) = 3 by decide]
  refine va_sld hx hb hX hbl hbA hS (i := 3) (by unfold vp_in; decide) dL_law_1559 ?_
  refine lv_aload_n hx hb dL_law_1560 rfl (lv_at hl 1 rfl) ?_
  have hPc := hP.sub (ws' := [(x0, .inr (11, xf)), (tr, .inl (ct, 2, .inr (.inr (.inr (.inr (fun _ => none)))))), (o0, .inl (co, 1, .inr (.inl (fun _ => 0))))]) [0, 12, 20] rfl
  have hDc := hD.sub (ws' := [(x0, .inr (11, xf)), (tr, .inl (ct, 2, .inr (.inr (.inr (.inr (fun _ => none)))))), (o0, .inl (co, 1, .inr (.inl (fun _ => 0))))]) [0, 12, 20] (by decide) rfl
  have hKc := hK.sub (tys' := [(ct, .object "ScheduleHouse$Trial"), (co, .long)]) [6, 13] rfl
  have hFc := va_free (wc := [(x0, .inr (11, xf)), (tr, .inl (ct, 2, .inr (.inr (.inr (.inr (fun _ => none)))))), (o0, .inl (co, 1, .inr (.inl (fun _ => 0))))]) hD hS hA [0, 12, 20] rfl
  refine va_calli (vx_runSW (As := [.ref x0, .int (xs (1 : Int32).toNatClampNeg), .int (xs (2 : Int32).toNatClampNeg), .int (xs (3 : Int32).toNatClampNeg), .ref o0]) (rest := []) ⟨hx, hb, hml, hown, hts⟩ (c_L_outcome l D x0 o0 tr ct co xf (fun _ => 0) (xs (1 : Int32).toNatClampNeg) (xs (2 : Int32).toNatClampNeg) (xs (3 : Int32).toNatClampNeg) H.size hlt xf_6) (vx_cwSW 5 hts g_lw_47 rfl rfl rfl (by decide +kernel) ⟨Nat.le_of_ble_eq_true rfl, Nat.le_of_ble_eq_true rfl⟩) ⟨st_blind, fun U hU hW => ⟨rfl, st_call hU hW hPc hKc hDc hZ hS hFc hE⟩⟩ rfl rfl hl.1 rfl (lv_room (Nat.le_of_ble_eq_true rfl)) dL_law_1561 ⟨Nat.le_of_ble_eq_true rfl, Nat.le_of_ble_eq_true rfl⟩) hS (fun q _ h => hFc q h) hFc (fun r1 u2 t H1 locs ht hvm hw hB hz1 hk1 hS => ?_)
  have hXX := hw
  obtain ⟨hP1, hK1, hD1⟩ := hB
  rw [ht] at hP1
  have hK1 := va_K.moved hvm.symm hK1
  obtain ⟨hP, hD⟩ := va_join (wr := [(tk, .inr (9, tf)), (tx, .inl (cx, 3000, .inl (fun _ => 0))), (so, .inl (cs, 702, .inl (fun _ => 0))), (pl, .inl (cp, 702, .inl (fun _ => 0))), (li, .inl (ci, 702, .inl (fun _ => 0))), (nm, .inr (6, nf)), (us, .inl (cu, 702, .inl (fun _ => 0))), (me, .inl (cm, 702, .inl (fun _ => 0))), (cd, .inr (0, cf)), (sp, .inr (8, sf)), (rd, .inr (7, rf)), (m0, .inr (12, mf)), (b0, .inl (d0, 3000, .inl (fun _ => 0))), (b1, .inl (d1, 710, .inl (fun _ => 0))), (b2, .inl (d2, 710, .inl (fun _ => 0))), (b3, .inl (d3, 710, .inl (fun _ => 0))), (b4, .inl (d4, 710, .inl (fun _ => 0))), (b5, .inl (d5, 2, .inl (fun _ => 0)))]) (w1 := [(o0, .inl (co, 1, .inr (.inl u2)))]) hP hD [0, 12, 20] [1, 2, 3, 4, 5, 6, 7, 8, 9, 10, 11, 13, 14, 15, 16, 17, 18, 19] rfl rfl (by decide) (by decide) hk1 hFc hP1 hD1
  have hK := (hK.sub (tys' := [(cx, .byte), (cs, .int), (cp, .int), (ci, .int), (cu, .int), (cm, .int), (d0, .byte), (d1, .int), (d2, .int), (d3, .int), (d4, .int), (d5, .boolean)]) [0, 1, 2, 3, 4, 5, 7, 8, 9, 10, 11, 12] rfl).app hK1
  generalize H1 = H at hP hS ⊢
  have hP : va_P D vwCl [(tk, .inr (9, tf)), (tx, .inl (cx, 3000, .inl (fun _ => 0))), (so, .inl (cs, 702, .inl (fun _ => 0))), (pl, .inl (cp, 702, .inl (fun _ => 0))), (li, .inl (ci, 702, .inl (fun _ => 0))), (nm, .inr (6, nf)), (us, .inl (cu, 702, .inl (fun _ => 0))), (me, .inl (cm, 702, .inl (fun _ => 0))), (cd, .inr (0, cf)), (sp, .inr (8, sf)), (rd, .inr (7, rf)), (m0, .inr (12, mf)), (b0, .inl (d0, 3000, .inl (fun _ => 0))), (b1, .inl (d1, 710, .inl (fun _ => 0))), (b2, .inl (d2, 710, .inl (fun _ => 0))), (b3, .inl (d3, 710, .inl (fun _ => 0))), (b4, .inl (d4, 710, .inl (fun _ => 0))), (b5, .inl (d5, 2, .inl (fun _ => 0))), (o0, .inl (co, 1, .inr (.inl u2)))] H := hP
  have hD : va_D (fun q : Nat => s.heap.size ≤ q) [(tk, .inr (9, tf)), (tx, .inl (cx, 3000, .inl (fun _ => 0))), (so, .inl (cs, 702, .inl (fun _ => 0))), (pl, .inl (cp, 702, .inl (fun _ => 0))), (li, .inl (ci, 702, .inl (fun _ => 0))), (nm, .inr (6, nf)), (us, .inl (cu, 702, .inl (fun _ => 0))), (me, .inl (cm, 702, .inl (fun _ => 0))), (cd, .inr (0, cf)), (sp, .inr (8, sf)), (rd, .inr (7, rf)), (m0, .inr (12, mf)), (b0, .inl (d0, 3000, .inl (fun _ => 0))), (b1, .inl (d1, 710, .inl (fun _ => 0))), (b2, .inl (d2, 710, .inl (fun _ => 0))), (b3, .inl (d3, 710, .inl (fun _ => 0))), (b4, .inl (d4, 710, .inl (fun _ => 0))), (b5, .inl (d5, 2, .inl (fun _ => 0))), (o0, .inl (co, 1, .inr (.inl u2)))] := hD
  have hK : va_K D vwCl [(cx, .byte), (cs, .int), (cp, .int), (ci, .int), (cu, .int), (cm, .int), (d0, .byte), (d1, .int), (d2, .int), (d3, .int), (d4, .int), (d5, .boolean), (co, .long)] s := hK
  refine lv_istore (lv' := [(5, .int r1), (4, .int 0), (3, .ref o0), (2, .ref m0), (1, .ref x0), (0, .ref b)]) hx hb dL_law_1564 hl (by decide) rfl (fun ls hl => ?_)
  refine lv_aload_n hx hb dL_law_1566 rfl (lv_at hl 3 rfl) ?_
  refine lv_aload_n hx hb dL_law_1567 rfl (lv_at hl 5 rfl) ?_
  refine lv_iload hx hb dL_law_1568 (lv_at hl 1 rfl) ?_
  refine lv_iconst (v := 1) hx hb dL_law_1570 (by decide +kernel) ?_
  refine lv_iadd hx hb dL_law_1571 ?_
  rw [show (0 + 1 : Int32) = 1 by decide]
  refine va_sld hx hb hX hbl hbA hS (i := 1) (by unfold vp_in; decide) dL_law_1572 ?_
  refine lv_aload_n hx hb dL_law_1573 rfl (lv_at hl 5 rfl) ?_
  refine lv_iload hx hb dL_law_1574 (lv_at hl 1 rfl) ?_
  refine lv_iconst (v := 2) hx hb dL_law_1576 (by decide +kernel) ?_
  refine lv_iadd hx hb dL_law_1577 ?_
  rw [show (0 + 2 : Int32) = 2 by decide]
  refine va_sld hx hb hX hbl hbA hS (i := 2) (by unfold vp_in; decide) dL_law_1578 ?_
  refine lv_aload_n hx hb dL_law_1579 rfl (lv_at hl 5 rfl) ?_
  refine lv_iload hx hb dL_law_1580 (lv_at hl 1 rfl) ?_
  refine lv_iconst (v := 3) hx hb dL_law_1582 (by decide +kernel) ?_
  refine lv_iadd hx hb dL_law_1583 ?_
  rw [show (0 + 3 : Int32) = 3 by decide]
  refine va_sld hx hb hX hbl hbA hS (i := 3) (by unfold vp_in; decide) dL_law_1584 ?_
  have hPc := hP.sub (ws' := [(m0, .inr (12, mf)), (b5, .inl (d5, 2, .inl (fun _ => 0)))]) [11, 17] rfl
  have hDc := hD.sub (ws' := [(m0, .inr (12, mf)), (b5, .inl (d5, 2, .inl (fun _ => 0)))]) [11, 17] (by decide) rfl
  have hKc := hK.sub (tys' := [(d5, .boolean)]) [11] rfl
  have hFc := va_free (wc := [(m0, .inr (12, mf)), (b5, .inl (d5, 2, .inl (fun _ => 0)))]) hD hS hA [11, 17] rfl
  refine va_calli (va_runV (As := [.int (xs (1 : Int32).toNatClampNeg), .int (xs (2 : Int32).toNatClampNeg), .int (xs (3 : Int32).toNatClampNeg)]) (rest := []) ⟨hx, hb, hml, hown, hts⟩ (c_m_outcome l D m0 b5 d5 mf (xs (1 : Int32).toNatClampNeg) (xs (2 : Int32).toNatClampNeg) (xs (3 : Int32).toNatClampNeg) H.size mf_l (mf_z 0 (by decide)) mf_r5) (cwV 3 hts g_lw_48 rfl rfl rfl (by decide +kernel) ⟨Nat.le_of_ble_eq_true rfl, Nat.le_of_ble_eq_true rfl⟩) ⟨st_blind, va_recv hKc hPc (ci := 12) (q0 := 0) rfl rfl, fun U hU hW => ⟨rfl, st_call hU hW hPc hKc hDc hZ hS hFc hE⟩⟩ rfl rfl hl.1 rfl (lv_room (Nat.le_of_ble_eq_true rfl)) dL_law_1585 ⟨Nat.le_of_ble_eq_true rfl, Nat.le_of_ble_eq_true rfl⟩) hS (fun q _ h => hFc q h) hFc (fun r3 u4 t H1 locs ht hvm hw hB hz1 hk1 hS => ?_)
  obtain ⟨t9, ht9, hM⟩ := hw
  obtain ⟨hP1, hK1, hD1⟩ := hB
  rw [ht] at hP1
  have hK1 := va_K.moved hvm.symm hK1
  obtain ⟨hP, hD⟩ := va_join (wr := [(tk, .inr (9, tf)), (tx, .inl (cx, 3000, .inl (fun _ => 0))), (so, .inl (cs, 702, .inl (fun _ => 0))), (pl, .inl (cp, 702, .inl (fun _ => 0))), (li, .inl (ci, 702, .inl (fun _ => 0))), (nm, .inr (6, nf)), (us, .inl (cu, 702, .inl (fun _ => 0))), (me, .inl (cm, 702, .inl (fun _ => 0))), (cd, .inr (0, cf)), (sp, .inr (8, sf)), (rd, .inr (7, rf)), (b0, .inl (d0, 3000, .inl (fun _ => 0))), (b1, .inl (d1, 710, .inl (fun _ => 0))), (b2, .inl (d2, 710, .inl (fun _ => 0))), (b3, .inl (d3, 710, .inl (fun _ => 0))), (b4, .inl (d4, 710, .inl (fun _ => 0))), (o0, .inl (co, 1, .inr (.inl u2)))]) (w1 := [(m0, .inr (12, u4))]) hP hD [11, 17] [0, 1, 2, 3, 4, 5, 6, 7, 8, 9, 10, 12, 13, 14, 15, 16, 18] rfl rfl (by decide) (by decide) hk1 hFc hP1 hD1
  have hK := (hK.sub (tys' := [(cx, .byte), (cs, .int), (cp, .int), (ci, .int), (cu, .int), (cm, .int), (d0, .byte), (d1, .int), (d2, .int), (d3, .int), (d4, .int), (co, .long)]) [0, 1, 2, 3, 4, 5, 6, 7, 8, 9, 10, 12] rfl).app hK1
  generalize H1 = H at hP hS ⊢
  have hP : va_P D vwCl [(tk, .inr (9, tf)), (tx, .inl (cx, 3000, .inl (fun _ => 0))), (so, .inl (cs, 702, .inl (fun _ => 0))), (pl, .inl (cp, 702, .inl (fun _ => 0))), (li, .inl (ci, 702, .inl (fun _ => 0))), (nm, .inr (6, nf)), (us, .inl (cu, 702, .inl (fun _ => 0))), (me, .inl (cm, 702, .inl (fun _ => 0))), (cd, .inr (0, cf)), (sp, .inr (8, sf)), (rd, .inr (7, rf)), (b0, .inl (d0, 3000, .inl (fun _ => 0))), (b1, .inl (d1, 710, .inl (fun _ => 0))), (b2, .inl (d2, 710, .inl (fun _ => 0))), (b3, .inl (d3, 710, .inl (fun _ => 0))), (b4, .inl (d4, 710, .inl (fun _ => 0))), (o0, .inl (co, 1, .inr (.inl u2))), (m0, .inr (12, u4))] H := hP
  have hD : va_D (fun q : Nat => s.heap.size ≤ q) [(tk, .inr (9, tf)), (tx, .inl (cx, 3000, .inl (fun _ => 0))), (so, .inl (cs, 702, .inl (fun _ => 0))), (pl, .inl (cp, 702, .inl (fun _ => 0))), (li, .inl (ci, 702, .inl (fun _ => 0))), (nm, .inr (6, nf)), (us, .inl (cu, 702, .inl (fun _ => 0))), (me, .inl (cm, 702, .inl (fun _ => 0))), (cd, .inr (0, cf)), (sp, .inr (8, sf)), (rd, .inr (7, rf)), (b0, .inl (d0, 3000, .inl (fun _ => 0))), (b1, .inl (d1, 710, .inl (fun _ => 0))), (b2, .inl (d2, 710, .inl (fun _ => 0))), (b3, .inl (d3, 710, .inl (fun _ => 0))), (b4, .inl (d4, 710, .inl (fun _ => 0))), (o0, .inl (co, 1, .inr (.inl u2))), (m0, .inr (12, u4))] := hD
  have hK : va_K D vwCl [(cx, .byte), (cs, .int), (cp, .int), (ci, .int), (cu, .int), (cm, .int), (d0, .byte), (d1, .int), (d2, .int), (d3, .int), (d4, .int), (co, .long)] s := hK
  have ag := ag_outcome (xs (1 : Int32).toNatClampNeg) (xs (2 : Int32).toNatClampNeg) (xs (3 : Int32).toNatClampNeg) r1 t9 r3 u2 hXX hM
  refine lv_istore (lv' := [(6, .int r3), (5, .int r1), (4, .int 0), (3, .ref o0), (2, .ref m0), (1, .ref x0), (0, .ref b)]) hx hb dL_law_1588 hl (by decide) rfl (fun ls hl => ?_)
  refine lv_aload_n hx hb dL_law_1590 rfl (lv_at hl 4 rfl) ?_
  have hPc := hP.sub (ws' := [(m0, .inr (12, u4))]) [17] rfl
  have hDc := hD.sub (ws' := [(m0, .inr (12, u4))]) [17] (by decide) rfl
  have hKc := hK.sub (tys' := []) [] rfl
  have hFc := va_free (wc := [(m0, .inr (12, u4))]) hD hS hA [17] rfl
  refine va_calli (va_runV (As := []) (rest := []) ⟨hx, hb, hml, hown, hts⟩ (c_m_thrown l D m0 u4 t9 H.size ht9) (cwV 0 hts g_lw_2 rfl rfl rfl (by decide +kernel) ⟨Nat.le_of_ble_eq_true rfl, Nat.le_of_ble_eq_true rfl⟩) ⟨st_blind, va_recv hKc hPc (ci := 12) (q0 := 0) rfl rfl, fun U hU hW => ⟨rfl, st_call hU hW hPc hKc hDc hZ hS hFc hE⟩⟩ rfl rfl hl.1 rfl (lv_room (Nat.le_of_ble_eq_true rfl)) dL_law_1591 ⟨Nat.le_of_ble_eq_true rfl, Nat.le_of_ble_eq_true rfl⟩) hS (fun q _ h => hFc q h) hFc (fun r5 u6 t H1 locs ht hvm hw hB hz1 hk1 hS => ?_)
  obtain ⟨hP, hD⟩ := va_join (wr := [(tk, .inr (9, tf)), (tx, .inl (cx, 3000, .inl (fun _ => 0))), (so, .inl (cs, 702, .inl (fun _ => 0))), (pl, .inl (cp, 702, .inl (fun _ => 0))), (li, .inl (ci, 702, .inl (fun _ => 0))), (nm, .inr (6, nf)), (us, .inl (cu, 702, .inl (fun _ => 0))), (me, .inl (cm, 702, .inl (fun _ => 0))), (cd, .inr (0, cf)), (sp, .inr (8, sf)), (rd, .inr (7, rf)), (b0, .inl (d0, 3000, .inl (fun _ => 0))), (b1, .inl (d1, 710, .inl (fun _ => 0))), (b2, .inl (d2, 710, .inl (fun _ => 0))), (b3, .inl (d3, 710, .inl (fun _ => 0))), (b4, .inl (d4, 710, .inl (fun _ => 0))), (o0, .inl (co, 1, .inr (.inl u2)))]) (w1 := []) hP hD [17] [0, 1, 2, 3, 4, 5, 6, 7, 8, 9, 10, 11, 12, 13, 14, 15, 16] rfl rfl (by decide) (by decide) hk1 hFc p_nil d_nil
  have hK := hK.sub (tys' := [(cx, .byte), (cs, .int), (cp, .int), (ci, .int), (cu, .int), (cm, .int), (d0, .byte), (d1, .int), (d2, .int), (d3, .int), (d4, .int), (co, .long)]) [0, 1, 2, 3, 4, 5, 6, 7, 8, 9, 10, 11] rfl
  generalize H1 = H at hP hS ⊢
  have hP : va_P D vwCl [(tk, .inr (9, tf)), (tx, .inl (cx, 3000, .inl (fun _ => 0))), (so, .inl (cs, 702, .inl (fun _ => 0))), (pl, .inl (cp, 702, .inl (fun _ => 0))), (li, .inl (ci, 702, .inl (fun _ => 0))), (nm, .inr (6, nf)), (us, .inl (cu, 702, .inl (fun _ => 0))), (me, .inl (cm, 702, .inl (fun _ => 0))), (cd, .inr (0, cf)), (sp, .inr (8, sf)), (rd, .inr (7, rf)), (b0, .inl (d0, 3000, .inl (fun _ => 0))), (b1, .inl (d1, 710, .inl (fun _ => 0))), (b2, .inl (d2, 710, .inl (fun _ => 0))), (b3, .inl (d3, 710, .inl (fun _ => 0))), (b4, .inl (d4, 710, .inl (fun _ => 0))), (o0, .inl (co, 1, .inr (.inl u2)))] H := hP
  have hD : va_D (fun q : Nat => s.heap.size ≤ q) [(tk, .inr (9, tf)), (tx, .inl (cx, 3000, .inl (fun _ => 0))), (so, .inl (cs, 702, .inl (fun _ => 0))), (pl, .inl (cp, 702, .inl (fun _ => 0))), (li, .inl (ci, 702, .inl (fun _ => 0))), (nm, .inr (6, nf)), (us, .inl (cu, 702, .inl (fun _ => 0))), (me, .inl (cm, 702, .inl (fun _ => 0))), (cd, .inr (0, cf)), (sp, .inr (8, sf)), (rd, .inr (7, rf)), (b0, .inl (d0, 3000, .inl (fun _ => 0))), (b1, .inl (d1, 710, .inl (fun _ => 0))), (b2, .inl (d2, 710, .inl (fun _ => 0))), (b3, .inl (d3, 710, .inl (fun _ => 0))), (b4, .inl (d4, 710, .inl (fun _ => 0))), (o0, .inl (co, 1, .inr (.inl u2)))] := hD
  have hK : va_K D vwCl [(cx, .byte), (cs, .int), (cp, .int), (ci, .int), (cu, .int), (cm, .int), (d0, .byte), (d1, .int), (d2, .int), (d3, .int), (d4, .int), (co, .long)] s := hK
  subst hw
  refine lv_iload hx hb dL_law_1594 (lv_at hl 1 rfl) ?_
  refine lv_icmp_eq (tgt := 1601) hx hb dL_law_1596 (by decide) (fun _ => ?_) (fun c9 => absurd ag.1 c9)
  refine lv_iload hx hb dL_law_1601 (lv_at hl 1 rfl) ?_
  refine lv_if_ne (tgt := 1618) hx hb dL_law_1603 (by decide) (fun c5 => ?_) (fun c5 => ?_)
  · refine lv_goto (tgt := 1894) hx hb dL_law_1618 (by decide) ?_
    refine W.widen (k := 2000) (n := 2000000) (Nat.le_of_ble_eq_true rfl) (Nat.le_of_ble_eq_true rfl) ?_
    exact law_tail l C0 hS (lv_sub hl [2, 6] rfl)
  · refine lv_aload_n hx hb dL_law_1606 rfl (lv_at hl 3 rfl) ?_
    refine lv_iconst (v := 0) hx hb dL_law_1607 (by decide +kernel) ?_
    refine va_lald hx hb hK hP 16 11 rfl rfl (i := 0) (by unfold vp_in; decide) dL_law_1608 ?_
    refine lv_iload hx hb dL_law_1609 (lv_at hl 0 rfl) ?_
    refine lv_i2l (v := r3.toInt64) hx hb dL_law_1611 rfl ?_
    rw [show u2 (0 : Int32).toNatClampNeg = r3.toInt64 from ag.2 c5]
    refine W.lcmp hx hb dL_law_1612 ?_
    rw [cmp_eq]
    refine lv_if_eq (tgt := 1618) hx hb dL_law_1613 (by decide) (fun _ => ?_) (fun c9 => False.elim (by revert c9; decide))
    refine lv_goto (tgt := 1894) hx hb dL_law_1618 (by decide) ?_
    refine W.widen (k := 2000) (n := 2000000) (Nat.le_of_ble_eq_true rfl) (Nat.le_of_ble_eq_true rfl) ?_
    exact law_tail l C0 hS (lv_sub hl [2, 6] rfl)
set_option maxHeartbeats 400000 in
set_option maxRecDepth 100000 in
theorem law_24 {p : Program} {e : Env} {s : State} {m : MethodId} {below : List Frame} {meth : Method} {c : Code} (l : Launch) (hlt : l.stackTraces = false) {b : Nat} {xs : Nat → Int32} (C0 : lw_At p s m meth c b 4 xs) (hE : ev s) (hZ : ev_Z (fun q : Nat => s.heap.size ≤ q) s s.heap) (D : va_G) (x0 tk tx so pl li nm us me cd sp rd tr m0 b0 b1 b2 b3 b4 b5 o0 : Nat) (cx cs cp ci cu cm ct d0 d1 d2 d3 d4 d5 co : ClassId) (xf tf nf cf sf rf mf : List Value) {H : Heap} {locs : List Loc} {ls : Array Slot} (hin : law_in D s H locs x0 tk tx so pl li nm us me cd sp rd tr m0 b0 b1 b2 b3 b4 b5 o0 cx cs cp ci cu cm ct d0 d1 d2 d3 d4 d5 co xf tf nf cf sf rf mf) (hl : lv_has ls 7 [(4, .int 0), (3, .ref o0), (2, .ref m0), (1, .ref x0), (0, .ref b)]) : W p l e room_1 s m #[Value.ref b] below meth c H locs 1000 1000000 (lw_Z below #[Value.ref b] s) (F0 m 1621 ls []) := by
  obtain ⟨hx, hb, hr, hml, hown, hts, hX, hbl, hlocks, hgv⟩ := id C0
  have hA : ∀ q : Nat, s.heap.size ≤ q → (fun q : Nat => s.heap.size ≤ q) q := fun _ h => h
  have hbA : ¬ (fun q : Nat => s.heap.size ≤ q) b := Nat.not_le.mpr hbl
  obtain ⟨hok, hP, hD, hK, hS⟩ := hin
  obtain ⟨xf_l, xf_0, xf_1, xf_2, xf_3, xf_6, xf_9, xf_10, xf_11, xf_12, tf_l, tf_0, tf_1, tf_2, tf_3, tf_4, nf_l, nf_0, nf_1, nf_2, nf_11, cf_l, cf_0, sf_l, rf_l, rf_0, rf_1, rf_2, rf_3, mf_l, mf_z, mf_p, mf_n, mf_r0, mf_r1, mf_r2, mf_r3, mf_r4, mf_r5⟩ := hok
  have hown : s.vm.findClass RL = some m.cls := hown
  refine lv_aload_n hx hb dL_law_1621 rfl (lv_at hl 3 rfl) ?_
  refine lv_aload_n hx hb dL_law_1622 rfl (lv_at hl 4 rfl) ?_
  refine lv_iload hx hb dL_law_1623 (lv_at hl 0 rfl) ?_
  refine lv_iconst (v := 1) hx hb dL_law_1625 (by decide +kernel) ?_
  refine lv_iadd hx hb dL_law_1626 ?_
  rw [show (0 + 1 : Int32) = 1 by decide]
  refine va_sld hx hb hX hbl hbA hS (i := 1) (by unfold vp_in; decide) dL_law_1627 ?_
  refine lv_aload_n hx hb dL_law_1628 rfl (lv_at hl 4 rfl) ?_
  refine lv_iload hx hb dL_law_1629 (lv_at hl 0 rfl) ?_
  refine lv_iconst (v := 2) hx hb dL_law_1631 (by decide +kernel) ?_
  refine lv_iadd hx hb dL_law_1632 ?_
  rw [show (0 + 2 : Int32) = 2 by decide]
  refine va_sld hx hb hX hbl hbA hS (i := 2) (by unfold vp_in; decide) dL_law_1633 ?_
  refine lv_aload_n hx hb dL_law_1634 rfl (lv_at hl 1 rfl) ?_
  have hPc := hP.sub (ws' := [(x0, .inr (11, xf)), (tr, .inl (ct, 2, .inr (.inr (.inr (.inr (fun _ => none)))))), (o0, .inl (co, 1, .inr (.inl (fun _ => 0))))]) [0, 12, 20] rfl
  have hDc := hD.sub (ws' := [(x0, .inr (11, xf)), (tr, .inl (ct, 2, .inr (.inr (.inr (.inr (fun _ => none)))))), (o0, .inl (co, 1, .inr (.inl (fun _ => 0))))]) [0, 12, 20] (by decide) rfl
  have hKc := hK.sub (tys' := [(ct, .object "ScheduleHouse$Trial"), (co, .long)]) [6, 13] rfl
  have hFc := va_free (wc := [(x0, .inr (11, xf)), (tr, .inl (ct, 2, .inr (.inr (.inr (.inr (fun _ => none)))))), (o0, .inl (co, 1, .inr (.inl (fun _ => 0))))]) hD hS hA [0, 12, 20] rfl
  refine va_calli (vx_runSW (As := [.ref x0, .int (xs (1 : Int32).toNatClampNeg), .int (xs (2 : Int32).toNatClampNeg), .ref o0]) (rest := []) ⟨hx, hb, hml, hown, hts⟩ (c_L_finding l D x0 o0 tr ct co xf (fun _ => 0) (xs (1 : Int32).toNatClampNeg) (xs (2 : Int32).toNatClampNeg) H.size hlt xf_6) (vx_cwSW 4 hts g_lw_49 rfl rfl rfl (by decide +kernel) ⟨Nat.le_of_ble_eq_true rfl, Nat.le_of_ble_eq_true rfl⟩) ⟨st_blind, fun U hU hW => ⟨rfl, st_call hU hW hPc hKc hDc hZ hS hFc hE⟩⟩ rfl rfl hl.1 rfl (lv_room (Nat.le_of_ble_eq_true rfl)) dL_law_1635 ⟨Nat.le_of_ble_eq_true rfl, Nat.le_of_ble_eq_true rfl⟩) hS (fun q _ h => hFc q h) hFc (fun r1 u2 t H1 locs ht hvm hw hB hz1 hk1 hS => ?_)
  have hXX := hw
  obtain ⟨hP1, hK1, hD1⟩ := hB
  rw [ht] at hP1
  have hK1 := va_K.moved hvm.symm hK1
  obtain ⟨hP, hD⟩ := va_join (wr := [(tk, .inr (9, tf)), (tx, .inl (cx, 3000, .inl (fun _ => 0))), (so, .inl (cs, 702, .inl (fun _ => 0))), (pl, .inl (cp, 702, .inl (fun _ => 0))), (li, .inl (ci, 702, .inl (fun _ => 0))), (nm, .inr (6, nf)), (us, .inl (cu, 702, .inl (fun _ => 0))), (me, .inl (cm, 702, .inl (fun _ => 0))), (cd, .inr (0, cf)), (sp, .inr (8, sf)), (rd, .inr (7, rf)), (m0, .inr (12, mf)), (b0, .inl (d0, 3000, .inl (fun _ => 0))), (b1, .inl (d1, 710, .inl (fun _ => 0))), (b2, .inl (d2, 710, .inl (fun _ => 0))), (b3, .inl (d3, 710, .inl (fun _ => 0))), (b4, .inl (d4, 710, .inl (fun _ => 0))), (b5, .inl (d5, 2, .inl (fun _ => 0)))]) (w1 := [(o0, .inl (co, 1, .inr (.inl u2)))]) hP hD [0, 12, 20] [1, 2, 3, 4, 5, 6, 7, 8, 9, 10, 11, 13, 14, 15, 16, 17, 18, 19] rfl rfl (by decide) (by decide) hk1 hFc hP1 hD1
  have hK := (hK.sub (tys' := [(cx, .byte), (cs, .int), (cp, .int), (ci, .int), (cu, .int), (cm, .int), (d0, .byte), (d1, .int), (d2, .int), (d3, .int), (d4, .int), (d5, .boolean)]) [0, 1, 2, 3, 4, 5, 7, 8, 9, 10, 11, 12] rfl).app hK1
  generalize H1 = H at hP hS ⊢
  have hP : va_P D vwCl [(tk, .inr (9, tf)), (tx, .inl (cx, 3000, .inl (fun _ => 0))), (so, .inl (cs, 702, .inl (fun _ => 0))), (pl, .inl (cp, 702, .inl (fun _ => 0))), (li, .inl (ci, 702, .inl (fun _ => 0))), (nm, .inr (6, nf)), (us, .inl (cu, 702, .inl (fun _ => 0))), (me, .inl (cm, 702, .inl (fun _ => 0))), (cd, .inr (0, cf)), (sp, .inr (8, sf)), (rd, .inr (7, rf)), (m0, .inr (12, mf)), (b0, .inl (d0, 3000, .inl (fun _ => 0))), (b1, .inl (d1, 710, .inl (fun _ => 0))), (b2, .inl (d2, 710, .inl (fun _ => 0))), (b3, .inl (d3, 710, .inl (fun _ => 0))), (b4, .inl (d4, 710, .inl (fun _ => 0))), (b5, .inl (d5, 2, .inl (fun _ => 0))), (o0, .inl (co, 1, .inr (.inl u2)))] H := hP
  have hD : va_D (fun q : Nat => s.heap.size ≤ q) [(tk, .inr (9, tf)), (tx, .inl (cx, 3000, .inl (fun _ => 0))), (so, .inl (cs, 702, .inl (fun _ => 0))), (pl, .inl (cp, 702, .inl (fun _ => 0))), (li, .inl (ci, 702, .inl (fun _ => 0))), (nm, .inr (6, nf)), (us, .inl (cu, 702, .inl (fun _ => 0))), (me, .inl (cm, 702, .inl (fun _ => 0))), (cd, .inr (0, cf)), (sp, .inr (8, sf)), (rd, .inr (7, rf)), (m0, .inr (12, mf)), (b0, .inl (d0, 3000, .inl (fun _ => 0))), (b1, .inl (d1, 710, .inl (fun _ => 0))), (b2, .inl (d2, 710, .inl (fun _ => 0))), (b3, .inl (d3, 710, .inl (fun _ => 0))), (b4, .inl (d4, 710, .inl (fun _ => 0))), (b5, .inl (d5, 2, .inl (fun _ => 0))), (o0, .inl (co, 1, .inr (.inl u2)))] := hD
  have hK : va_K D vwCl [(cx, .byte), (cs, .int), (cp, .int), (ci, .int), (cu, .int), (cm, .int), (d0, .byte), (d1, .int), (d2, .int), (d3, .int), (d4, .int), (d5, .boolean), (co, .long)] s := hK
  refine lv_istore (lv' := [(5, .int r1), (4, .int 0), (3, .ref o0), (2, .ref m0), (1, .ref x0), (0, .ref b)]) hx hb dL_law_1638 hl (by decide) rfl (fun ls hl => ?_)
  refine lv_aload_n hx hb dL_law_1640 rfl (lv_at hl 3 rfl) ?_
  refine lv_aload_n hx hb dL_law_1641 rfl (lv_at hl 5 rfl) ?_
  refine lv_iload hx hb dL_law_1642 (lv_at hl 1 rfl) ?_
  refine lv_iconst (v := 1) hx hb dL_law_1644 (by decide +kernel) ?_
  refine lv_iadd hx hb dL_law_1645 ?_
  rw [show (0 + 1 : Int32) = 1 by decide]
  refine va_sld hx hb hX hbl hbA hS (i := 1) (by unfold vp_in; decide) dL_law_1646 ?_
  refine lv_aload_n hx hb dL_law_1647 rfl (lv_at hl 5 rfl) ?_
  refine lv_iload hx hb dL_law_1648 (lv_at hl 1 rfl) ?_
  refine lv_iconst (v := 2) hx hb dL_law_1650 (by decide +kernel) ?_
  refine lv_iadd hx hb dL_law_1651 ?_
  rw [show (0 + 2 : Int32) = 2 by decide]
  refine va_sld hx hb hX hbl hbA hS (i := 2) (by unfold vp_in; decide) dL_law_1652 ?_
  have hPc := hP.sub (ws' := [(m0, .inr (12, mf)), (b5, .inl (d5, 2, .inl (fun _ => 0)))]) [11, 17] rfl
  have hDc := hD.sub (ws' := [(m0, .inr (12, mf)), (b5, .inl (d5, 2, .inl (fun _ => 0)))]) [11, 17] (by decide) rfl
  have hKc := hK.sub (tys' := [(d5, .boolean)]) [11] rfl
  have hFc := va_free (wc := [(m0, .inr (12, mf)), (b5, .inl (d5, 2, .inl (fun _ => 0)))]) hD hS hA [11, 17] rfl
  refine va_calli (va_runV (As := [.int (xs (1 : Int32).toNatClampNeg), .int (xs (2 : Int32).toNatClampNeg)]) (rest := []) ⟨hx, hb, hml, hown, hts⟩ (c_m_finding l D m0 b5 d5 mf (xs (1 : Int32).toNatClampNeg) (xs (2 : Int32).toNatClampNeg) H.size mf_l (mf_z 0 (by decide)) mf_r5) (cwV 2 hts g_lw_50 rfl rfl rfl (by decide +kernel) ⟨Nat.le_of_ble_eq_true rfl, Nat.le_of_ble_eq_true rfl⟩) ⟨st_blind, va_recv hKc hPc (ci := 12) (q0 := 0) rfl rfl, fun U hU hW => ⟨rfl, st_call hU hW hPc hKc hDc hZ hS hFc hE⟩⟩ rfl rfl hl.1 rfl (lv_room (Nat.le_of_ble_eq_true rfl)) dL_law_1653 ⟨Nat.le_of_ble_eq_true rfl, Nat.le_of_ble_eq_true rfl⟩) hS (fun q _ h => hFc q h) hFc (fun r3 u4 t H1 locs ht hvm hw hB hz1 hk1 hS => ?_)
  obtain ⟨t9, ht9, hM⟩ := hw
  obtain ⟨hP1, hK1, hD1⟩ := hB
  rw [ht] at hP1
  have hK1 := va_K.moved hvm.symm hK1
  obtain ⟨hP, hD⟩ := va_join (wr := [(tk, .inr (9, tf)), (tx, .inl (cx, 3000, .inl (fun _ => 0))), (so, .inl (cs, 702, .inl (fun _ => 0))), (pl, .inl (cp, 702, .inl (fun _ => 0))), (li, .inl (ci, 702, .inl (fun _ => 0))), (nm, .inr (6, nf)), (us, .inl (cu, 702, .inl (fun _ => 0))), (me, .inl (cm, 702, .inl (fun _ => 0))), (cd, .inr (0, cf)), (sp, .inr (8, sf)), (rd, .inr (7, rf)), (b0, .inl (d0, 3000, .inl (fun _ => 0))), (b1, .inl (d1, 710, .inl (fun _ => 0))), (b2, .inl (d2, 710, .inl (fun _ => 0))), (b3, .inl (d3, 710, .inl (fun _ => 0))), (b4, .inl (d4, 710, .inl (fun _ => 0))), (o0, .inl (co, 1, .inr (.inl u2)))]) (w1 := [(m0, .inr (12, u4))]) hP hD [11, 17] [0, 1, 2, 3, 4, 5, 6, 7, 8, 9, 10, 12, 13, 14, 15, 16, 18] rfl rfl (by decide) (by decide) hk1 hFc hP1 hD1
  have hK := (hK.sub (tys' := [(cx, .byte), (cs, .int), (cp, .int), (ci, .int), (cu, .int), (cm, .int), (d0, .byte), (d1, .int), (d2, .int), (d3, .int), (d4, .int), (co, .long)]) [0, 1, 2, 3, 4, 5, 6, 7, 8, 9, 10, 12] rfl).app hK1
  generalize H1 = H at hP hS ⊢
  have hP : va_P D vwCl [(tk, .inr (9, tf)), (tx, .inl (cx, 3000, .inl (fun _ => 0))), (so, .inl (cs, 702, .inl (fun _ => 0))), (pl, .inl (cp, 702, .inl (fun _ => 0))), (li, .inl (ci, 702, .inl (fun _ => 0))), (nm, .inr (6, nf)), (us, .inl (cu, 702, .inl (fun _ => 0))), (me, .inl (cm, 702, .inl (fun _ => 0))), (cd, .inr (0, cf)), (sp, .inr (8, sf)), (rd, .inr (7, rf)), (b0, .inl (d0, 3000, .inl (fun _ => 0))), (b1, .inl (d1, 710, .inl (fun _ => 0))), (b2, .inl (d2, 710, .inl (fun _ => 0))), (b3, .inl (d3, 710, .inl (fun _ => 0))), (b4, .inl (d4, 710, .inl (fun _ => 0))), (o0, .inl (co, 1, .inr (.inl u2))), (m0, .inr (12, u4))] H := hP
  have hD : va_D (fun q : Nat => s.heap.size ≤ q) [(tk, .inr (9, tf)), (tx, .inl (cx, 3000, .inl (fun _ => 0))), (so, .inl (cs, 702, .inl (fun _ => 0))), (pl, .inl (cp, 702, .inl (fun _ => 0))), (li, .inl (ci, 702, .inl (fun _ => 0))), (nm, .inr (6, nf)), (us, .inl (cu, 702, .inl (fun _ => 0))), (me, .inl (cm, 702, .inl (fun _ => 0))), (cd, .inr (0, cf)), (sp, .inr (8, sf)), (rd, .inr (7, rf)), (b0, .inl (d0, 3000, .inl (fun _ => 0))), (b1, .inl (d1, 710, .inl (fun _ => 0))), (b2, .inl (d2, 710, .inl (fun _ => 0))), (b3, .inl (d3, 710, .inl (fun _ => 0))), (b4, .inl (d4, 710, .inl (fun _ => 0))), (o0, .inl (co, 1, .inr (.inl u2))), (m0, .inr (12, u4))] := hD
  have hK : va_K D vwCl [(cx, .byte), (cs, .int), (cp, .int), (ci, .int), (cu, .int), (cm, .int), (d0, .byte), (d1, .int), (d2, .int), (d3, .int), (d4, .int), (co, .long)] s := hK
  have ag := ag_finding (xs (1 : Int32).toNatClampNeg) (xs (2 : Int32).toNatClampNeg) r1 t9 r3 u2 hXX hM
  refine lv_istore (lv' := [(6, .int r3), (5, .int r1), (4, .int 0), (3, .ref o0), (2, .ref m0), (1, .ref x0), (0, .ref b)]) hx hb dL_law_1656 hl (by decide) rfl (fun ls hl => ?_)
  refine lv_aload_n hx hb dL_law_1658 rfl (lv_at hl 4 rfl) ?_
  have hPc := hP.sub (ws' := [(m0, .inr (12, u4))]) [17] rfl
  have hDc := hD.sub (ws' := [(m0, .inr (12, u4))]) [17] (by decide) rfl
  have hKc := hK.sub (tys' := []) [] rfl
  have hFc := va_free (wc := [(m0, .inr (12, u4))]) hD hS hA [17] rfl
  refine va_calli (va_runV (As := []) (rest := []) ⟨hx, hb, hml, hown, hts⟩ (c_m_thrown l D m0 u4 t9 H.size ht9) (cwV 0 hts g_lw_2 rfl rfl rfl (by decide +kernel) ⟨Nat.le_of_ble_eq_true rfl, Nat.le_of_ble_eq_true rfl⟩) ⟨st_blind, va_recv hKc hPc (ci := 12) (q0 := 0) rfl rfl, fun U hU hW => ⟨rfl, st_call hU hW hPc hKc hDc hZ hS hFc hE⟩⟩ rfl rfl hl.1 rfl (lv_room (Nat.le_of_ble_eq_true rfl)) dL_law_1659 ⟨Nat.le_of_ble_eq_true rfl, Nat.le_of_ble_eq_true rfl⟩) hS (fun q _ h => hFc q h) hFc (fun r5 u6 t H1 locs ht hvm hw hB hz1 hk1 hS => ?_)
  obtain ⟨hP, hD⟩ := va_join (wr := [(tk, .inr (9, tf)), (tx, .inl (cx, 3000, .inl (fun _ => 0))), (so, .inl (cs, 702, .inl (fun _ => 0))), (pl, .inl (cp, 702, .inl (fun _ => 0))), (li, .inl (ci, 702, .inl (fun _ => 0))), (nm, .inr (6, nf)), (us, .inl (cu, 702, .inl (fun _ => 0))), (me, .inl (cm, 702, .inl (fun _ => 0))), (cd, .inr (0, cf)), (sp, .inr (8, sf)), (rd, .inr (7, rf)), (b0, .inl (d0, 3000, .inl (fun _ => 0))), (b1, .inl (d1, 710, .inl (fun _ => 0))), (b2, .inl (d2, 710, .inl (fun _ => 0))), (b3, .inl (d3, 710, .inl (fun _ => 0))), (b4, .inl (d4, 710, .inl (fun _ => 0))), (o0, .inl (co, 1, .inr (.inl u2)))]) (w1 := []) hP hD [17] [0, 1, 2, 3, 4, 5, 6, 7, 8, 9, 10, 11, 12, 13, 14, 15, 16] rfl rfl (by decide) (by decide) hk1 hFc p_nil d_nil
  have hK := hK.sub (tys' := [(cx, .byte), (cs, .int), (cp, .int), (ci, .int), (cu, .int), (cm, .int), (d0, .byte), (d1, .int), (d2, .int), (d3, .int), (d4, .int), (co, .long)]) [0, 1, 2, 3, 4, 5, 6, 7, 8, 9, 10, 11] rfl
  generalize H1 = H at hP hS ⊢
  have hP : va_P D vwCl [(tk, .inr (9, tf)), (tx, .inl (cx, 3000, .inl (fun _ => 0))), (so, .inl (cs, 702, .inl (fun _ => 0))), (pl, .inl (cp, 702, .inl (fun _ => 0))), (li, .inl (ci, 702, .inl (fun _ => 0))), (nm, .inr (6, nf)), (us, .inl (cu, 702, .inl (fun _ => 0))), (me, .inl (cm, 702, .inl (fun _ => 0))), (cd, .inr (0, cf)), (sp, .inr (8, sf)), (rd, .inr (7, rf)), (b0, .inl (d0, 3000, .inl (fun _ => 0))), (b1, .inl (d1, 710, .inl (fun _ => 0))), (b2, .inl (d2, 710, .inl (fun _ => 0))), (b3, .inl (d3, 710, .inl (fun _ => 0))), (b4, .inl (d4, 710, .inl (fun _ => 0))), (o0, .inl (co, 1, .inr (.inl u2)))] H := hP
  have hD : va_D (fun q : Nat => s.heap.size ≤ q) [(tk, .inr (9, tf)), (tx, .inl (cx, 3000, .inl (fun _ => 0))), (so, .inl (cs, 702, .inl (fun _ => 0))), (pl, .inl (cp, 702, .inl (fun _ => 0))), (li, .inl (ci, 702, .inl (fun _ => 0))), (nm, .inr (6, nf)), (us, .inl (cu, 702, .inl (fun _ => 0))), (me, .inl (cm, 702, .inl (fun _ => 0))), (cd, .inr (0, cf)), (sp, .inr (8, sf)), (rd, .inr (7, rf)), (b0, .inl (d0, 3000, .inl (fun _ => 0))), (b1, .inl (d1, 710, .inl (fun _ => 0))), (b2, .inl (d2, 710, .inl (fun _ => 0))), (b3, .inl (d3, 710, .inl (fun _ => 0))), (b4, .inl (d4, 710, .inl (fun _ => 0))), (o0, .inl (co, 1, .inr (.inl u2)))] := hD
  have hK : va_K D vwCl [(cx, .byte), (cs, .int), (cp, .int), (ci, .int), (cu, .int), (cm, .int), (d0, .byte), (d1, .int), (d2, .int), (d3, .int), (d4, .int), (co, .long)] s := hK
  subst hw
  refine lv_iload hx hb dL_law_1662 (lv_at hl 1 rfl) ?_
  refine lv_icmp_eq (tgt := 1669) hx hb dL_law_1664 (by decide) (fun _ => ?_) (fun c9 => absurd ag.1 c9)
  refine lv_iload hx hb dL_law_1669 (lv_at hl 1 rfl) ?_
  refine lv_if_ne (tgt := 1686) hx hb dL_law_1671 (by decide) (fun c5 => ?_) (fun c5 => ?_)
  · refine lv_goto (tgt := 1894) hx hb dL_law_1686 (by decide) ?_
    refine W.widen (k := 2000) (n := 2000000) (Nat.le_of_ble_eq_true rfl) (Nat.le_of_ble_eq_true rfl) ?_
    exact law_tail l C0 hS (lv_sub hl [2, 6] rfl)
  · refine lv_aload_n hx hb dL_law_1674 rfl (lv_at hl 3 rfl) ?_
    refine lv_iconst (v := 0) hx hb dL_law_1675 (by decide +kernel) ?_
    refine va_lald hx hb hK hP 16 11 rfl rfl (i := 0) (by unfold vp_in; decide) dL_law_1676 ?_
    refine lv_iload hx hb dL_law_1677 (lv_at hl 0 rfl) ?_
    refine lv_i2l (v := r3.toInt64) hx hb dL_law_1679 rfl ?_
    rw [show u2 (0 : Int32).toNatClampNeg = r3.toInt64 from ag.2 c5]
    refine W.lcmp hx hb dL_law_1680 ?_
    rw [cmp_eq]
    refine lv_if_eq (tgt := 1686) hx hb dL_law_1681 (by decide) (fun _ => ?_) (fun c9 => False.elim (by revert c9; decide))
    refine lv_goto (tgt := 1894) hx hb dL_law_1686 (by decide) ?_
    refine W.widen (k := 2000) (n := 2000000) (Nat.le_of_ble_eq_true rfl) (Nat.le_of_ble_eq_true rfl) ?_
    exact law_tail l C0 hS (lv_sub hl [2, 6] rfl)
set_option maxHeartbeats 400000 in
set_option maxRecDepth 100000 in
theorem law_25 {p : Program} {e : Env} {s : State} {m : MethodId} {below : List Frame} {meth : Method} {c : Code} (l : Launch) (hlt : l.stackTraces = false) {b : Nat} {xs : Nat → Int32} (C0 : lw_At p s m meth c b 4 xs) (hE : ev s) (hZ : ev_Z (fun q : Nat => s.heap.size ≤ q) s s.heap) (D : va_G) (x0 tk tx so pl li nm us me cd sp rd tr m0 b0 b1 b2 b3 b4 b5 o0 : Nat) (cx cs cp ci cu cm ct d0 d1 d2 d3 d4 d5 co : ClassId) (xf tf nf cf sf rf mf : List Value) {H : Heap} {locs : List Loc} {ls : Array Slot} (hin : law_in D s H locs x0 tk tx so pl li nm us me cd sp rd tr m0 b0 b1 b2 b3 b4 b5 o0 cx cs cp ci cu cm ct d0 d1 d2 d3 d4 d5 co xf tf nf cf sf rf mf) (hl : lv_has ls 7 [(4, .int 0), (3, .ref o0), (2, .ref m0), (1, .ref x0), (0, .ref b)]) : W p l e room_1 s m #[Value.ref b] below meth c H locs 1000 1000000 (lw_Z below #[Value.ref b] s) (F0 m 1689 ls []) := by
  obtain ⟨hx, hb, hr, hml, hown, hts, hX, hbl, hlocks, hgv⟩ := id C0
  have hA : ∀ q : Nat, s.heap.size ≤ q → (fun q : Nat => s.heap.size ≤ q) q := fun _ h => h
  have hbA : ¬ (fun q : Nat => s.heap.size ≤ q) b := Nat.not_le.mpr hbl
  obtain ⟨hok, hP, hD, hK, hS⟩ := hin
  obtain ⟨xf_l, xf_0, xf_1, xf_2, xf_3, xf_6, xf_9, xf_10, xf_11, xf_12, tf_l, tf_0, tf_1, tf_2, tf_3, tf_4, nf_l, nf_0, nf_1, nf_2, nf_11, cf_l, cf_0, sf_l, rf_l, rf_0, rf_1, rf_2, rf_3, mf_l, mf_z, mf_p, mf_n, mf_r0, mf_r1, mf_r2, mf_r3, mf_r4, mf_r5⟩ := hok
  have hown : s.vm.findClass RL = some m.cls := hown
  refine lv_aload_n hx hb dL_law_1689 rfl (lv_at hl 3 rfl) ?_
  refine lv_aload_n hx hb dL_law_1690 rfl (lv_at hl 4 rfl) ?_
  refine lv_iload hx hb dL_law_1691 (lv_at hl 0 rfl) ?_
  refine lv_iconst (v := 1) hx hb dL_law_1693 (by decide +kernel) ?_
  refine lv_iadd hx hb dL_law_1694 ?_
  rw [show (0 + 1 : Int32) = 1 by decide]
  refine va_sld hx hb hX hbl hbA hS (i := 1) (by unfold vp_in; decide) dL_law_1695 ?_
  refine lv_aload_n hx hb dL_law_1696 rfl (lv_at hl 4 rfl) ?_
  refine lv_iload hx hb dL_law_1697 (lv_at hl 0 rfl) ?_
  refine lv_iconst (v := 2) hx hb dL_law_1699 (by decide +kernel) ?_
  refine lv_iadd hx hb dL_law_1700 ?_
  rw [show (0 + 2 : Int32) = 2 by decide]
  refine va_sld hx hb hX hbl hbA hS (i := 2) (by unfold vp_in; decide) dL_law_1701 ?_
  refine lv_aload_n hx hb dL_law_1702 rfl (lv_at hl 1 rfl) ?_
  have hPc := hP.sub (ws' := [(x0, .inr (11, xf)), (tr, .inl (ct, 2, .inr (.inr (.inr (.inr (fun _ => none)))))), (o0, .inl (co, 1, .inr (.inl (fun _ => 0))))]) [0, 12, 20] rfl
  have hDc := hD.sub (ws' := [(x0, .inr (11, xf)), (tr, .inl (ct, 2, .inr (.inr (.inr (.inr (fun _ => none)))))), (o0, .inl (co, 1, .inr (.inl (fun _ => 0))))]) [0, 12, 20] (by decide) rfl
  have hKc := hK.sub (tys' := [(ct, .object "ScheduleHouse$Trial"), (co, .long)]) [6, 13] rfl
  have hFc := va_free (wc := [(x0, .inr (11, xf)), (tr, .inl (ct, 2, .inr (.inr (.inr (.inr (fun _ => none)))))), (o0, .inl (co, 1, .inr (.inl (fun _ => 0))))]) hD hS hA [0, 12, 20] rfl
  refine va_calli (vx_runSW (As := [.ref x0, .int (xs (1 : Int32).toNatClampNeg), .int (xs (2 : Int32).toNatClampNeg), .ref o0]) (rest := []) ⟨hx, hb, hml, hown, hts⟩ (c_L_show l D x0 o0 tr ct co xf (fun _ => 0) (xs (1 : Int32).toNatClampNeg) (xs (2 : Int32).toNatClampNeg) H.size hlt xf_6) (vx_cwSW 4 hts g_lw_51 rfl rfl rfl (by decide +kernel) ⟨Nat.le_of_ble_eq_true rfl, Nat.le_of_ble_eq_true rfl⟩) ⟨st_blind, fun U hU hW => ⟨rfl, st_call hU hW hPc hKc hDc hZ hS hFc hE⟩⟩ rfl rfl hl.1 rfl (lv_room (Nat.le_of_ble_eq_true rfl)) dL_law_1703 ⟨Nat.le_of_ble_eq_true rfl, Nat.le_of_ble_eq_true rfl⟩) hS (fun q _ h => hFc q h) hFc (fun r1 u2 t H1 locs ht hvm hw hB hz1 hk1 hS => ?_)
  have hXX := hw
  obtain ⟨hP1, hK1, hD1⟩ := hB
  rw [ht] at hP1
  have hK1 := va_K.moved hvm.symm hK1
  obtain ⟨hP, hD⟩ := va_join (wr := [(tk, .inr (9, tf)), (tx, .inl (cx, 3000, .inl (fun _ => 0))), (so, .inl (cs, 702, .inl (fun _ => 0))), (pl, .inl (cp, 702, .inl (fun _ => 0))), (li, .inl (ci, 702, .inl (fun _ => 0))), (nm, .inr (6, nf)), (us, .inl (cu, 702, .inl (fun _ => 0))), (me, .inl (cm, 702, .inl (fun _ => 0))), (cd, .inr (0, cf)), (sp, .inr (8, sf)), (rd, .inr (7, rf)), (m0, .inr (12, mf)), (b0, .inl (d0, 3000, .inl (fun _ => 0))), (b1, .inl (d1, 710, .inl (fun _ => 0))), (b2, .inl (d2, 710, .inl (fun _ => 0))), (b3, .inl (d3, 710, .inl (fun _ => 0))), (b4, .inl (d4, 710, .inl (fun _ => 0))), (b5, .inl (d5, 2, .inl (fun _ => 0)))]) (w1 := [(o0, .inl (co, 1, .inr (.inl u2)))]) hP hD [0, 12, 20] [1, 2, 3, 4, 5, 6, 7, 8, 9, 10, 11, 13, 14, 15, 16, 17, 18, 19] rfl rfl (by decide) (by decide) hk1 hFc hP1 hD1
  have hK := (hK.sub (tys' := [(cx, .byte), (cs, .int), (cp, .int), (ci, .int), (cu, .int), (cm, .int), (d0, .byte), (d1, .int), (d2, .int), (d3, .int), (d4, .int), (d5, .boolean)]) [0, 1, 2, 3, 4, 5, 7, 8, 9, 10, 11, 12] rfl).app hK1
  generalize H1 = H at hP hS ⊢
  have hP : va_P D vwCl [(tk, .inr (9, tf)), (tx, .inl (cx, 3000, .inl (fun _ => 0))), (so, .inl (cs, 702, .inl (fun _ => 0))), (pl, .inl (cp, 702, .inl (fun _ => 0))), (li, .inl (ci, 702, .inl (fun _ => 0))), (nm, .inr (6, nf)), (us, .inl (cu, 702, .inl (fun _ => 0))), (me, .inl (cm, 702, .inl (fun _ => 0))), (cd, .inr (0, cf)), (sp, .inr (8, sf)), (rd, .inr (7, rf)), (m0, .inr (12, mf)), (b0, .inl (d0, 3000, .inl (fun _ => 0))), (b1, .inl (d1, 710, .inl (fun _ => 0))), (b2, .inl (d2, 710, .inl (fun _ => 0))), (b3, .inl (d3, 710, .inl (fun _ => 0))), (b4, .inl (d4, 710, .inl (fun _ => 0))), (b5, .inl (d5, 2, .inl (fun _ => 0))), (o0, .inl (co, 1, .inr (.inl u2)))] H := hP
  have hD : va_D (fun q : Nat => s.heap.size ≤ q) [(tk, .inr (9, tf)), (tx, .inl (cx, 3000, .inl (fun _ => 0))), (so, .inl (cs, 702, .inl (fun _ => 0))), (pl, .inl (cp, 702, .inl (fun _ => 0))), (li, .inl (ci, 702, .inl (fun _ => 0))), (nm, .inr (6, nf)), (us, .inl (cu, 702, .inl (fun _ => 0))), (me, .inl (cm, 702, .inl (fun _ => 0))), (cd, .inr (0, cf)), (sp, .inr (8, sf)), (rd, .inr (7, rf)), (m0, .inr (12, mf)), (b0, .inl (d0, 3000, .inl (fun _ => 0))), (b1, .inl (d1, 710, .inl (fun _ => 0))), (b2, .inl (d2, 710, .inl (fun _ => 0))), (b3, .inl (d3, 710, .inl (fun _ => 0))), (b4, .inl (d4, 710, .inl (fun _ => 0))), (b5, .inl (d5, 2, .inl (fun _ => 0))), (o0, .inl (co, 1, .inr (.inl u2)))] := hD
  have hK : va_K D vwCl [(cx, .byte), (cs, .int), (cp, .int), (ci, .int), (cu, .int), (cm, .int), (d0, .byte), (d1, .int), (d2, .int), (d3, .int), (d4, .int), (d5, .boolean), (co, .long)] s := hK
  refine lv_istore (lv' := [(5, .int r1), (4, .int 0), (3, .ref o0), (2, .ref m0), (1, .ref x0), (0, .ref b)]) hx hb dL_law_1706 hl (by decide) rfl (fun ls hl => ?_)
  refine lv_aload_n hx hb dL_law_1708 rfl (lv_at hl 3 rfl) ?_
  refine lv_aload_n hx hb dL_law_1709 rfl (lv_at hl 5 rfl) ?_
  refine lv_iload hx hb dL_law_1710 (lv_at hl 1 rfl) ?_
  refine lv_iconst (v := 1) hx hb dL_law_1712 (by decide +kernel) ?_
  refine lv_iadd hx hb dL_law_1713 ?_
  rw [show (0 + 1 : Int32) = 1 by decide]
  refine va_sld hx hb hX hbl hbA hS (i := 1) (by unfold vp_in; decide) dL_law_1714 ?_
  refine lv_aload_n hx hb dL_law_1715 rfl (lv_at hl 5 rfl) ?_
  refine lv_iload hx hb dL_law_1716 (lv_at hl 1 rfl) ?_
  refine lv_iconst (v := 2) hx hb dL_law_1718 (by decide +kernel) ?_
  refine lv_iadd hx hb dL_law_1719 ?_
  rw [show (0 + 2 : Int32) = 2 by decide]
  refine va_sld hx hb hX hbl hbA hS (i := 2) (by unfold vp_in; decide) dL_law_1720 ?_
  have hPc := hP.sub (ws' := [(m0, .inr (12, mf)), (b5, .inl (d5, 2, .inl (fun _ => 0)))]) [11, 17] rfl
  have hDc := hD.sub (ws' := [(m0, .inr (12, mf)), (b5, .inl (d5, 2, .inl (fun _ => 0)))]) [11, 17] (by decide) rfl
  have hKc := hK.sub (tys' := [(d5, .boolean)]) [11] rfl
  have hFc := va_free (wc := [(m0, .inr (12, mf)), (b5, .inl (d5, 2, .inl (fun _ => 0)))]) hD hS hA [11, 17] rfl
  refine va_calli (va_runV (As := [.int (xs (1 : Int32).toNatClampNeg), .int (xs (2 : Int32).toNatClampNeg)]) (rest := []) ⟨hx, hb, hml, hown, hts⟩ (c_m_show l D m0 b5 d5 mf (xs (1 : Int32).toNatClampNeg) (xs (2 : Int32).toNatClampNeg) H.size mf_l (mf_z 0 (by decide)) mf_r5) (cwV 2 hts g_lw_52 rfl rfl rfl (by decide +kernel) ⟨Nat.le_of_ble_eq_true rfl, Nat.le_of_ble_eq_true rfl⟩) ⟨st_blind, va_recv hKc hPc (ci := 12) (q0 := 0) rfl rfl, fun U hU hW => ⟨rfl, st_call hU hW hPc hKc hDc hZ hS hFc hE⟩⟩ rfl rfl hl.1 rfl (lv_room (Nat.le_of_ble_eq_true rfl)) dL_law_1721 ⟨Nat.le_of_ble_eq_true rfl, Nat.le_of_ble_eq_true rfl⟩) hS (fun q _ h => hFc q h) hFc (fun r3 u4 t H1 locs ht hvm hw hB hz1 hk1 hS => ?_)
  obtain ⟨t9, ht9, hM⟩ := hw
  obtain ⟨hP1, hK1, hD1⟩ := hB
  rw [ht] at hP1
  have hK1 := va_K.moved hvm.symm hK1
  obtain ⟨hP, hD⟩ := va_join (wr := [(tk, .inr (9, tf)), (tx, .inl (cx, 3000, .inl (fun _ => 0))), (so, .inl (cs, 702, .inl (fun _ => 0))), (pl, .inl (cp, 702, .inl (fun _ => 0))), (li, .inl (ci, 702, .inl (fun _ => 0))), (nm, .inr (6, nf)), (us, .inl (cu, 702, .inl (fun _ => 0))), (me, .inl (cm, 702, .inl (fun _ => 0))), (cd, .inr (0, cf)), (sp, .inr (8, sf)), (rd, .inr (7, rf)), (b0, .inl (d0, 3000, .inl (fun _ => 0))), (b1, .inl (d1, 710, .inl (fun _ => 0))), (b2, .inl (d2, 710, .inl (fun _ => 0))), (b3, .inl (d3, 710, .inl (fun _ => 0))), (b4, .inl (d4, 710, .inl (fun _ => 0))), (o0, .inl (co, 1, .inr (.inl u2)))]) (w1 := [(m0, .inr (12, u4))]) hP hD [11, 17] [0, 1, 2, 3, 4, 5, 6, 7, 8, 9, 10, 12, 13, 14, 15, 16, 18] rfl rfl (by decide) (by decide) hk1 hFc hP1 hD1
  have hK := (hK.sub (tys' := [(cx, .byte), (cs, .int), (cp, .int), (ci, .int), (cu, .int), (cm, .int), (d0, .byte), (d1, .int), (d2, .int), (d3, .int), (d4, .int), (co, .long)]) [0, 1, 2, 3, 4, 5, 6, 7, 8, 9, 10, 12] rfl).app hK1
  generalize H1 = H at hP hS ⊢
  have hP : va_P D vwCl [(tk, .inr (9, tf)), (tx, .inl (cx, 3000, .inl (fun _ => 0))), (so, .inl (cs, 702, .inl (fun _ => 0))), (pl, .inl (cp, 702, .inl (fun _ => 0))), (li, .inl (ci, 702, .inl (fun _ => 0))), (nm, .inr (6, nf)), (us, .inl (cu, 702, .inl (fun _ => 0))), (me, .inl (cm, 702, .inl (fun _ => 0))), (cd, .inr (0, cf)), (sp, .inr (8, sf)), (rd, .inr (7, rf)), (b0, .inl (d0, 3000, .inl (fun _ => 0))), (b1, .inl (d1, 710, .inl (fun _ => 0))), (b2, .inl (d2, 710, .inl (fun _ => 0))), (b3, .inl (d3, 710, .inl (fun _ => 0))), (b4, .inl (d4, 710, .inl (fun _ => 0))), (o0, .inl (co, 1, .inr (.inl u2))), (m0, .inr (12, u4))] H := hP
  have hD : va_D (fun q : Nat => s.heap.size ≤ q) [(tk, .inr (9, tf)), (tx, .inl (cx, 3000, .inl (fun _ => 0))), (so, .inl (cs, 702, .inl (fun _ => 0))), (pl, .inl (cp, 702, .inl (fun _ => 0))), (li, .inl (ci, 702, .inl (fun _ => 0))), (nm, .inr (6, nf)), (us, .inl (cu, 702, .inl (fun _ => 0))), (me, .inl (cm, 702, .inl (fun _ => 0))), (cd, .inr (0, cf)), (sp, .inr (8, sf)), (rd, .inr (7, rf)), (b0, .inl (d0, 3000, .inl (fun _ => 0))), (b1, .inl (d1, 710, .inl (fun _ => 0))), (b2, .inl (d2, 710, .inl (fun _ => 0))), (b3, .inl (d3, 710, .inl (fun _ => 0))), (b4, .inl (d4, 710, .inl (fun _ => 0))), (o0, .inl (co, 1, .inr (.inl u2))), (m0, .inr (12, u4))] := hD
  have hK : va_K D vwCl [(cx, .byte), (cs, .int), (cp, .int), (ci, .int), (cu, .int), (cm, .int), (d0, .byte), (d1, .int), (d2, .int), (d3, .int), (d4, .int), (co, .long)] s := hK
  have ag := ag_show (xs (1 : Int32).toNatClampNeg) (xs (2 : Int32).toNatClampNeg) r1 t9 r3 u2 hXX hM
  refine lv_istore (lv' := [(6, .int r3), (5, .int r1), (4, .int 0), (3, .ref o0), (2, .ref m0), (1, .ref x0), (0, .ref b)]) hx hb dL_law_1724 hl (by decide) rfl (fun ls hl => ?_)
  refine lv_aload_n hx hb dL_law_1726 rfl (lv_at hl 4 rfl) ?_
  have hPc := hP.sub (ws' := [(m0, .inr (12, u4))]) [17] rfl
  have hDc := hD.sub (ws' := [(m0, .inr (12, u4))]) [17] (by decide) rfl
  have hKc := hK.sub (tys' := []) [] rfl
  have hFc := va_free (wc := [(m0, .inr (12, u4))]) hD hS hA [17] rfl
  refine va_calli (va_runV (As := []) (rest := []) ⟨hx, hb, hml, hown, hts⟩ (c_m_thrown l D m0 u4 t9 H.size ht9) (cwV 0 hts g_lw_2 rfl rfl rfl (by decide +kernel) ⟨Nat.le_of_ble_eq_true rfl, Nat.le_of_ble_eq_true rfl⟩) ⟨st_blind, va_recv hKc hPc (ci := 12) (q0 := 0) rfl rfl, fun U hU hW => ⟨rfl, st_call hU hW hPc hKc hDc hZ hS hFc hE⟩⟩ rfl rfl hl.1 rfl (lv_room (Nat.le_of_ble_eq_true rfl)) dL_law_1727 ⟨Nat.le_of_ble_eq_true rfl, Nat.le_of_ble_eq_true rfl⟩) hS (fun q _ h => hFc q h) hFc (fun r5 u6 t H1 locs ht hvm hw hB hz1 hk1 hS => ?_)
  obtain ⟨hP, hD⟩ := va_join (wr := [(tk, .inr (9, tf)), (tx, .inl (cx, 3000, .inl (fun _ => 0))), (so, .inl (cs, 702, .inl (fun _ => 0))), (pl, .inl (cp, 702, .inl (fun _ => 0))), (li, .inl (ci, 702, .inl (fun _ => 0))), (nm, .inr (6, nf)), (us, .inl (cu, 702, .inl (fun _ => 0))), (me, .inl (cm, 702, .inl (fun _ => 0))), (cd, .inr (0, cf)), (sp, .inr (8, sf)), (rd, .inr (7, rf)), (b0, .inl (d0, 3000, .inl (fun _ => 0))), (b1, .inl (d1, 710, .inl (fun _ => 0))), (b2, .inl (d2, 710, .inl (fun _ => 0))), (b3, .inl (d3, 710, .inl (fun _ => 0))), (b4, .inl (d4, 710, .inl (fun _ => 0))), (o0, .inl (co, 1, .inr (.inl u2)))]) (w1 := []) hP hD [17] [0, 1, 2, 3, 4, 5, 6, 7, 8, 9, 10, 11, 12, 13, 14, 15, 16] rfl rfl (by decide) (by decide) hk1 hFc p_nil d_nil
  have hK := hK.sub (tys' := [(cx, .byte), (cs, .int), (cp, .int), (ci, .int), (cu, .int), (cm, .int), (d0, .byte), (d1, .int), (d2, .int), (d3, .int), (d4, .int), (co, .long)]) [0, 1, 2, 3, 4, 5, 6, 7, 8, 9, 10, 11] rfl
  generalize H1 = H at hP hS ⊢
  have hP : va_P D vwCl [(tk, .inr (9, tf)), (tx, .inl (cx, 3000, .inl (fun _ => 0))), (so, .inl (cs, 702, .inl (fun _ => 0))), (pl, .inl (cp, 702, .inl (fun _ => 0))), (li, .inl (ci, 702, .inl (fun _ => 0))), (nm, .inr (6, nf)), (us, .inl (cu, 702, .inl (fun _ => 0))), (me, .inl (cm, 702, .inl (fun _ => 0))), (cd, .inr (0, cf)), (sp, .inr (8, sf)), (rd, .inr (7, rf)), (b0, .inl (d0, 3000, .inl (fun _ => 0))), (b1, .inl (d1, 710, .inl (fun _ => 0))), (b2, .inl (d2, 710, .inl (fun _ => 0))), (b3, .inl (d3, 710, .inl (fun _ => 0))), (b4, .inl (d4, 710, .inl (fun _ => 0))), (o0, .inl (co, 1, .inr (.inl u2)))] H := hP
  have hD : va_D (fun q : Nat => s.heap.size ≤ q) [(tk, .inr (9, tf)), (tx, .inl (cx, 3000, .inl (fun _ => 0))), (so, .inl (cs, 702, .inl (fun _ => 0))), (pl, .inl (cp, 702, .inl (fun _ => 0))), (li, .inl (ci, 702, .inl (fun _ => 0))), (nm, .inr (6, nf)), (us, .inl (cu, 702, .inl (fun _ => 0))), (me, .inl (cm, 702, .inl (fun _ => 0))), (cd, .inr (0, cf)), (sp, .inr (8, sf)), (rd, .inr (7, rf)), (b0, .inl (d0, 3000, .inl (fun _ => 0))), (b1, .inl (d1, 710, .inl (fun _ => 0))), (b2, .inl (d2, 710, .inl (fun _ => 0))), (b3, .inl (d3, 710, .inl (fun _ => 0))), (b4, .inl (d4, 710, .inl (fun _ => 0))), (o0, .inl (co, 1, .inr (.inl u2)))] := hD
  have hK : va_K D vwCl [(cx, .byte), (cs, .int), (cp, .int), (ci, .int), (cu, .int), (cm, .int), (d0, .byte), (d1, .int), (d2, .int), (d3, .int), (d4, .int), (co, .long)] s := hK
  subst hw
  refine lv_iload hx hb dL_law_1730 (lv_at hl 1 rfl) ?_
  refine lv_icmp_eq (tgt := 1737) hx hb dL_law_1732 (by decide) (fun _ => ?_) (fun c9 => absurd ag.1 c9)
  refine lv_iload hx hb dL_law_1737 (lv_at hl 1 rfl) ?_
  refine lv_if_ne (tgt := 1754) hx hb dL_law_1739 (by decide) (fun c5 => ?_) (fun c5 => ?_)
  · refine lv_goto (tgt := 1894) hx hb dL_law_1754 (by decide) ?_
    refine W.widen (k := 2000) (n := 2000000) (Nat.le_of_ble_eq_true rfl) (Nat.le_of_ble_eq_true rfl) ?_
    exact law_tail l C0 hS (lv_sub hl [2, 6] rfl)
  · refine lv_aload_n hx hb dL_law_1742 rfl (lv_at hl 3 rfl) ?_
    refine lv_iconst (v := 0) hx hb dL_law_1743 (by decide +kernel) ?_
    refine va_lald hx hb hK hP 16 11 rfl rfl (i := 0) (by unfold vp_in; decide) dL_law_1744 ?_
    refine lv_iload hx hb dL_law_1745 (lv_at hl 0 rfl) ?_
    refine lv_i2l (v := r3.toInt64) hx hb dL_law_1747 rfl ?_
    rw [show u2 (0 : Int32).toNatClampNeg = r3.toInt64 from ag.2 c5]
    refine W.lcmp hx hb dL_law_1748 ?_
    rw [cmp_eq]
    refine lv_if_eq (tgt := 1754) hx hb dL_law_1749 (by decide) (fun _ => ?_) (fun c9 => False.elim (by revert c9; decide))
    refine lv_goto (tgt := 1894) hx hb dL_law_1754 (by decide) ?_
    refine W.widen (k := 2000) (n := 2000000) (Nat.le_of_ble_eq_true rfl) (Nat.le_of_ble_eq_true rfl) ?_
    exact law_tail l C0 hS (lv_sub hl [2, 6] rfl)
set_option maxHeartbeats 400000 in
set_option maxRecDepth 100000 in
theorem law_26 {p : Program} {e : Env} {s : State} {m : MethodId} {below : List Frame} {meth : Method} {c : Code} (l : Launch) (hlt : l.stackTraces = false) {b : Nat} {xs : Nat → Int32} (C0 : lw_At p s m meth c b 4 xs) (hE : ev s) (hZ : ev_Z (fun q : Nat => s.heap.size ≤ q) s s.heap) (D : va_G) (x0 tk tx so pl li nm us me cd sp rd tr m0 b0 b1 b2 b3 b4 b5 o0 : Nat) (cx cs cp ci cu cm ct d0 d1 d2 d3 d4 d5 co : ClassId) (xf tf nf cf sf rf mf : List Value) {H : Heap} {locs : List Loc} {ls : Array Slot} (hin : law_in D s H locs x0 tk tx so pl li nm us me cd sp rd tr m0 b0 b1 b2 b3 b4 b5 o0 cx cs cp ci cu cm ct d0 d1 d2 d3 d4 d5 co xf tf nf cf sf rf mf) (hl : lv_has ls 7 [(4, .int 0), (3, .ref o0), (2, .ref m0), (1, .ref x0), (0, .ref b)]) : W p l e room_1 s m #[Value.ref b] below meth c H locs 1000 1000000 (lw_Z below #[Value.ref b] s) (F0 m 1757 ls []) := by
  obtain ⟨hx, hb, hr, hml, hown, hts, hX, hbl, hlocks, hgv⟩ := id C0
  have hA : ∀ q : Nat, s.heap.size ≤ q → (fun q : Nat => s.heap.size ≤ q) q := fun _ h => h
  have hbA : ¬ (fun q : Nat => s.heap.size ≤ q) b := Nat.not_le.mpr hbl
  obtain ⟨hok, hP, hD, hK, hS⟩ := hin
  obtain ⟨xf_l, xf_0, xf_1, xf_2, xf_3, xf_6, xf_9, xf_10, xf_11, xf_12, tf_l, tf_0, tf_1, tf_2, tf_3, tf_4, nf_l, nf_0, nf_1, nf_2, nf_11, cf_l, cf_0, sf_l, rf_l, rf_0, rf_1, rf_2, rf_3, mf_l, mf_z, mf_p, mf_n, mf_r0, mf_r1, mf_r2, mf_r3, mf_r4, mf_r5⟩ := hok
  have hown : s.vm.findClass RL = some m.cls := hown
  refine lv_aload_n hx hb dL_law_1757 rfl (lv_at hl 3 rfl) ?_
  refine lv_aload_n hx hb dL_law_1758 rfl (lv_at hl 4 rfl) ?_
  refine lv_iload hx hb dL_law_1759 (lv_at hl 0 rfl) ?_
  refine lv_iconst (v := 1) hx hb dL_law_1761 (by decide +kernel) ?_
  refine lv_iadd hx hb dL_law_1762 ?_
  rw [show (0 + 1 : Int32) = 1 by decide]
  refine va_sld hx hb hX hbl hbA hS (i := 1) (by unfold vp_in; decide) dL_law_1763 ?_
  refine lv_aload_n hx hb dL_law_1764 rfl (lv_at hl 4 rfl) ?_
  refine lv_iload hx hb dL_law_1765 (lv_at hl 0 rfl) ?_
  refine lv_iconst (v := 2) hx hb dL_law_1767 (by decide +kernel) ?_
  refine lv_iadd hx hb dL_law_1768 ?_
  rw [show (0 + 2 : Int32) = 2 by decide]
  refine va_sld hx hb hX hbl hbA hS (i := 2) (by unfold vp_in; decide) dL_law_1769 ?_
  refine lv_aload_n hx hb dL_law_1770 rfl (lv_at hl 1 rfl) ?_
  have hPc := hP.sub (ws' := [(x0, .inr (11, xf)), (o0, .inl (co, 1, .inr (.inl (fun _ => 0))))]) [0, 20] rfl
  have hDc := hD.sub (ws' := [(x0, .inr (11, xf)), (o0, .inl (co, 1, .inr (.inl (fun _ => 0))))]) [0, 20] (by decide) rfl
  have hKc := hK.sub (tys' := [(co, .long)]) [13] rfl
  have hFc := va_free (wc := [(x0, .inr (11, xf)), (o0, .inl (co, 1, .inr (.inl (fun _ => 0))))]) hD hS hA [0, 20] rfl
  refine va_calli (vx_runSW (As := [.ref x0, .int (xs (1 : Int32).toNatClampNeg), .int (xs (2 : Int32).toNatClampNeg), .ref o0]) (rest := []) ⟨hx, hb, hml, hown, hts⟩ (c_L_common l D x0 o0 co xf (fun _ => 0) (xs (1 : Int32).toNatClampNeg) (xs (2 : Int32).toNatClampNeg) H.size hlt xf_9) (vx_cwSW 4 hts g_lw_53 rfl rfl rfl (by decide +kernel) ⟨Nat.le_of_ble_eq_true rfl, Nat.le_of_ble_eq_true rfl⟩) ⟨st_blind, fun U hU hW => ⟨rfl, st_call hU hW hPc hKc hDc hZ hS hFc hE⟩⟩ rfl rfl hl.1 rfl (lv_room (Nat.le_of_ble_eq_true rfl)) dL_law_1771 ⟨Nat.le_of_ble_eq_true rfl, Nat.le_of_ble_eq_true rfl⟩) hS (fun q _ h => hFc q h) hFc (fun r1 u2 t H1 locs ht hvm hw hB hz1 hk1 hS => ?_)
  have hXX := hw
  obtain ⟨hP1, hK1, hD1⟩ := hB
  rw [ht] at hP1
  have hK1 := va_K.moved hvm.symm hK1
  obtain ⟨hP, hD⟩ := va_join (wr := [(tk, .inr (9, tf)), (tx, .inl (cx, 3000, .inl (fun _ => 0))), (so, .inl (cs, 702, .inl (fun _ => 0))), (pl, .inl (cp, 702, .inl (fun _ => 0))), (li, .inl (ci, 702, .inl (fun _ => 0))), (nm, .inr (6, nf)), (us, .inl (cu, 702, .inl (fun _ => 0))), (me, .inl (cm, 702, .inl (fun _ => 0))), (cd, .inr (0, cf)), (sp, .inr (8, sf)), (rd, .inr (7, rf)), (tr, .inl (ct, 2, .inr (.inr (.inr (.inr (fun _ => none)))))), (m0, .inr (12, mf)), (b0, .inl (d0, 3000, .inl (fun _ => 0))), (b1, .inl (d1, 710, .inl (fun _ => 0))), (b2, .inl (d2, 710, .inl (fun _ => 0))), (b3, .inl (d3, 710, .inl (fun _ => 0))), (b4, .inl (d4, 710, .inl (fun _ => 0))), (b5, .inl (d5, 2, .inl (fun _ => 0)))]) (w1 := [(o0, .inl (co, 1, .inr (.inl u2)))]) hP hD [0, 20] [1, 2, 3, 4, 5, 6, 7, 8, 9, 10, 11, 12, 13, 14, 15, 16, 17, 18, 19] rfl rfl (by decide) (by decide) hk1 hFc hP1 hD1
  have hK := (hK.sub (tys' := [(cx, .byte), (cs, .int), (cp, .int), (ci, .int), (cu, .int), (cm, .int), (ct, .object "ScheduleHouse$Trial"), (d0, .byte), (d1, .int), (d2, .int), (d3, .int), (d4, .int), (d5, .boolean)]) [0, 1, 2, 3, 4, 5, 6, 7, 8, 9, 10, 11, 12] rfl).app hK1
  generalize H1 = H at hP hS ⊢
  have hP : va_P D vwCl [(tk, .inr (9, tf)), (tx, .inl (cx, 3000, .inl (fun _ => 0))), (so, .inl (cs, 702, .inl (fun _ => 0))), (pl, .inl (cp, 702, .inl (fun _ => 0))), (li, .inl (ci, 702, .inl (fun _ => 0))), (nm, .inr (6, nf)), (us, .inl (cu, 702, .inl (fun _ => 0))), (me, .inl (cm, 702, .inl (fun _ => 0))), (cd, .inr (0, cf)), (sp, .inr (8, sf)), (rd, .inr (7, rf)), (tr, .inl (ct, 2, .inr (.inr (.inr (.inr (fun _ => none)))))), (m0, .inr (12, mf)), (b0, .inl (d0, 3000, .inl (fun _ => 0))), (b1, .inl (d1, 710, .inl (fun _ => 0))), (b2, .inl (d2, 710, .inl (fun _ => 0))), (b3, .inl (d3, 710, .inl (fun _ => 0))), (b4, .inl (d4, 710, .inl (fun _ => 0))), (b5, .inl (d5, 2, .inl (fun _ => 0))), (o0, .inl (co, 1, .inr (.inl u2)))] H := hP
  have hD : va_D (fun q : Nat => s.heap.size ≤ q) [(tk, .inr (9, tf)), (tx, .inl (cx, 3000, .inl (fun _ => 0))), (so, .inl (cs, 702, .inl (fun _ => 0))), (pl, .inl (cp, 702, .inl (fun _ => 0))), (li, .inl (ci, 702, .inl (fun _ => 0))), (nm, .inr (6, nf)), (us, .inl (cu, 702, .inl (fun _ => 0))), (me, .inl (cm, 702, .inl (fun _ => 0))), (cd, .inr (0, cf)), (sp, .inr (8, sf)), (rd, .inr (7, rf)), (tr, .inl (ct, 2, .inr (.inr (.inr (.inr (fun _ => none)))))), (m0, .inr (12, mf)), (b0, .inl (d0, 3000, .inl (fun _ => 0))), (b1, .inl (d1, 710, .inl (fun _ => 0))), (b2, .inl (d2, 710, .inl (fun _ => 0))), (b3, .inl (d3, 710, .inl (fun _ => 0))), (b4, .inl (d4, 710, .inl (fun _ => 0))), (b5, .inl (d5, 2, .inl (fun _ => 0))), (o0, .inl (co, 1, .inr (.inl u2)))] := hD
  have hK : va_K D vwCl [(cx, .byte), (cs, .int), (cp, .int), (ci, .int), (cu, .int), (cm, .int), (ct, .object "ScheduleHouse$Trial"), (d0, .byte), (d1, .int), (d2, .int), (d3, .int), (d4, .int), (d5, .boolean), (co, .long)] s := hK
  refine lv_istore (lv' := [(5, .int r1), (4, .int 0), (3, .ref o0), (2, .ref m0), (1, .ref x0), (0, .ref b)]) hx hb dL_law_1774 hl (by decide) rfl (fun ls hl => ?_)
  refine lv_aload_n hx hb dL_law_1776 rfl (lv_at hl 3 rfl) ?_
  refine lv_aload_n hx hb dL_law_1777 rfl (lv_at hl 5 rfl) ?_
  refine lv_iload hx hb dL_law_1778 (lv_at hl 1 rfl) ?_
  refine lv_iconst (v := 1) hx hb dL_law_1780 (by decide +kernel) ?_
  refine lv_iadd hx hb dL_law_1781 ?_
  rw [show (0 + 1 : Int32) = 1 by decide]
  refine va_sld hx hb hX hbl hbA hS (i := 1) (by unfold vp_in; decide) dL_law_1782 ?_
  refine lv_aload_n hx hb dL_law_1783 rfl (lv_at hl 5 rfl) ?_
  refine lv_iload hx hb dL_law_1784 (lv_at hl 1 rfl) ?_
  refine lv_iconst (v := 2) hx hb dL_law_1786 (by decide +kernel) ?_
  refine lv_iadd hx hb dL_law_1787 ?_
  rw [show (0 + 2 : Int32) = 2 by decide]
  refine va_sld hx hb hX hbl hbA hS (i := 2) (by unfold vp_in; decide) dL_law_1788 ?_
  have hPc := hP.sub (ws' := [(m0, .inr (12, mf))]) [12] rfl
  have hDc := hD.sub (ws' := [(m0, .inr (12, mf))]) [12] (by decide) rfl
  have hKc := hK.sub (tys' := []) [] rfl
  have hFc := va_free (wc := [(m0, .inr (12, mf))]) hD hS hA [12] rfl
  refine va_calli (va_runV (As := [.int (xs (1 : Int32).toNatClampNeg), .int (xs (2 : Int32).toNatClampNeg)]) (rest := []) ⟨hx, hb, hml, hown, hts⟩ (c_m_common l D m0 mf (xs (1 : Int32).toNatClampNeg) (xs (2 : Int32).toNatClampNeg) H.size mf_l (mf_z 0 (by decide)) (mf_z 23 (by decide))) (cwV 2 hts g_lw_54 rfl rfl rfl (by decide +kernel) ⟨Nat.le_of_ble_eq_true rfl, Nat.le_of_ble_eq_true rfl⟩) ⟨st_blind, va_recv hKc hPc (ci := 12) (q0 := 0) rfl rfl, fun U hU hW => ⟨rfl, st_call hU hW hPc hKc hDc hZ hS hFc hE⟩⟩ rfl rfl hl.1 rfl (lv_room (Nat.le_of_ble_eq_true rfl)) dL_law_1789 ⟨Nat.le_of_ble_eq_true rfl, Nat.le_of_ble_eq_true rfl⟩) hS (fun q _ h => hFc q h) hFc (fun r3 u4 t H1 locs ht hvm hw hB hz1 hk1 hS => ?_)
  obtain ⟨t9, ht9, hM⟩ := hw
  obtain ⟨hP1, hK1, hD1⟩ := hB
  rw [ht] at hP1
  have hK1 := va_K.moved hvm.symm hK1
  obtain ⟨hP, hD⟩ := va_join (wr := [(tk, .inr (9, tf)), (tx, .inl (cx, 3000, .inl (fun _ => 0))), (so, .inl (cs, 702, .inl (fun _ => 0))), (pl, .inl (cp, 702, .inl (fun _ => 0))), (li, .inl (ci, 702, .inl (fun _ => 0))), (nm, .inr (6, nf)), (us, .inl (cu, 702, .inl (fun _ => 0))), (me, .inl (cm, 702, .inl (fun _ => 0))), (cd, .inr (0, cf)), (sp, .inr (8, sf)), (rd, .inr (7, rf)), (tr, .inl (ct, 2, .inr (.inr (.inr (.inr (fun _ => none)))))), (b0, .inl (d0, 3000, .inl (fun _ => 0))), (b1, .inl (d1, 710, .inl (fun _ => 0))), (b2, .inl (d2, 710, .inl (fun _ => 0))), (b3, .inl (d3, 710, .inl (fun _ => 0))), (b4, .inl (d4, 710, .inl (fun _ => 0))), (b5, .inl (d5, 2, .inl (fun _ => 0))), (o0, .inl (co, 1, .inr (.inl u2)))]) (w1 := [(m0, .inr (12, u4))]) hP hD [12] [0, 1, 2, 3, 4, 5, 6, 7, 8, 9, 10, 11, 13, 14, 15, 16, 17, 18, 19] rfl rfl (by decide) (by decide) hk1 hFc hP1 hD1
  have hK := (hK.sub (tys' := [(cx, .byte), (cs, .int), (cp, .int), (ci, .int), (cu, .int), (cm, .int), (ct, .object "ScheduleHouse$Trial"), (d0, .byte), (d1, .int), (d2, .int), (d3, .int), (d4, .int), (d5, .boolean), (co, .long)]) [0, 1, 2, 3, 4, 5, 6, 7, 8, 9, 10, 11, 12, 13] rfl).app hK1
  generalize H1 = H at hP hS ⊢
  have hP : va_P D vwCl [(tk, .inr (9, tf)), (tx, .inl (cx, 3000, .inl (fun _ => 0))), (so, .inl (cs, 702, .inl (fun _ => 0))), (pl, .inl (cp, 702, .inl (fun _ => 0))), (li, .inl (ci, 702, .inl (fun _ => 0))), (nm, .inr (6, nf)), (us, .inl (cu, 702, .inl (fun _ => 0))), (me, .inl (cm, 702, .inl (fun _ => 0))), (cd, .inr (0, cf)), (sp, .inr (8, sf)), (rd, .inr (7, rf)), (tr, .inl (ct, 2, .inr (.inr (.inr (.inr (fun _ => none)))))), (b0, .inl (d0, 3000, .inl (fun _ => 0))), (b1, .inl (d1, 710, .inl (fun _ => 0))), (b2, .inl (d2, 710, .inl (fun _ => 0))), (b3, .inl (d3, 710, .inl (fun _ => 0))), (b4, .inl (d4, 710, .inl (fun _ => 0))), (b5, .inl (d5, 2, .inl (fun _ => 0))), (o0, .inl (co, 1, .inr (.inl u2))), (m0, .inr (12, u4))] H := hP
  have hD : va_D (fun q : Nat => s.heap.size ≤ q) [(tk, .inr (9, tf)), (tx, .inl (cx, 3000, .inl (fun _ => 0))), (so, .inl (cs, 702, .inl (fun _ => 0))), (pl, .inl (cp, 702, .inl (fun _ => 0))), (li, .inl (ci, 702, .inl (fun _ => 0))), (nm, .inr (6, nf)), (us, .inl (cu, 702, .inl (fun _ => 0))), (me, .inl (cm, 702, .inl (fun _ => 0))), (cd, .inr (0, cf)), (sp, .inr (8, sf)), (rd, .inr (7, rf)), (tr, .inl (ct, 2, .inr (.inr (.inr (.inr (fun _ => none)))))), (b0, .inl (d0, 3000, .inl (fun _ => 0))), (b1, .inl (d1, 710, .inl (fun _ => 0))), (b2, .inl (d2, 710, .inl (fun _ => 0))), (b3, .inl (d3, 710, .inl (fun _ => 0))), (b4, .inl (d4, 710, .inl (fun _ => 0))), (b5, .inl (d5, 2, .inl (fun _ => 0))), (o0, .inl (co, 1, .inr (.inl u2))), (m0, .inr (12, u4))] := hD
  have hK : va_K D vwCl [(cx, .byte), (cs, .int), (cp, .int), (ci, .int), (cu, .int), (cm, .int), (ct, .object "ScheduleHouse$Trial"), (d0, .byte), (d1, .int), (d2, .int), (d3, .int), (d4, .int), (d5, .boolean), (co, .long)] s := hK
  have ag := ag_common (xs (1 : Int32).toNatClampNeg) (xs (2 : Int32).toNatClampNeg) r1 t9 r3 u2 hXX hM
  refine lv_istore (lv' := [(6, .int r3), (5, .int r1), (4, .int 0), (3, .ref o0), (2, .ref m0), (1, .ref x0), (0, .ref b)]) hx hb dL_law_1792 hl (by decide) rfl (fun ls hl => ?_)
  refine lv_aload_n hx hb dL_law_1794 rfl (lv_at hl 4 rfl) ?_
  have hPc := hP.sub (ws' := [(m0, .inr (12, u4))]) [19] rfl
  have hDc := hD.sub (ws' := [(m0, .inr (12, u4))]) [19] (by decide) rfl
  have hKc := hK.sub (tys' := []) [] rfl
  have hFc := va_free (wc := [(m0, .inr (12, u4))]) hD hS hA [19] rfl
  refine va_calli (va_runV (As := []) (rest := []) ⟨hx, hb, hml, hown, hts⟩ (c_m_thrown l D m0 u4 t9 H.size ht9) (cwV 0 hts g_lw_2 rfl rfl rfl (by decide +kernel) ⟨Nat.le_of_ble_eq_true rfl, Nat.le_of_ble_eq_true rfl⟩) ⟨st_blind, va_recv hKc hPc (ci := 12) (q0 := 0) rfl rfl, fun U hU hW => ⟨rfl, st_call hU hW hPc hKc hDc hZ hS hFc hE⟩⟩ rfl rfl hl.1 rfl (lv_room (Nat.le_of_ble_eq_true rfl)) dL_law_1795 ⟨Nat.le_of_ble_eq_true rfl, Nat.le_of_ble_eq_true rfl⟩) hS (fun q _ h => hFc q h) hFc (fun r5 u6 t H1 locs ht hvm hw hB hz1 hk1 hS => ?_)
  obtain ⟨hP, hD⟩ := va_join (wr := [(tk, .inr (9, tf)), (tx, .inl (cx, 3000, .inl (fun _ => 0))), (so, .inl (cs, 702, .inl (fun _ => 0))), (pl, .inl (cp, 702, .inl (fun _ => 0))), (li, .inl (ci, 702, .inl (fun _ => 0))), (nm, .inr (6, nf)), (us, .inl (cu, 702, .inl (fun _ => 0))), (me, .inl (cm, 702, .inl (fun _ => 0))), (cd, .inr (0, cf)), (sp, .inr (8, sf)), (rd, .inr (7, rf)), (tr, .inl (ct, 2, .inr (.inr (.inr (.inr (fun _ => none)))))), (b0, .inl (d0, 3000, .inl (fun _ => 0))), (b1, .inl (d1, 710, .inl (fun _ => 0))), (b2, .inl (d2, 710, .inl (fun _ => 0))), (b3, .inl (d3, 710, .inl (fun _ => 0))), (b4, .inl (d4, 710, .inl (fun _ => 0))), (b5, .inl (d5, 2, .inl (fun _ => 0))), (o0, .inl (co, 1, .inr (.inl u2)))]) (w1 := []) hP hD [19] [0, 1, 2, 3, 4, 5, 6, 7, 8, 9, 10, 11, 12, 13, 14, 15, 16, 17, 18] rfl rfl (by decide) (by decide) hk1 hFc p_nil d_nil
  have hK := hK.sub (tys' := [(cx, .byte), (cs, .int), (cp, .int), (ci, .int), (cu, .int), (cm, .int), (ct, .object "ScheduleHouse$Trial"), (d0, .byte), (d1, .int), (d2, .int), (d3, .int), (d4, .int), (d5, .boolean), (co, .long)]) [0, 1, 2, 3, 4, 5, 6, 7, 8, 9, 10, 11, 12, 13] rfl
  generalize H1 = H at hP hS ⊢
  have hP : va_P D vwCl [(tk, .inr (9, tf)), (tx, .inl (cx, 3000, .inl (fun _ => 0))), (so, .inl (cs, 702, .inl (fun _ => 0))), (pl, .inl (cp, 702, .inl (fun _ => 0))), (li, .inl (ci, 702, .inl (fun _ => 0))), (nm, .inr (6, nf)), (us, .inl (cu, 702, .inl (fun _ => 0))), (me, .inl (cm, 702, .inl (fun _ => 0))), (cd, .inr (0, cf)), (sp, .inr (8, sf)), (rd, .inr (7, rf)), (tr, .inl (ct, 2, .inr (.inr (.inr (.inr (fun _ => none)))))), (b0, .inl (d0, 3000, .inl (fun _ => 0))), (b1, .inl (d1, 710, .inl (fun _ => 0))), (b2, .inl (d2, 710, .inl (fun _ => 0))), (b3, .inl (d3, 710, .inl (fun _ => 0))), (b4, .inl (d4, 710, .inl (fun _ => 0))), (b5, .inl (d5, 2, .inl (fun _ => 0))), (o0, .inl (co, 1, .inr (.inl u2)))] H := hP
  have hD : va_D (fun q : Nat => s.heap.size ≤ q) [(tk, .inr (9, tf)), (tx, .inl (cx, 3000, .inl (fun _ => 0))), (so, .inl (cs, 702, .inl (fun _ => 0))), (pl, .inl (cp, 702, .inl (fun _ => 0))), (li, .inl (ci, 702, .inl (fun _ => 0))), (nm, .inr (6, nf)), (us, .inl (cu, 702, .inl (fun _ => 0))), (me, .inl (cm, 702, .inl (fun _ => 0))), (cd, .inr (0, cf)), (sp, .inr (8, sf)), (rd, .inr (7, rf)), (tr, .inl (ct, 2, .inr (.inr (.inr (.inr (fun _ => none)))))), (b0, .inl (d0, 3000, .inl (fun _ => 0))), (b1, .inl (d1, 710, .inl (fun _ => 0))), (b2, .inl (d2, 710, .inl (fun _ => 0))), (b3, .inl (d3, 710, .inl (fun _ => 0))), (b4, .inl (d4, 710, .inl (fun _ => 0))), (b5, .inl (d5, 2, .inl (fun _ => 0))), (o0, .inl (co, 1, .inr (.inl u2)))] := hD
  have hK : va_K D vwCl [(cx, .byte), (cs, .int), (cp, .int), (ci, .int), (cu, .int), (cm, .int), (ct, .object "ScheduleHouse$Trial"), (d0, .byte), (d1, .int), (d2, .int), (d3, .int), (d4, .int), (d5, .boolean), (co, .long)] s := hK
  subst hw
  refine lv_iload hx hb dL_law_1798 (lv_at hl 1 rfl) ?_
  refine lv_icmp_eq (tgt := 1805) hx hb dL_law_1800 (by decide) (fun _ => ?_) (fun c9 => absurd ag.1 c9)
  refine lv_iload hx hb dL_law_1805 (lv_at hl 1 rfl) ?_
  refine lv_if_ne (tgt := 1822) hx hb dL_law_1807 (by decide) (fun c5 => ?_) (fun c5 => ?_)
  · refine lv_goto (tgt := 1894) hx hb dL_law_1822 (by decide) ?_
    refine W.widen (k := 2000) (n := 2000000) (Nat.le_of_ble_eq_true rfl) (Nat.le_of_ble_eq_true rfl) ?_
    exact law_tail l C0 hS (lv_sub hl [2, 6] rfl)
  · refine lv_aload_n hx hb dL_law_1810 rfl (lv_at hl 3 rfl) ?_
    refine lv_iconst (v := 0) hx hb dL_law_1811 (by decide +kernel) ?_
    refine va_lald hx hb hK hP 18 13 rfl rfl (i := 0) (by unfold vp_in; decide) dL_law_1812 ?_
    refine lv_iload hx hb dL_law_1813 (lv_at hl 0 rfl) ?_
    refine lv_i2l (v := r3.toInt64) hx hb dL_law_1815 rfl ?_
    rw [show u2 (0 : Int32).toNatClampNeg = r3.toInt64 from ag.2 c5]
    refine W.lcmp hx hb dL_law_1816 ?_
    rw [cmp_eq]
    refine lv_if_eq (tgt := 1822) hx hb dL_law_1817 (by decide) (fun _ => ?_) (fun c9 => False.elim (by revert c9; decide))
    refine lv_goto (tgt := 1894) hx hb dL_law_1822 (by decide) ?_
    refine W.widen (k := 2000) (n := 2000000) (Nat.le_of_ble_eq_true rfl) (Nat.le_of_ble_eq_true rfl) ?_
    exact law_tail l C0 hS (lv_sub hl [2, 6] rfl)
set_option maxHeartbeats 400000 in
set_option maxRecDepth 100000 in
theorem law_27 {p : Program} {e : Env} {s : State} {m : MethodId} {below : List Frame} {meth : Method} {c : Code} (l : Launch) (hlt : l.stackTraces = false) {b : Nat} {xs : Nat → Int32} (C0 : lw_At p s m meth c b 4 xs) (hE : ev s) (hZ : ev_Z (fun q : Nat => s.heap.size ≤ q) s s.heap) (D : va_G) (x0 tk tx so pl li nm us me cd sp rd tr m0 b0 b1 b2 b3 b4 b5 o0 : Nat) (cx cs cp ci cu cm ct d0 d1 d2 d3 d4 d5 co : ClassId) (xf tf nf cf sf rf mf : List Value) {H : Heap} {locs : List Loc} {ls : Array Slot} (hin : law_in D s H locs x0 tk tx so pl li nm us me cd sp rd tr m0 b0 b1 b2 b3 b4 b5 o0 cx cs cp ci cu cm ct d0 d1 d2 d3 d4 d5 co xf tf nf cf sf rf mf) (hl : lv_has ls 7 [(4, .int 0), (3, .ref o0), (2, .ref m0), (1, .ref x0), (0, .ref b)]) : W p l e room_1 s m #[Value.ref b] below meth c H locs 1000 1000000 (lw_Z below #[Value.ref b] s) (F0 m 1825 ls []) := by
  obtain ⟨hx, hb, hr, hml, hown, hts, hX, hbl, hlocks, hgv⟩ := id C0
  have hA : ∀ q : Nat, s.heap.size ≤ q → (fun q : Nat => s.heap.size ≤ q) q := fun _ h => h
  have hbA : ¬ (fun q : Nat => s.heap.size ≤ q) b := Nat.not_le.mpr hbl
  obtain ⟨hok, hP, hD, hK, hS⟩ := hin
  obtain ⟨xf_l, xf_0, xf_1, xf_2, xf_3, xf_6, xf_9, xf_10, xf_11, xf_12, tf_l, tf_0, tf_1, tf_2, tf_3, tf_4, nf_l, nf_0, nf_1, nf_2, nf_11, cf_l, cf_0, sf_l, rf_l, rf_0, rf_1, rf_2, rf_3, mf_l, mf_z, mf_p, mf_n, mf_r0, mf_r1, mf_r2, mf_r3, mf_r4, mf_r5⟩ := hok
  have hown : s.vm.findClass RL = some m.cls := hown
  refine lv_aload_n hx hb dL_law_1825 rfl (lv_at hl 3 rfl) ?_
  refine lv_aload_n hx hb dL_law_1826 rfl (lv_at hl 4 rfl) ?_
  refine lv_iload hx hb dL_law_1827 (lv_at hl 0 rfl) ?_
  refine lv_iconst (v := 1) hx hb dL_law_1829 (by decide +kernel) ?_
  refine lv_iadd hx hb dL_law_1830 ?_
  rw [show (0 + 1 : Int32) = 1 by decide]
  refine va_sld hx hb hX hbl hbA hS (i := 1) (by unfold vp_in; decide) dL_law_1831 ?_
  refine lv_aload_n hx hb dL_law_1832 rfl (lv_at hl 1 rfl) ?_
  have hPc := hP.sub (ws' := [(x0, .inr (11, xf)), (tr, .inl (ct, 2, .inr (.inr (.inr (.inr (fun _ => none)))))), (o0, .inl (co, 1, .inr (.inl (fun _ => 0))))]) [0, 12, 20] rfl
  have hDc := hD.sub (ws' := [(x0, .inr (11, xf)), (tr, .inl (ct, 2, .inr (.inr (.inr (.inr (fun _ => none)))))), (o0, .inl (co, 1, .inr (.inl (fun _ => 0))))]) [0, 12, 20] (by decide) rfl
  have hKc := hK.sub (tys' := [(ct, .object "ScheduleHouse$Trial"), (co, .long)]) [6, 13] rfl
  have hFc := va_free (wc := [(x0, .inr (11, xf)), (tr, .inl (ct, 2, .inr (.inr (.inr (.inr (fun _ => none)))))), (o0, .inl (co, 1, .inr (.inl (fun _ => 0))))]) hD hS hA [0, 12, 20] rfl
  refine va_calli (vx_runSW (As := [.ref x0, .int (xs (1 : Int32).toNatClampNeg), .ref o0]) (rest := []) ⟨hx, hb, hml, hown, hts⟩ (c_L_ring l D x0 o0 tr ct co xf (fun _ => 0) (xs (1 : Int32).toNatClampNeg) H.size hlt xf_6) (vx_cwSW 3 hts g_lw_55 rfl rfl rfl (by decide +kernel) ⟨Nat.le_of_ble_eq_true rfl, Nat.le_of_ble_eq_true rfl⟩) ⟨st_blind, fun U hU hW => ⟨rfl, st_call hU hW hPc hKc hDc hZ hS hFc hE⟩⟩ rfl rfl hl.1 rfl (lv_room (Nat.le_of_ble_eq_true rfl)) dL_law_1833 ⟨Nat.le_of_ble_eq_true rfl, Nat.le_of_ble_eq_true rfl⟩) hS (fun q _ h => hFc q h) hFc (fun r1 u2 t H1 locs ht hvm hw hB hz1 hk1 hS => ?_)
  have hXX := hw
  obtain ⟨hP1, hK1, hD1⟩ := hB
  rw [ht] at hP1
  have hK1 := va_K.moved hvm.symm hK1
  obtain ⟨hP, hD⟩ := va_join (wr := [(tk, .inr (9, tf)), (tx, .inl (cx, 3000, .inl (fun _ => 0))), (so, .inl (cs, 702, .inl (fun _ => 0))), (pl, .inl (cp, 702, .inl (fun _ => 0))), (li, .inl (ci, 702, .inl (fun _ => 0))), (nm, .inr (6, nf)), (us, .inl (cu, 702, .inl (fun _ => 0))), (me, .inl (cm, 702, .inl (fun _ => 0))), (cd, .inr (0, cf)), (sp, .inr (8, sf)), (rd, .inr (7, rf)), (m0, .inr (12, mf)), (b0, .inl (d0, 3000, .inl (fun _ => 0))), (b1, .inl (d1, 710, .inl (fun _ => 0))), (b2, .inl (d2, 710, .inl (fun _ => 0))), (b3, .inl (d3, 710, .inl (fun _ => 0))), (b4, .inl (d4, 710, .inl (fun _ => 0))), (b5, .inl (d5, 2, .inl (fun _ => 0)))]) (w1 := [(o0, .inl (co, 1, .inr (.inl u2)))]) hP hD [0, 12, 20] [1, 2, 3, 4, 5, 6, 7, 8, 9, 10, 11, 13, 14, 15, 16, 17, 18, 19] rfl rfl (by decide) (by decide) hk1 hFc hP1 hD1
  have hK := (hK.sub (tys' := [(cx, .byte), (cs, .int), (cp, .int), (ci, .int), (cu, .int), (cm, .int), (d0, .byte), (d1, .int), (d2, .int), (d3, .int), (d4, .int), (d5, .boolean)]) [0, 1, 2, 3, 4, 5, 7, 8, 9, 10, 11, 12] rfl).app hK1
  generalize H1 = H at hP hS ⊢
  have hP : va_P D vwCl [(tk, .inr (9, tf)), (tx, .inl (cx, 3000, .inl (fun _ => 0))), (so, .inl (cs, 702, .inl (fun _ => 0))), (pl, .inl (cp, 702, .inl (fun _ => 0))), (li, .inl (ci, 702, .inl (fun _ => 0))), (nm, .inr (6, nf)), (us, .inl (cu, 702, .inl (fun _ => 0))), (me, .inl (cm, 702, .inl (fun _ => 0))), (cd, .inr (0, cf)), (sp, .inr (8, sf)), (rd, .inr (7, rf)), (m0, .inr (12, mf)), (b0, .inl (d0, 3000, .inl (fun _ => 0))), (b1, .inl (d1, 710, .inl (fun _ => 0))), (b2, .inl (d2, 710, .inl (fun _ => 0))), (b3, .inl (d3, 710, .inl (fun _ => 0))), (b4, .inl (d4, 710, .inl (fun _ => 0))), (b5, .inl (d5, 2, .inl (fun _ => 0))), (o0, .inl (co, 1, .inr (.inl u2)))] H := hP
  have hD : va_D (fun q : Nat => s.heap.size ≤ q) [(tk, .inr (9, tf)), (tx, .inl (cx, 3000, .inl (fun _ => 0))), (so, .inl (cs, 702, .inl (fun _ => 0))), (pl, .inl (cp, 702, .inl (fun _ => 0))), (li, .inl (ci, 702, .inl (fun _ => 0))), (nm, .inr (6, nf)), (us, .inl (cu, 702, .inl (fun _ => 0))), (me, .inl (cm, 702, .inl (fun _ => 0))), (cd, .inr (0, cf)), (sp, .inr (8, sf)), (rd, .inr (7, rf)), (m0, .inr (12, mf)), (b0, .inl (d0, 3000, .inl (fun _ => 0))), (b1, .inl (d1, 710, .inl (fun _ => 0))), (b2, .inl (d2, 710, .inl (fun _ => 0))), (b3, .inl (d3, 710, .inl (fun _ => 0))), (b4, .inl (d4, 710, .inl (fun _ => 0))), (b5, .inl (d5, 2, .inl (fun _ => 0))), (o0, .inl (co, 1, .inr (.inl u2)))] := hD
  have hK : va_K D vwCl [(cx, .byte), (cs, .int), (cp, .int), (ci, .int), (cu, .int), (cm, .int), (d0, .byte), (d1, .int), (d2, .int), (d3, .int), (d4, .int), (d5, .boolean), (co, .long)] s := hK
  refine lv_istore (lv' := [(5, .int r1), (4, .int 0), (3, .ref o0), (2, .ref m0), (1, .ref x0), (0, .ref b)]) hx hb dL_law_1836 hl (by decide) rfl (fun ls hl => ?_)
  refine lv_aload_n hx hb dL_law_1838 rfl (lv_at hl 3 rfl) ?_
  refine lv_aload_n hx hb dL_law_1839 rfl (lv_at hl 5 rfl) ?_
  refine lv_iload hx hb dL_law_1840 (lv_at hl 1 rfl) ?_
  refine lv_iconst (v := 1) hx hb dL_law_1842 (by decide +kernel) ?_
  refine lv_iadd hx hb dL_law_1843 ?_
  rw [show (0 + 1 : Int32) = 1 by decide]
  refine va_sld hx hb hX hbl hbA hS (i := 1) (by unfold vp_in; decide) dL_law_1844 ?_
  have hPc := hP.sub (ws' := [(m0, .inr (12, mf)), (b5, .inl (d5, 2, .inl (fun _ => 0)))]) [11, 17] rfl
  have hDc := hD.sub (ws' := [(m0, .inr (12, mf)), (b5, .inl (d5, 2, .inl (fun _ => 0)))]) [11, 17] (by decide) rfl
  have hKc := hK.sub (tys' := [(d5, .boolean)]) [11] rfl
  have hFc := va_free (wc := [(m0, .inr (12, mf)), (b5, .inl (d5, 2, .inl (fun _ => 0)))]) hD hS hA [11, 17] rfl
  refine va_calli (va_runV (As := [.int (xs (1 : Int32).toNatClampNeg)]) (rest := []) ⟨hx, hb, hml, hown, hts⟩ (c_m_ring l D m0 b5 d5 mf (xs (1 : Int32).toNatClampNeg) H.size mf_l (mf_z 0 (by decide)) mf_r5) (cwV 1 hts g_lw_56 rfl rfl rfl (by decide +kernel) ⟨Nat.le_of_ble_eq_true rfl, Nat.le_of_ble_eq_true rfl⟩) ⟨st_blind, va_recv hKc hPc (ci := 12) (q0 := 0) rfl rfl, fun U hU hW => ⟨rfl, st_call hU hW hPc hKc hDc hZ hS hFc hE⟩⟩ rfl rfl hl.1 rfl (lv_room (Nat.le_of_ble_eq_true rfl)) dL_law_1845 ⟨Nat.le_of_ble_eq_true rfl, Nat.le_of_ble_eq_true rfl⟩) hS (fun q _ h => hFc q h) hFc (fun r3 u4 t H1 locs ht hvm hw hB hz1 hk1 hS => ?_)
  obtain ⟨t9, ht9, hM⟩ := hw
  obtain ⟨hP1, hK1, hD1⟩ := hB
  rw [ht] at hP1
  have hK1 := va_K.moved hvm.symm hK1
  obtain ⟨hP, hD⟩ := va_join (wr := [(tk, .inr (9, tf)), (tx, .inl (cx, 3000, .inl (fun _ => 0))), (so, .inl (cs, 702, .inl (fun _ => 0))), (pl, .inl (cp, 702, .inl (fun _ => 0))), (li, .inl (ci, 702, .inl (fun _ => 0))), (nm, .inr (6, nf)), (us, .inl (cu, 702, .inl (fun _ => 0))), (me, .inl (cm, 702, .inl (fun _ => 0))), (cd, .inr (0, cf)), (sp, .inr (8, sf)), (rd, .inr (7, rf)), (b0, .inl (d0, 3000, .inl (fun _ => 0))), (b1, .inl (d1, 710, .inl (fun _ => 0))), (b2, .inl (d2, 710, .inl (fun _ => 0))), (b3, .inl (d3, 710, .inl (fun _ => 0))), (b4, .inl (d4, 710, .inl (fun _ => 0))), (o0, .inl (co, 1, .inr (.inl u2)))]) (w1 := [(m0, .inr (12, u4))]) hP hD [11, 17] [0, 1, 2, 3, 4, 5, 6, 7, 8, 9, 10, 12, 13, 14, 15, 16, 18] rfl rfl (by decide) (by decide) hk1 hFc hP1 hD1
  have hK := (hK.sub (tys' := [(cx, .byte), (cs, .int), (cp, .int), (ci, .int), (cu, .int), (cm, .int), (d0, .byte), (d1, .int), (d2, .int), (d3, .int), (d4, .int), (co, .long)]) [0, 1, 2, 3, 4, 5, 6, 7, 8, 9, 10, 12] rfl).app hK1
  generalize H1 = H at hP hS ⊢
  have hP : va_P D vwCl [(tk, .inr (9, tf)), (tx, .inl (cx, 3000, .inl (fun _ => 0))), (so, .inl (cs, 702, .inl (fun _ => 0))), (pl, .inl (cp, 702, .inl (fun _ => 0))), (li, .inl (ci, 702, .inl (fun _ => 0))), (nm, .inr (6, nf)), (us, .inl (cu, 702, .inl (fun _ => 0))), (me, .inl (cm, 702, .inl (fun _ => 0))), (cd, .inr (0, cf)), (sp, .inr (8, sf)), (rd, .inr (7, rf)), (b0, .inl (d0, 3000, .inl (fun _ => 0))), (b1, .inl (d1, 710, .inl (fun _ => 0))), (b2, .inl (d2, 710, .inl (fun _ => 0))), (b3, .inl (d3, 710, .inl (fun _ => 0))), (b4, .inl (d4, 710, .inl (fun _ => 0))), (o0, .inl (co, 1, .inr (.inl u2))), (m0, .inr (12, u4))] H := hP
  have hD : va_D (fun q : Nat => s.heap.size ≤ q) [(tk, .inr (9, tf)), (tx, .inl (cx, 3000, .inl (fun _ => 0))), (so, .inl (cs, 702, .inl (fun _ => 0))), (pl, .inl (cp, 702, .inl (fun _ => 0))), (li, .inl (ci, 702, .inl (fun _ => 0))), (nm, .inr (6, nf)), (us, .inl (cu, 702, .inl (fun _ => 0))), (me, .inl (cm, 702, .inl (fun _ => 0))), (cd, .inr (0, cf)), (sp, .inr (8, sf)), (rd, .inr (7, rf)), (b0, .inl (d0, 3000, .inl (fun _ => 0))), (b1, .inl (d1, 710, .inl (fun _ => 0))), (b2, .inl (d2, 710, .inl (fun _ => 0))), (b3, .inl (d3, 710, .inl (fun _ => 0))), (b4, .inl (d4, 710, .inl (fun _ => 0))), (o0, .inl (co, 1, .inr (.inl u2))), (m0, .inr (12, u4))] := hD
  have hK : va_K D vwCl [(cx, .byte), (cs, .int), (cp, .int), (ci, .int), (cu, .int), (cm, .int), (d0, .byte), (d1, .int), (d2, .int), (d3, .int), (d4, .int), (co, .long)] s := hK
  have ag := ag_ring (xs (1 : Int32).toNatClampNeg) r1 t9 r3 u2 hXX hM
  refine lv_istore (lv' := [(6, .int r3), (5, .int r1), (4, .int 0), (3, .ref o0), (2, .ref m0), (1, .ref x0), (0, .ref b)]) hx hb dL_law_1848 hl (by decide) rfl (fun ls hl => ?_)
  refine lv_aload_n hx hb dL_law_1850 rfl (lv_at hl 4 rfl) ?_
  have hPc := hP.sub (ws' := [(m0, .inr (12, u4))]) [17] rfl
  have hDc := hD.sub (ws' := [(m0, .inr (12, u4))]) [17] (by decide) rfl
  have hKc := hK.sub (tys' := []) [] rfl
  have hFc := va_free (wc := [(m0, .inr (12, u4))]) hD hS hA [17] rfl
  refine va_calli (va_runV (As := []) (rest := []) ⟨hx, hb, hml, hown, hts⟩ (c_m_thrown l D m0 u4 t9 H.size ht9) (cwV 0 hts g_lw_2 rfl rfl rfl (by decide +kernel) ⟨Nat.le_of_ble_eq_true rfl, Nat.le_of_ble_eq_true rfl⟩) ⟨st_blind, va_recv hKc hPc (ci := 12) (q0 := 0) rfl rfl, fun U hU hW => ⟨rfl, st_call hU hW hPc hKc hDc hZ hS hFc hE⟩⟩ rfl rfl hl.1 rfl (lv_room (Nat.le_of_ble_eq_true rfl)) dL_law_1851 ⟨Nat.le_of_ble_eq_true rfl, Nat.le_of_ble_eq_true rfl⟩) hS (fun q _ h => hFc q h) hFc (fun r5 u6 t H1 locs ht hvm hw hB hz1 hk1 hS => ?_)
  obtain ⟨hP, hD⟩ := va_join (wr := [(tk, .inr (9, tf)), (tx, .inl (cx, 3000, .inl (fun _ => 0))), (so, .inl (cs, 702, .inl (fun _ => 0))), (pl, .inl (cp, 702, .inl (fun _ => 0))), (li, .inl (ci, 702, .inl (fun _ => 0))), (nm, .inr (6, nf)), (us, .inl (cu, 702, .inl (fun _ => 0))), (me, .inl (cm, 702, .inl (fun _ => 0))), (cd, .inr (0, cf)), (sp, .inr (8, sf)), (rd, .inr (7, rf)), (b0, .inl (d0, 3000, .inl (fun _ => 0))), (b1, .inl (d1, 710, .inl (fun _ => 0))), (b2, .inl (d2, 710, .inl (fun _ => 0))), (b3, .inl (d3, 710, .inl (fun _ => 0))), (b4, .inl (d4, 710, .inl (fun _ => 0))), (o0, .inl (co, 1, .inr (.inl u2)))]) (w1 := []) hP hD [17] [0, 1, 2, 3, 4, 5, 6, 7, 8, 9, 10, 11, 12, 13, 14, 15, 16] rfl rfl (by decide) (by decide) hk1 hFc p_nil d_nil
  have hK := hK.sub (tys' := [(cx, .byte), (cs, .int), (cp, .int), (ci, .int), (cu, .int), (cm, .int), (d0, .byte), (d1, .int), (d2, .int), (d3, .int), (d4, .int), (co, .long)]) [0, 1, 2, 3, 4, 5, 6, 7, 8, 9, 10, 11] rfl
  generalize H1 = H at hP hS ⊢
  have hP : va_P D vwCl [(tk, .inr (9, tf)), (tx, .inl (cx, 3000, .inl (fun _ => 0))), (so, .inl (cs, 702, .inl (fun _ => 0))), (pl, .inl (cp, 702, .inl (fun _ => 0))), (li, .inl (ci, 702, .inl (fun _ => 0))), (nm, .inr (6, nf)), (us, .inl (cu, 702, .inl (fun _ => 0))), (me, .inl (cm, 702, .inl (fun _ => 0))), (cd, .inr (0, cf)), (sp, .inr (8, sf)), (rd, .inr (7, rf)), (b0, .inl (d0, 3000, .inl (fun _ => 0))), (b1, .inl (d1, 710, .inl (fun _ => 0))), (b2, .inl (d2, 710, .inl (fun _ => 0))), (b3, .inl (d3, 710, .inl (fun _ => 0))), (b4, .inl (d4, 710, .inl (fun _ => 0))), (o0, .inl (co, 1, .inr (.inl u2)))] H := hP
  have hD : va_D (fun q : Nat => s.heap.size ≤ q) [(tk, .inr (9, tf)), (tx, .inl (cx, 3000, .inl (fun _ => 0))), (so, .inl (cs, 702, .inl (fun _ => 0))), (pl, .inl (cp, 702, .inl (fun _ => 0))), (li, .inl (ci, 702, .inl (fun _ => 0))), (nm, .inr (6, nf)), (us, .inl (cu, 702, .inl (fun _ => 0))), (me, .inl (cm, 702, .inl (fun _ => 0))), (cd, .inr (0, cf)), (sp, .inr (8, sf)), (rd, .inr (7, rf)), (b0, .inl (d0, 3000, .inl (fun _ => 0))), (b1, .inl (d1, 710, .inl (fun _ => 0))), (b2, .inl (d2, 710, .inl (fun _ => 0))), (b3, .inl (d3, 710, .inl (fun _ => 0))), (b4, .inl (d4, 710, .inl (fun _ => 0))), (o0, .inl (co, 1, .inr (.inl u2)))] := hD
  have hK : va_K D vwCl [(cx, .byte), (cs, .int), (cp, .int), (ci, .int), (cu, .int), (cm, .int), (d0, .byte), (d1, .int), (d2, .int), (d3, .int), (d4, .int), (co, .long)] s := hK
  subst hw
  refine lv_iload hx hb dL_law_1854 (lv_at hl 1 rfl) ?_
  refine lv_icmp_eq (tgt := 1861) hx hb dL_law_1856 (by decide) (fun _ => ?_) (fun c9 => absurd ag.1 c9)
  refine lv_iload hx hb dL_law_1861 (lv_at hl 1 rfl) ?_
  refine lv_if_ne (tgt := 1878) hx hb dL_law_1863 (by decide) (fun c5 => ?_) (fun c5 => ?_)
  · refine lv_goto (tgt := 1894) hx hb dL_law_1878 (by decide) ?_
    refine W.widen (k := 2000) (n := 2000000) (Nat.le_of_ble_eq_true rfl) (Nat.le_of_ble_eq_true rfl) ?_
    exact law_tail l C0 hS (lv_sub hl [2, 6] rfl)
  · refine lv_aload_n hx hb dL_law_1866 rfl (lv_at hl 3 rfl) ?_
    refine lv_iconst (v := 0) hx hb dL_law_1867 (by decide +kernel) ?_
    refine va_lald hx hb hK hP 16 11 rfl rfl (i := 0) (by unfold vp_in; decide) dL_law_1868 ?_
    refine lv_iload hx hb dL_law_1869 (lv_at hl 0 rfl) ?_
    refine lv_i2l (v := r3.toInt64) hx hb dL_law_1871 rfl ?_
    rw [show u2 (0 : Int32).toNatClampNeg = r3.toInt64 from ag.2 c5]
    refine W.lcmp hx hb dL_law_1872 ?_
    rw [cmp_eq]
    refine lv_if_eq (tgt := 1878) hx hb dL_law_1873 (by decide) (fun _ => ?_) (fun c9 => False.elim (by revert c9; decide))
    refine lv_goto (tgt := 1894) hx hb dL_law_1878 (by decide) ?_
    refine W.widen (k := 2000) (n := 2000000) (Nat.le_of_ble_eq_true rfl) (Nat.le_of_ble_eq_true rfl) ?_
    exact law_tail l C0 hS (lv_sub hl [2, 6] rfl)
set_option maxHeartbeats 400000 in
set_option maxRecDepth 100000 in
theorem law_28 {p : Program} {e : Env} {s : State} {m : MethodId} {below : List Frame} {meth : Method} {c : Code} (l : Launch) (hlt : l.stackTraces = false) {b : Nat} {xs : Nat → Int32} (C0 : lw_At p s m meth c b 4 xs) (hE : ev s) (hZ : ev_Z (fun q : Nat => s.heap.size ≤ q) s s.heap) (D : va_G) (x0 tk tx so pl li nm us me cd sp rd tr m0 b0 b1 b2 b3 b4 b5 o0 : Nat) (cx cs cp ci cu cm ct d0 d1 d2 d3 d4 d5 co : ClassId) (xf tf nf cf sf rf mf : List Value) {H : Heap} {locs : List Loc} {ls : Array Slot} (hin : law_in D s H locs x0 tk tx so pl li nm us me cd sp rd tr m0 b0 b1 b2 b3 b4 b5 o0 cx cs cp ci cu cm ct d0 d1 d2 d3 d4 d5 co xf tf nf cf sf rf mf) (hl : lv_has ls 7 [(4, .int 0), (3, .ref o0), (2, .ref m0), (1, .ref x0), (0, .ref b)]) : W p l e room_1 s m #[Value.ref b] below meth c H locs 1000 1000000 (lw_Z below #[Value.ref b] s) (F0 m 1881 ls []) := by
  obtain ⟨hx, hb, hr, hml, hown, hts, hX, hbl, hlocks, hgv⟩ := id C0
  have hA : ∀ q : Nat, s.heap.size ≤ q → (fun q : Nat => s.heap.size ≤ q) q := fun _ h => h
  have hbA : ¬ (fun q : Nat => s.heap.size ≤ q) b := Nat.not_le.mpr hbl
  obtain ⟨hok, hP, hD, hK, hS⟩ := hin
  obtain ⟨xf_l, xf_0, xf_1, xf_2, xf_3, xf_6, xf_9, xf_10, xf_11, xf_12, tf_l, tf_0, tf_1, tf_2, tf_3, tf_4, nf_l, nf_0, nf_1, nf_2, nf_11, cf_l, cf_0, sf_l, rf_l, rf_0, rf_1, rf_2, rf_3, mf_l, mf_z, mf_p, mf_n, mf_r0, mf_r1, mf_r2, mf_r3, mf_r4, mf_r5⟩ := hok
  have hown : s.vm.findClass RL = some m.cls := hown
  refine lv_aload_n hx hb dL_law_1881 rfl (lv_at hl 3 rfl) ?_
  have hPc := hP.sub (ws' := [(x0, .inr (11, xf)), (tr, .inl (ct, 2, .inr (.inr (.inr (.inr (fun _ => none))))))]) [0, 12] rfl
  have hDc := hD.sub (ws' := [(x0, .inr (11, xf)), (tr, .inl (ct, 2, .inr (.inr (.inr (.inr (fun _ => none))))))]) [0, 12] (by decide) rfl
  have hKc := hK.sub (tys' := [(ct, .object "ScheduleHouse$Trial")]) [6] rfl
  have hFc := va_free (wc := [(x0, .inr (11, xf)), (tr, .inl (ct, 2, .inr (.inr (.inr (.inr (fun _ => none))))))]) hD hS hA [0, 12] rfl
  refine va_calli (va_runV (As := []) (rest := []) ⟨hx, hb, hml, hown, hts⟩ (c_alike l D x0 tr ct xf H.size xf_6) (cwV 0 hts g_lw_57 rfl rfl rfl (by decide +kernel) ⟨Nat.le_of_ble_eq_true rfl, Nat.le_of_ble_eq_true rfl⟩) ⟨st_blind, va_recv hKc hPc (ci := 11) (q0 := 0) rfl rfl, fun U hU hW => ⟨rfl, st_call hU hW hPc hKc hDc hZ hS hFc hE⟩⟩ rfl rfl hl.1 rfl (lv_room (Nat.le_of_ble_eq_true rfl)) dL_law_1882 ⟨Nat.le_of_ble_eq_true rfl, Nat.le_of_ble_eq_true rfl⟩) hS (fun q _ h => hFc q h) hFc (fun r1 u2 t H1 locs ht hvm hw hB hz1 hk1 hS => ?_)
  obtain ⟨hP, hD⟩ := va_join (wr := [(tk, .inr (9, tf)), (tx, .inl (cx, 3000, .inl (fun _ => 0))), (so, .inl (cs, 702, .inl (fun _ => 0))), (pl, .inl (cp, 702, .inl (fun _ => 0))), (li, .inl (ci, 702, .inl (fun _ => 0))), (nm, .inr (6, nf)), (us, .inl (cu, 702, .inl (fun _ => 0))), (me, .inl (cm, 702, .inl (fun _ => 0))), (cd, .inr (0, cf)), (sp, .inr (8, sf)), (rd, .inr (7, rf)), (m0, .inr (12, mf)), (b0, .inl (d0, 3000, .inl (fun _ => 0))), (b1, .inl (d1, 710, .inl (fun _ => 0))), (b2, .inl (d2, 710, .inl (fun _ => 0))), (b3, .inl (d3, 710, .inl (fun _ => 0))), (b4, .inl (d4, 710, .inl (fun _ => 0))), (b5, .inl (d5, 2, .inl (fun _ => 0))), (o0, .inl (co, 1, .inr (.inl (fun _ => 0))))]) (w1 := []) hP hD [0, 12] [1, 2, 3, 4, 5, 6, 7, 8, 9, 10, 11, 13, 14, 15, 16, 17, 18, 19, 20] rfl rfl (by decide) (by decide) hk1 hFc p_nil d_nil
  have hK := hK.sub (tys' := [(cx, .byte), (cs, .int), (cp, .int), (ci, .int), (cu, .int), (cm, .int), (d0, .byte), (d1, .int), (d2, .int), (d3, .int), (d4, .int), (d5, .boolean), (co, .long)]) [0, 1, 2, 3, 4, 5, 7, 8, 9, 10, 11, 12, 13] rfl
  generalize H1 = H at hP hS ⊢
  have hP : va_P D vwCl [(tk, .inr (9, tf)), (tx, .inl (cx, 3000, .inl (fun _ => 0))), (so, .inl (cs, 702, .inl (fun _ => 0))), (pl, .inl (cp, 702, .inl (fun _ => 0))), (li, .inl (ci, 702, .inl (fun _ => 0))), (nm, .inr (6, nf)), (us, .inl (cu, 702, .inl (fun _ => 0))), (me, .inl (cm, 702, .inl (fun _ => 0))), (cd, .inr (0, cf)), (sp, .inr (8, sf)), (rd, .inr (7, rf)), (m0, .inr (12, mf)), (b0, .inl (d0, 3000, .inl (fun _ => 0))), (b1, .inl (d1, 710, .inl (fun _ => 0))), (b2, .inl (d2, 710, .inl (fun _ => 0))), (b3, .inl (d3, 710, .inl (fun _ => 0))), (b4, .inl (d4, 710, .inl (fun _ => 0))), (b5, .inl (d5, 2, .inl (fun _ => 0))), (o0, .inl (co, 1, .inr (.inl (fun _ => 0))))] H := hP
  have hD : va_D (fun q : Nat => s.heap.size ≤ q) [(tk, .inr (9, tf)), (tx, .inl (cx, 3000, .inl (fun _ => 0))), (so, .inl (cs, 702, .inl (fun _ => 0))), (pl, .inl (cp, 702, .inl (fun _ => 0))), (li, .inl (ci, 702, .inl (fun _ => 0))), (nm, .inr (6, nf)), (us, .inl (cu, 702, .inl (fun _ => 0))), (me, .inl (cm, 702, .inl (fun _ => 0))), (cd, .inr (0, cf)), (sp, .inr (8, sf)), (rd, .inr (7, rf)), (m0, .inr (12, mf)), (b0, .inl (d0, 3000, .inl (fun _ => 0))), (b1, .inl (d1, 710, .inl (fun _ => 0))), (b2, .inl (d2, 710, .inl (fun _ => 0))), (b3, .inl (d3, 710, .inl (fun _ => 0))), (b4, .inl (d4, 710, .inl (fun _ => 0))), (b5, .inl (d5, 2, .inl (fun _ => 0))), (o0, .inl (co, 1, .inr (.inl (fun _ => 0))))] := hD
  have hK : va_K D vwCl [(cx, .byte), (cs, .int), (cp, .int), (ci, .int), (cu, .int), (cm, .int), (d0, .byte), (d1, .int), (d2, .int), (d3, .int), (d4, .int), (d5, .boolean), (co, .long)] s := hK
  subst hw
  refine lv_aload_n hx hb dL_law_1885 rfl (lv_at hl 2 rfl) ?_
  have hPc := hP.sub (ws' := [(m0, .inr (12, mf)), (b5, .inl (d5, 2, .inl (fun _ => 0)))]) [11, 17] rfl
  have hDc := hD.sub (ws' := [(m0, .inr (12, mf)), (b5, .inl (d5, 2, .inl (fun _ => 0)))]) [11, 17] (by decide) rfl
  have hKc := hK.sub (tys' := [(d5, .boolean)]) [11] rfl
  have hFc := va_free (wc := [(m0, .inr (12, mf)), (b5, .inl (d5, 2, .inl (fun _ => 0)))]) hD hS hA [11, 17] rfl
  refine va_calli (va_runV (As := []) (rest := [.int (-1)]) ⟨hx, hb, hml, hown, hts⟩ (c_m_alike l D m0 b5 d5 mf H.size mf_l (mf_z 0 (by decide)) mf_r5) (cwV 0 hts g_lw_58 rfl rfl rfl (by decide +kernel) ⟨Nat.le_of_ble_eq_true rfl, Nat.le_of_ble_eq_true rfl⟩) ⟨st_blind, va_recv hKc hPc (ci := 12) (q0 := 0) rfl rfl, fun U hU hW => ⟨rfl, st_call hU hW hPc hKc hDc hZ hS hFc hE⟩⟩ rfl rfl hl.1 rfl (lv_room (Nat.le_of_ble_eq_true rfl)) dL_law_1886 ⟨Nat.le_of_ble_eq_true rfl, Nat.le_of_ble_eq_true rfl⟩) hS (fun q _ h => hFc q h) hFc (fun r3 u4 t H1 locs ht hvm hw hB hz1 hk1 hS => ?_)
  obtain ⟨hP, hD⟩ := va_join (wr := [(tk, .inr (9, tf)), (tx, .inl (cx, 3000, .inl (fun _ => 0))), (so, .inl (cs, 702, .inl (fun _ => 0))), (pl, .inl (cp, 702, .inl (fun _ => 0))), (li, .inl (ci, 702, .inl (fun _ => 0))), (nm, .inr (6, nf)), (us, .inl (cu, 702, .inl (fun _ => 0))), (me, .inl (cm, 702, .inl (fun _ => 0))), (cd, .inr (0, cf)), (sp, .inr (8, sf)), (rd, .inr (7, rf)), (b0, .inl (d0, 3000, .inl (fun _ => 0))), (b1, .inl (d1, 710, .inl (fun _ => 0))), (b2, .inl (d2, 710, .inl (fun _ => 0))), (b3, .inl (d3, 710, .inl (fun _ => 0))), (b4, .inl (d4, 710, .inl (fun _ => 0))), (o0, .inl (co, 1, .inr (.inl (fun _ => 0))))]) (w1 := []) hP hD [11, 17] [0, 1, 2, 3, 4, 5, 6, 7, 8, 9, 10, 12, 13, 14, 15, 16, 18] rfl rfl (by decide) (by decide) hk1 hFc p_nil d_nil
  have hK := hK.sub (tys' := [(cx, .byte), (cs, .int), (cp, .int), (ci, .int), (cu, .int), (cm, .int), (d0, .byte), (d1, .int), (d2, .int), (d3, .int), (d4, .int), (co, .long)]) [0, 1, 2, 3, 4, 5, 6, 7, 8, 9, 10, 12] rfl
  generalize H1 = H at hP hS ⊢
  have hP : va_P D vwCl [(tk, .inr (9, tf)), (tx, .inl (cx, 3000, .inl (fun _ => 0))), (so, .inl (cs, 702, .inl (fun _ => 0))), (pl, .inl (cp, 702, .inl (fun _ => 0))), (li, .inl (ci, 702, .inl (fun _ => 0))), (nm, .inr (6, nf)), (us, .inl (cu, 702, .inl (fun _ => 0))), (me, .inl (cm, 702, .inl (fun _ => 0))), (cd, .inr (0, cf)), (sp, .inr (8, sf)), (rd, .inr (7, rf)), (b0, .inl (d0, 3000, .inl (fun _ => 0))), (b1, .inl (d1, 710, .inl (fun _ => 0))), (b2, .inl (d2, 710, .inl (fun _ => 0))), (b3, .inl (d3, 710, .inl (fun _ => 0))), (b4, .inl (d4, 710, .inl (fun _ => 0))), (o0, .inl (co, 1, .inr (.inl (fun _ => 0))))] H := hP
  have hD : va_D (fun q : Nat => s.heap.size ≤ q) [(tk, .inr (9, tf)), (tx, .inl (cx, 3000, .inl (fun _ => 0))), (so, .inl (cs, 702, .inl (fun _ => 0))), (pl, .inl (cp, 702, .inl (fun _ => 0))), (li, .inl (ci, 702, .inl (fun _ => 0))), (nm, .inr (6, nf)), (us, .inl (cu, 702, .inl (fun _ => 0))), (me, .inl (cm, 702, .inl (fun _ => 0))), (cd, .inr (0, cf)), (sp, .inr (8, sf)), (rd, .inr (7, rf)), (b0, .inl (d0, 3000, .inl (fun _ => 0))), (b1, .inl (d1, 710, .inl (fun _ => 0))), (b2, .inl (d2, 710, .inl (fun _ => 0))), (b3, .inl (d3, 710, .inl (fun _ => 0))), (b4, .inl (d4, 710, .inl (fun _ => 0))), (o0, .inl (co, 1, .inr (.inl (fun _ => 0))))] := hD
  have hK : va_K D vwCl [(cx, .byte), (cs, .int), (cp, .int), (ci, .int), (cu, .int), (cm, .int), (d0, .byte), (d1, .int), (d2, .int), (d3, .int), (d4, .int), (co, .long)] s := hK
  subst hw
  refine lv_icmp_eq (tgt := 1894) hx hb dL_law_1889 (by decide) (fun _ => ?_) (fun c9 => absurd rfl c9)
  refine W.widen (k := 2000) (n := 2000000) (Nat.le_of_ble_eq_true rfl) (Nat.le_of_ble_eq_true rfl) ?_
  exact law_tail l C0 hS (lv_sub hl [0, 4] rfl)
