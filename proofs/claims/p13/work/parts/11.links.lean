set_option maxRecDepth 100000 in
theorem cwa_thrown : tables_1_10[128]? = some (Cond.code yX12_thrown cX12_thrown 1 (some .int)) := rfl
theorem cw_thrown : Cond.code yX12_thrown cX12_thrown 1 (some .int) ∈ W0 := W0_in (tp_10 (List.mem_of_getElem? cwa_thrown)) rfl
set_option maxRecDepth 100000 in
theorem cwa_in : tables_1_10[135]? = some (Cond.code yX12_in cX12_in 3 (some .boolean)) := rfl
theorem cw_in : Cond.code yX12_in cX12_in 3 (some .boolean) ∈ W0 := W0_in (tp_10 (List.mem_of_getElem? cwa_in)) rfl
set_option maxRecDepth 100000 in
theorem cwa_refuses : tables_1_10[139]? = some (Cond.code yX12_refuses cX12_refuses 3 (some .boolean)) := rfl
theorem cw_refuses : Cond.code yX12_refuses cX12_refuses 3 (some .boolean) ∈ W0 := W0_in (tp_10 (List.mem_of_getElem? cwa_refuses)) rfl
set_option maxRecDepth 100000 in
theorem cwa_byteAt : tables_1_10[159]? = some (Cond.code yX12_byteAt cX12_byteAt 2 (some .int)) := rfl
theorem cw_byteAt : Cond.code yX12_byteAt cX12_byteAt 2 (some .int) ∈ W0 := W0_in (tp_10 (List.mem_of_getElem? cwa_byteAt)) rfl
set_option maxRecDepth 100000 in
theorem cwa_isLetter : tables_1_10[162]? = some (Cond.code yX12_isLetter cX12_isLetter 1 (some .boolean)) := rfl
theorem cw_isLetter : Cond.code yX12_isLetter cX12_isLetter 1 (some .boolean) ∈ W0 := W0_in (tp_10 (List.mem_of_getElem? cwa_isLetter)) rfl
set_option maxRecDepth 100000 in
theorem cwa_isDigit : tables_1_10[165]? = some (Cond.code yX12_isDigit cX12_isDigit 1 (some .boolean)) := rfl
theorem cw_isDigit : Cond.code yX12_isDigit cX12_isDigit 1 (some .boolean) ∈ W0 := W0_in (tp_10 (List.mem_of_getElem? cwa_isDigit)) rfl
set_option maxRecDepth 100000 in
theorem cwa_wordOf : tables_1_10[169]? = some (Cond.code yX12_wordOf cX12_wordOf 9 (some .int)) := rfl
theorem cw_wordOf : Cond.code yX12_wordOf cX12_wordOf 9 (some .int) ∈ W0 := W0_in (tp_10 (List.mem_of_getElem? cwa_wordOf)) rfl
set_option maxRecDepth 100000 in
theorem cwa_signOf : tables_1_10[183]? = some (Cond.code yX12_signOf cX12_signOf 3 (some .int)) := rfl
theorem cw_signOf : Cond.code yX12_signOf cX12_signOf 3 (some .int) ∈ W0 := W0_in (tp_10 (List.mem_of_getElem? cwa_signOf)) rfl
set_option maxRecDepth 100000 in
theorem cwa_put : tables_1_10[187]? = some (Cond.code yX12_put cX12_put 5 none) := rfl
theorem cw_put : Cond.code yX12_put cX12_put 5 none ∈ W0 := W0_in (tp_10 (List.mem_of_getElem? cwa_put)) rfl
set_option maxRecDepth 100000 in
theorem cwa_readTokens : tables_1_10[155]? = some (Cond.code yX12_readTokens cX12_readTokens 7 none) := rfl
theorem cw_readTokens : Cond.code yX12_readTokens cX12_readTokens 7 none ∈ W0 := W0_in (tp_10 (List.mem_of_getElem? cwa_readTokens)) rfl
set_option maxRecDepth 100000 in
theorem cwa_lineOf : tables_1_11[98]? = some (Cond.code yX12_lineOf cX12_lineOf 4 (some .int)) := rfl
theorem cw_lineOf : Cond.code yX12_lineOf cX12_lineOf 4 (some .int) ∈ W0 := W0_in (tp_11 (List.mem_of_getElem? cwa_lineOf)) rfl
set_option maxRecDepth 100000 in
theorem cwa_isSameName : tables_1_11[46]? = some (Cond.code yX12_isSameName cX12_isSameName 5 (some .boolean)) := rfl
theorem cw_isSameName : Cond.code yX12_isSameName cX12_isSameName 5 (some .boolean) ∈ W0 := W0_in (tp_11 (List.mem_of_getElem? cwa_isSameName)) rfl
set_option maxRecDepth 100000 in
theorem cwa_node : tables_1_11[23]? = some (Cond.code yX12_node cX12_node 6 (some .int)) := rfl
theorem cw_node : Cond.code yX12_node cX12_node 6 (some .int) ∈ W0 := W0_in (tp_11 (List.mem_of_getElem? cwa_node)) rfl
set_option maxRecDepth 100000 in
theorem cwa_fault : tables_1_10[211]? = some (Cond.code yX12_fault cX12_fault 3 none) := rfl
theorem cw_fault : Cond.code yX12_fault cX12_fault 3 none ∈ W0 := W0_in (tp_10 (List.mem_of_getElem? cwa_fault)) rfl
set_option maxRecDepth 100000 in
theorem cwa_here : tables_1_10[191]? = some (Cond.code yX12_here cX12_here 1 (some .int)) := rfl
theorem cw_here : Cond.code yX12_here cX12_here 1 (some .int) ∈ W0 := W0_in (tp_10 (List.mem_of_getElem? cwa_here)) rfl
set_option maxRecDepth 100000 in
theorem cwa_step : tables_1_10[207]? = some (Cond.code yX12_step cX12_step 1 none) := rfl
theorem cw_step : Cond.code yX12_step cX12_step 1 none ∈ W0 := W0_in (tp_10 (List.mem_of_getElem? cwa_step)) rfl
set_option maxRecDepth 100000 in
theorem cwa_pass : tables_1_10[215]? = some (Cond.code yX12_pass cX12_pass 2 none) := rfl
theorem cw_pass : Cond.code yX12_pass cX12_pass 2 none ∈ W0 := W0_in (tp_10 (List.mem_of_getElem? cwa_pass)) rfl
set_option maxRecDepth 100000 in
theorem cwa_take : tables_1_10[203]? = some (Cond.code yX12_take cX12_take 2 (some .boolean)) := rfl
theorem cw_take : Cond.code yX12_take cX12_take 2 (some .boolean) ∈ W0 := W0_in (tp_10 (List.mem_of_getElem? cwa_take)) rfl
set_option maxRecDepth 100000 in
theorem cwa_passName : tables_1_10[219]? = some (Cond.code yX12_passName cX12_passName 2 (some .int)) := rfl
theorem cw_passName : Cond.code yX12_passName cX12_passName 2 (some .int) ∈ W0 := W0_in (tp_10 (List.mem_of_getElem? cwa_passName)) rfl
set_option maxRecDepth 100000 in
theorem cwa_deeper : tables_1_10[239]? = some (Cond.code yX12_deeper cX12_deeper 1 (some .boolean)) := rfl
theorem cw_deeper : Cond.code yX12_deeper cX12_deeper 1 (some .boolean) ∈ W0 := W0_in (tp_10 (List.mem_of_getElem? cwa_deeper)) rfl
set_option maxRecDepth 100000 in
theorem cwa_beginsE : tables_1_11[19]? = some (Cond.code yX12_beginsE cX12_beginsE 3 (some .boolean)) := rfl
theorem cw_beginsE : Cond.code yX12_beginsE cX12_beginsE 3 (some .boolean) ∈ W0 := W0_in (tp_11 (List.mem_of_getElem? cwa_beginsE)) rfl
set_option maxRecDepth 100000 in
theorem cwa_strength : tables_1_11[30]? = some (Cond.code yX12_strength cX12_strength 1 (some .int)) := rfl
theorem cw_strength : Cond.code yX12_strength cX12_strength 1 (some .int) ∈ W0 := W0_in (tp_11 (List.mem_of_getElem? cwa_strength)) rfl
set_option maxRecDepth 100000 in
theorem cwa_readE : tables_1_11[15]? = some (Cond.code yX12_readE cX12_readE 7 (some .int)) := rfl
theorem cw_readE : Cond.code yX12_readE cX12_readE 7 (some .int) ∈ W0 := W0_in (tp_11 (List.mem_of_getElem? cwa_readE)) rfl
set_option maxRecDepth 100000 in
theorem cwa_readOperand : tables_1_11[27]? = some (Cond.code yX12_readOperand cX12_readOperand 5 (some .int)) := rfl
theorem cw_readOperand : Cond.code yX12_readOperand cX12_readOperand 5 (some .int) ∈ W0 := W0_in (tp_11 (List.mem_of_getElem? cwa_readOperand)) rfl
set_option maxRecDepth 100000 in
theorem cwa_readPlace : tables_1_11[11]? = some (Cond.code yX12_readPlace cX12_readPlace 3 (some .int)) := rfl
theorem cw_readPlace : Cond.code yX12_readPlace cX12_readPlace 3 (some .int) ∈ W0 := W0_in (tp_11 (List.mem_of_getElem? cwa_readPlace)) rfl
set_option maxRecDepth 100000 in
theorem cwa_readR : tables_1_11[7]? = some (Cond.code yX12_readR cX12_readR 6 (some .int)) := rfl
theorem cw_readR : Cond.code yX12_readR cX12_readR 6 (some .int) ∈ W0 := W0_in (tp_11 (List.mem_of_getElem? cwa_readR)) rfl
set_option maxRecDepth 100000 in
theorem cwa_beginsS : tables_1_10[231]? = some (Cond.code yX12_beginsS cX12_beginsS 2 (some .boolean)) := rfl
theorem cw_beginsS : Cond.code yX12_beginsS cX12_beginsS 2 (some .boolean) ∈ W0 := W0_in (tp_10 (List.mem_of_getElem? cwa_beginsS)) rfl
set_option maxRecDepth 100000 in
theorem cwa_readBlock : tables_1_10[227]? = some (Cond.code yX12_readBlock cX12_readBlock 5 (some .int)) := rfl
theorem cw_readBlock : Cond.code yX12_readBlock cX12_readBlock 5 (some .int) ∈ W0 := W0_in (tp_10 (List.mem_of_getElem? cwa_readBlock)) rfl
set_option maxRecDepth 100000 in
theorem cwa_readS : tables_1_10[235]? = some (Cond.code yX12_readS cX12_readS 2 (some .int)) := rfl
theorem cw_readS : Cond.code yX12_readS cX12_readS 2 (some .int) ∈ W0 := W0_in (tp_10 (List.mem_of_getElem? cwa_readS)) rfl
set_option maxRecDepth 100000 in
theorem cwa_readOneS : tables_1_11[3]? = some (Cond.code yX12_readOneS cX12_readOneS 13 (some .int)) := rfl
theorem cw_readOneS : Cond.code yX12_readOneS cX12_readOneS 13 (some .int) ∈ W0 := W0_in (tp_11 (List.mem_of_getElem? cwa_readOneS)) rfl
set_option maxRecDepth 100000 in
theorem cwa_readIf : tables_1_11[34]? = some (Cond.code yX12_readIf cX12_readIf 5 (some .int)) := rfl
theorem cw_readIf : Cond.code yX12_readIf cX12_readIf 5 (some .int) ∈ W0 := W0_in (tp_11 (List.mem_of_getElem? cwa_readIf)) rfl
set_option maxRecDepth 100000 in
theorem cwa_tell : tables_1_10[223]? = some (Cond.code yX12_tell cX12_tell 7 none) := rfl
theorem cw_tell : Cond.code yX12_tell cX12_tell 7 none ∈ W0 := W0_in (tp_10 (List.mem_of_getElem? cwa_tell)) rfl
set_option maxRecDepth 100000 in
theorem cwa_readCell : tables_1_10[199]? = some (Cond.code yX12_readCell cX12_readCell 8 none) := rfl
theorem cw_readCell : Cond.code yX12_readCell cX12_readCell 8 none ∈ W0 := W0_in (tp_10 (List.mem_of_getElem? cwa_readCell)) rfl
set_option maxRecDepth 100000 in
theorem cwa_readDef : tables_1_10[195]? = some (Cond.code yX12_readDef cX12_readDef 6 none) := rfl
theorem cw_readDef : Cond.code yX12_readDef cX12_readDef 6 none ∈ W0 := W0_in (tp_10 (List.mem_of_getElem? cwa_readDef)) rfl
set_option maxRecDepth 100000 in
theorem cwa_wrongAt : tables_1_11[50]? = some (Cond.code yX12_wrongAt cX12_wrongAt 3 none) := rfl
theorem cw_wrongAt : Cond.code yX12_wrongAt cX12_wrongAt 3 none ∈ W0 := W0_in (tp_11 (List.mem_of_getElem? cwa_wrongAt)) rfl
set_option maxRecDepth 100000 in
theorem cwa_toldOf : tables_1_11[42]? = some (Cond.code yX12_toldOf cX12_toldOf 3 (some .int)) := rfl
theorem cw_toldOf : Cond.code yX12_toldOf cX12_toldOf 3 (some .int) ∈ W0 := W0_in (tp_11 (List.mem_of_getElem? cwa_toldOf)) rfl
set_option maxRecDepth 100000 in
theorem cwa_meant : tables_1_11[86]? = some (Cond.code yX12_meant cX12_meant 4 (some .int)) := rfl
theorem cw_meant : Cond.code yX12_meant cX12_meant 4 (some .int) ∈ W0 := W0_in (tp_11 (List.mem_of_getElem? cwa_meant)) rfl
set_option maxRecDepth 100000 in
theorem cwa_slotOf : tables_1_11[70]? = some (Cond.code yX12_slotOf cX12_slotOf 3 (some .int)) := rfl
theorem cw_slotOf : Cond.code yX12_slotOf cX12_slotOf 3 (some .int) ∈ W0 := W0_in (tp_11 (List.mem_of_getElem? cwa_slotOf)) rfl
set_option maxRecDepth 100000 in
theorem cwa_knownMask : tables_1_11[94]? = some (Cond.code yX12_knownMask cX12_knownMask 3 (some .int)) := rfl
theorem cw_knownMask : Cond.code yX12_knownMask cX12_knownMask 3 (some .int) ∈ W0 := W0_in (tp_11 (List.mem_of_getElem? cwa_knownMask)) rfl
set_option maxRecDepth 100000 in
theorem cwa_lay : tables_1_11[82]? = some (Cond.code yX12_lay cX12_lay 3 none) := rfl
theorem cw_lay : Cond.code yX12_lay cX12_lay 3 none ∈ W0 := W0_in (tp_11 (List.mem_of_getElem? cwa_lay)) rfl
set_option maxRecDepth 100000 in
theorem cwa_layE : tables_1_11[78]? = some (Cond.code yX12_layE cX12_layE 9 none) := rfl
theorem cw_layE : Cond.code yX12_layE cX12_layE 9 none ∈ W0 := W0_in (tp_11 (List.mem_of_getElem? cwa_layE)) rfl
set_option maxRecDepth 100000 in
theorem cwa_workOf : tables_1_11[74]? = some (Cond.code yX12_workOf cX12_workOf 4 (some .int)) := rfl
theorem cw_workOf : Cond.code yX12_workOf cX12_workOf 4 (some .int) ∈ W0 := W0_in (tp_11 (List.mem_of_getElem? cwa_workOf)) rfl
set_option maxRecDepth 100000 in
theorem cwa_layStep : tables_1_11[90]? = some (Cond.code yX12_layStep cX12_layStep 3 (some .int)) := rfl
theorem cw_layStep : Cond.code yX12_layStep cX12_layStep 3 (some .int) ∈ W0 := W0_in (tp_11 (List.mem_of_getElem? cwa_layStep)) rfl
set_option maxRecDepth 100000 in
theorem cwa_layAct : tables_1_11[106]? = some (Cond.code yX12_layAct cX12_layAct 5 (some .int)) := rfl
theorem cw_layAct : Cond.code yX12_layAct cX12_layAct 5 (some .int) ∈ W0 := W0_in (tp_11 (List.mem_of_getElem? cwa_layAct)) rfl
set_option maxRecDepth 100000 in
theorem cwa_cellOf : tables_1_11[102]? = some (Cond.code yX12_cellOf cX12_cellOf 4 (some .int)) := rfl
theorem cw_cellOf : Cond.code yX12_cellOf cX12_cellOf 4 (some .int) ∈ W0 := W0_in (tp_11 (List.mem_of_getElem? cwa_cellOf)) rfl
set_option maxRecDepth 100000 in
theorem cwa_numberOf : tables_1_11[118]? = some (Cond.code yX12_numberOf cX12_numberOf 4 (some .int)) := rfl
theorem cw_numberOf : Cond.code yX12_numberOf cX12_numberOf 4 (some .int) ∈ W0 := W0_in (tp_11 (List.mem_of_getElem? cwa_numberOf)) rfl
set_option maxRecDepth 100000 in
theorem cwa_isCellAlone : tables_1_11[66]? = some (Cond.code yX12_isCellAlone cX12_isCellAlone 2 (some .boolean)) := rfl
theorem cw_isCellAlone : Cond.code yX12_isCellAlone cX12_isCellAlone 2 (some .boolean) ∈ W0 := W0_in (tp_11 (List.mem_of_getElem? cwa_isCellAlone)) rfl
set_option maxRecDepth 100000 in
theorem cwa_layR : tables_1_11[62]? = some (Cond.code yX12_layR cX12_layR 11 none) := rfl
theorem cw_layR : Cond.code yX12_layR cX12_layR 11 none ∈ W0 := W0_in (tp_11 (List.mem_of_getElem? cwa_layR)) rfl
set_option maxRecDepth 100000 in
theorem cwa_layBlock : tables_1_11[54]? = some (Cond.code yX12_layBlock cX12_layBlock 5 none) := rfl
theorem cw_layBlock : Cond.code yX12_layBlock cX12_layBlock 5 none ∈ W0 := W0_in (tp_11 (List.mem_of_getElem? cwa_layBlock)) rfl
set_option maxRecDepth 100000 in
theorem cwa_layS : tables_1_11[58]? = some (Cond.code yX12_layS cX12_layS 17 none) := rfl
theorem cw_layS : Cond.code yX12_layS cX12_layS 17 none ∈ W0 := W0_in (tp_11 (List.mem_of_getElem? cwa_layS)) rfl
set_option maxRecDepth 100000 in
theorem cwa_layWord : tables_1_11[122]? = some (Cond.code yX12_layWord cX12_layWord 7 none) := rfl
theorem cw_layWord : Cond.code yX12_layWord cX12_layWord 7 none ∈ W0 := W0_in (tp_11 (List.mem_of_getElem? cwa_layWord)) rfl
set_option maxRecDepth 100000 in
theorem cwa_laySet : tables_1_11[110]? = some (Cond.code yX12_laySet cX12_laySet 7 none) := rfl
theorem cw_laySet : Cond.code yX12_laySet cX12_laySet 7 none ∈ W0 := W0_in (tp_11 (List.mem_of_getElem? cwa_laySet)) rfl
set_option maxRecDepth 100000 in
theorem cwa_isCellName : tables_1_11[114]? = some (Cond.code yX12_isCellName cX12_isCellName 3 (some .boolean)) := rfl
theorem cw_isCellName : Cond.code yX12_isCellName cX12_isCellName 3 (some .boolean) ∈ W0 := W0_in (tp_11 (List.mem_of_getElem? cwa_isCellName)) rfl
set_option maxRecDepth 100000 in
theorem cwa_judge : tables_1_11[38]? = some (Cond.code yX12_judge cX12_judge 3 none) := rfl
theorem cw_judge : Cond.code yX12_judge cX12_judge 3 none ∈ W0 := W0_in (tp_11 (List.mem_of_getElem? cwa_judge)) rfl
set_option maxRecDepth 100000 in
theorem cwa_feed : tables_1_10[132]? = some (Cond.code yX12_feed cX12_feed 5 (some .int)) := rfl
theorem cw_feed : Cond.code yX12_feed cX12_feed 5 (some .int) ∈ W0 := W0_in (tp_10 (List.mem_of_getElem? cwa_feed)) rfl
set_option maxRecDepth 100000 in
theorem cwa_wipe : tables_1_10[147]? = some (Cond.code yX12_wipe cX12_wipe 2 (some .int)) := rfl
theorem cw_wipe : Cond.code yX12_wipe cX12_wipe 2 (some .int) ∈ W0 := W0_in (tp_10 (List.mem_of_getElem? cwa_wipe)) rfl
set_option maxRecDepth 100000 in
theorem cwa_forget : tables_1_10[143]? = some (Cond.code yX12_forget cX12_forget 1 none) := rfl
theorem cw_forget : Cond.code yX12_forget cX12_forget 1 none ∈ W0 := W0_in (tp_10 (List.mem_of_getElem? cwa_forget)) rfl
set_option maxRecDepth 100000 in
theorem cwa_compile : tables_1_10[151]? = some (Cond.code yX12_compile cX12_compile 1 (some .int)) := rfl
theorem cw_compile : Cond.code yX12_compile cX12_compile 1 (some .int) ∈ W0 := W0_in (tp_10 (List.mem_of_getElem? cwa_compile)) rfl
set_option maxRecDepth 100000 in
theorem cwa_fault_ : tables_1_11[126]? = some (Cond.code yX12_fault_ cX12_fault_ 2 (some .int)) := rfl
theorem cw_fault_ : Cond.code yX12_fault_ cX12_fault_ 2 (some .int) ∈ W0 := W0_in (tp_11 (List.mem_of_getElem? cwa_fault_)) rfl
set_option maxRecDepth 100000 in
theorem cwa_count : tables_1_11[130]? = some (Cond.code yX12_count cX12_count 2 (some .int)) := rfl
theorem cw_count : Cond.code yX12_count cX12_count 2 (some .int) ∈ W0 := W0_in (tp_11 (List.mem_of_getElem? cwa_count)) rfl
set_option maxRecDepth 100000 in
theorem cwa_worked : tables_1_11[154]? = some (Cond.code yX12_worked cX12_worked 6 (some .int)) := rfl
theorem cw_worked : Cond.code yX12_worked cX12_worked 6 (some .int) ∈ W0 := W0_in (tp_11 (List.mem_of_getElem? cwa_worked)) rfl
set_option maxRecDepth 100000 in
theorem cwa_one : tables_1_11[161]? = some (Cond.code yX12_one cX12_one 1 (some .int)) := rfl
theorem cw_one : Cond.code yX12_one cX12_one 1 (some .int) ∈ W0 := W0_in (tp_11 (List.mem_of_getElem? cwa_one)) rfl
set_option maxRecDepth 100000 in
theorem cwa_reckon : tables_1_11[158]? = some (Cond.code yX12_reckon cX12_reckon 4 (some .int)) := rfl
theorem cw_reckon : Cond.code yX12_reckon cX12_reckon 4 (some .int) ∈ W0 := W0_in (tp_11 (List.mem_of_getElem? cwa_reckon)) rfl
set_option maxRecDepth 100000 in
theorem cwa_failThread : tables_1_11[150]? = some (Cond.code yX12_failThread cX12_failThread 3 none) := rfl
theorem cw_failThread : Cond.code yX12_failThread cX12_failThread 3 none ∈ W0 := W0_in (tp_11 (List.mem_of_getElem? cwa_failThread)) rfl
set_option maxRecDepth 100000 in
theorem cwa_clean : tables_1_11[165]? = some (Cond.code yX12_clean cX12_clean 4 none) := rfl
theorem cw_clean : Cond.code yX12_clean cX12_clean 4 none ∈ W0 := W0_in (tp_11 (List.mem_of_getElem? cwa_clean)) rfl
set_option maxRecDepth 100000 in
theorem cwa_own : tables_1_11[146]? = some (Cond.code yX12_own cX12_own 6 none) := rfl
theorem cw_own : Cond.code yX12_own cX12_own 6 none ∈ W0 := W0_in (tp_11 (List.mem_of_getElem? cwa_own)) rfl
set_option maxRecDepth 100000 in
theorem cwa_setFirst : tables_1_11[142]? = some (Cond.code yX12_setFirst cX12_setFirst 3 none) := rfl
theorem cw_setFirst : Cond.code yX12_setFirst cX12_setFirst 3 none ∈ W0 := W0_in (tp_11 (List.mem_of_getElem? cwa_setFirst)) rfl
set_option maxRecDepth 100000 in
theorem cwa_isAtomic : tables_1_12[18]? = some (Cond.code yX12_isAtomic cX12_isAtomic 2 (some .boolean)) := rfl
theorem cw_isAtomic : Cond.code yX12_isAtomic cX12_isAtomic 2 (some .boolean) ∈ W0 := W0_in (tp_12 (List.mem_of_getElem? cwa_isAtomic)) rfl
set_option maxRecDepth 100000 in
theorem cwa_isAccess : tables_1_11[181]? = some (Cond.code yX12_isAccess cX12_isAccess 2 (some .boolean)) := rfl
theorem cw_isAccess : Cond.code yX12_isAccess cX12_isAccess 2 (some .boolean) ∈ W0 := W0_in (tp_11 (List.mem_of_getElem? cwa_isAccess)) rfl
set_option maxRecDepth 100000 in
theorem cwa_sortOf : tables_1_11[177]? = some (Cond.code yX12_sortOf cX12_sortOf 2 (some .int)) := rfl
theorem cw_sortOf : Cond.code yX12_sortOf cX12_sortOf 2 (some .int) ∈ W0 := W0_in (tp_11 (List.mem_of_getElem? cwa_sortOf)) rfl
set_option maxRecDepth 100000 in
theorem cwa_hasAct : tables_1_11[173]? = some (Cond.code yX12_hasAct cX12_hasAct 8 (some .boolean)) := rfl
theorem cw_hasAct : Cond.code yX12_hasAct cX12_hasAct 8 (some .boolean) ∈ W0 := W0_in (tp_11 (List.mem_of_getElem? cwa_hasAct)) rfl
set_option maxRecDepth 100000 in
theorem cwa_choose : tables_1_11[185]? = some (Cond.code yX12_choose cX12_choose 4 none) := rfl
theorem cw_choose : Cond.code yX12_choose cX12_choose 4 none ∈ W0 := W0_in (tp_11 (List.mem_of_getElem? cwa_choose)) rfl
set_option maxRecDepth 100000 in
theorem cwa_findChoices : tables_1_11[169]? = some (Cond.code yX12_findChoices cX12_findChoices 5 none) := rfl
theorem cw_findChoices : Cond.code yX12_findChoices cX12_findChoices 5 none ∈ W0 := W0_in (tp_11 (List.mem_of_getElem? cwa_findChoices)) rfl
set_option maxRecDepth 100000 in
theorem cwa_see : tables_1_11[221]? = some (Cond.code yX12_see cX12_see 5 (some .int)) := rfl
theorem cw_see : Cond.code yX12_see cX12_see 5 (some .int) ∈ W0 := W0_in (tp_11 (List.mem_of_getElem? cwa_see)) rfl
set_option maxRecDepth 100000 in
theorem cwa_lookAt : tables_1_11[201]? = some (Cond.code yX12_lookAt cX12_lookAt 5 none) := rfl
theorem cw_lookAt : Cond.code yX12_lookAt cX12_lookAt 5 none ∈ W0 := W0_in (tp_11 (List.mem_of_getElem? cwa_lookAt)) rfl
set_option maxRecDepth 100000 in
theorem cwa_doAct : tables_1_11[217]? = some (Cond.code yX12_doAct cX12_doAct 10 none) := rfl
theorem cw_doAct : Cond.code yX12_doAct cX12_doAct 10 none ∈ W0 := W0_in (tp_11 (List.mem_of_getElem? cwa_doAct)) rfl
set_option maxRecDepth 100000 in
theorem cwa_doLate : tables_1_11[213]? = some (Cond.code yX12_doLate cX12_doLate 4 none) := rfl
theorem cw_doLate : Cond.code yX12_doLate cX12_doLate 4 none ∈ W0 := W0_in (tp_11 (List.mem_of_getElem? cwa_doLate)) rfl
set_option maxRecDepth 100000 in
theorem cwa_isStuck : tables_1_12[6]? = some (Cond.code yX12_isStuck cX12_isStuck 3 (some .boolean)) := rfl
theorem cw_isStuck : Cond.code yX12_isStuck cX12_isStuck 3 (some .boolean) ∈ W0 := W0_in (tp_12 (List.mem_of_getElem? cwa_isStuck)) rfl
set_option maxRecDepth 100000 in
theorem cwa_startRun : tables_1_11[138]? = some (Cond.code yX12_startRun cX12_startRun 3 none) := rfl
theorem cw_startRun : Cond.code yX12_startRun cX12_startRun 3 none ∈ W0 := W0_in (tp_11 (List.mem_of_getElem? cwa_startRun)) rfl
set_option maxRecDepth 100000 in
theorem cwa_isSooner : tables_1_12[22]? = some (Cond.code yX12_isSooner cX12_isSooner 3 (some .boolean)) := rfl
theorem cw_isSooner : Cond.code yX12_isSooner cX12_isSooner 3 (some .boolean) ∈ W0 := W0_in (tp_12 (List.mem_of_getElem? cwa_isSooner)) rfl
set_option maxRecDepth 100000 in
theorem cwa_after : tables_1_11[229]? = some (Cond.code yX12_after cX12_after 4 none) := rfl
theorem cw_after : Cond.code yX12_after cX12_after 4 none ∈ W0 := W0_in (tp_11 (List.mem_of_getElem? cwa_after)) rfl
set_option maxRecDepth 100000 in
theorem cwa_order : tables_1_11[225]? = some (Cond.code yX12_order cX12_order 8 none) := rfl
theorem cw_order : Cond.code yX12_order cX12_order 8 none ∈ W0 := W0_in (tp_11 (List.mem_of_getElem? cwa_order)) rfl
set_option maxRecDepth 100000 in
theorem cwa_doChoice : tables_1_11[209]? = some (Cond.code yX12_doChoice cX12_doChoice 9 none) := rfl
theorem cw_doChoice : Cond.code yX12_doChoice cX12_doChoice 9 none ∈ W0 := W0_in (tp_11 (List.mem_of_getElem? cwa_doChoice)) rfl
set_option maxRecDepth 100000 in
theorem cwa_mayRace : tables_1_12[14]? = some (Cond.code yX12_mayRace cX12_mayRace 3 (some .boolean)) := rfl
theorem cw_mayRace : Cond.code yX12_mayRace cX12_mayRace 3 (some .boolean) ∈ W0 := W0_in (tp_12 (List.mem_of_getElem? cwa_mayRace)) rfl
set_option maxRecDepth 100000 in
theorem cwa_isRace : tables_1_12[10]? = some (Cond.code yX12_isRace cX12_isRace 3 (some .boolean)) := rfl
theorem cw_isRace : Cond.code yX12_isRace cX12_isRace 3 (some .boolean) ∈ W0 := W0_in (tp_12 (List.mem_of_getElem? cwa_isRace)) rfl
set_option maxRecDepth 100000 in
theorem cwa_noRun : tables_1_11[193]? = some (Cond.code yX12_noRun cX12_noRun 1 (some .boolean)) := rfl
theorem cw_noRun : Cond.code yX12_noRun cX12_noRun 1 (some .boolean) ∈ W0 := W0_in (tp_11 (List.mem_of_getElem? cwa_noRun)) rfl
set_option maxRecDepth 100000 in
theorem cwa_begin : tables_1_11[134]? = some (Cond.code yX12_begin cX12_begin 2 (some .int)) := rfl
theorem cw_begin : Cond.code yX12_begin cX12_begin 2 (some .int) ∈ W0 := W0_in (tp_11 (List.mem_of_getElem? cwa_begin)) rfl
set_option maxRecDepth 100000 in
theorem cwa_choices : tables_1_11[189]? = some (Cond.code yX12_choices cX12_choices 1 (some .int)) := rfl
theorem cw_choices : Cond.code yX12_choices cX12_choices 1 (some .int) ∈ W0 := W0_in (tp_11 (List.mem_of_getElem? cwa_choices)) rfl
set_option maxRecDepth 100000 in
theorem cwa_choice : tables_1_11[197]? = some (Cond.code yX12_choice cX12_choice 5 (some .int)) := rfl
theorem cw_choice : Cond.code yX12_choice cX12_choice 5 (some .int) ∈ W0 := W0_in (tp_11 (List.mem_of_getElem? cwa_choice)) rfl
set_option maxRecDepth 100000 in
theorem cwa_go : tables_1_11[205]? = some (Cond.code yX12_go cX12_go 2 (some .int)) := rfl
theorem cw_go : Cond.code yX12_go cX12_go 2 (some .int) ∈ W0 := W0_in (tp_11 (List.mem_of_getElem? cwa_go)) rfl
set_option maxRecDepth 100000 in
theorem cwa_draw : tables_1_11[233]? = some (Cond.code yX12_draw cX12_draw 5 (some .int)) := rfl
theorem cw_draw : Cond.code yX12_draw cX12_draw 5 (some .int) ∈ W0 := W0_in (tp_11 (List.mem_of_getElem? cwa_draw)) rfl
set_option maxRecDepth 100000 in
theorem cwa_again : tables_1_11[238]? = some (Cond.code yX12_again cX12_again 3 (some .int)) := rfl
theorem cw_again : Cond.code yX12_again cX12_again 3 (some .int) ∈ W0 := W0_in (tp_11 (List.mem_of_getElem? cwa_again)) rfl
set_option maxRecDepth 100000 in
theorem cwa_run : tables_1_12[2]? = some (Cond.code yX12_run cX12_run 5 (some .int)) := rfl
theorem cw_run : Cond.code yX12_run cX12_run 5 (some .int) ∈ W0 := W0_in (tp_12 (List.mem_of_getElem? cwa_run)) rfl
set_option maxRecDepth 100000 in
theorem cwa_cell : tables_1_12[26]? = some (Cond.code yX12_cell cX12_cell 2 (some .int)) := rfl
theorem cw_cell : Cond.code yX12_cell cX12_cell 2 (some .int) ∈ W0 := W0_in (tp_12 (List.mem_of_getElem? cwa_cell)) rfl
set_option maxRecDepth 100000 in
theorem cwa_seen : tables_1_12[30]? = some (Cond.code yX12_seen cX12_seen 3 (some .int)) := rfl
theorem cw_seen : Cond.code yX12_seen cX12_seen 3 (some .int) ∈ W0 := W0_in (tp_12 (List.mem_of_getElem? cwa_seen)) rfl
set_option maxRecDepth 100000 in
theorem cwa_lock : tables_1_12[34]? = some (Cond.code yX12_lock cX12_lock 5 (some .int)) := rfl
theorem cw_lock : Cond.code yX12_lock cX12_lock 5 (some .int) ∈ W0 := W0_in (tp_12 (List.mem_of_getElem? cwa_lock)) rfl
set_option maxRecDepth 100000 in
theorem cwa_knownOf : tables_1_12[42]? = some (Cond.code yX12_knownOf cX12_knownOf 2 (some .int)) := rfl
theorem cw_knownOf : Cond.code yX12_knownOf cX12_knownOf 2 (some .int) ∈ W0 := W0_in (tp_12 (List.mem_of_getElem? cwa_knownOf)) rfl
set_option maxRecDepth 100000 in
theorem cwa_ones : tables_1_12[45]? = some (Cond.code yX12_ones cX12_ones 3 (some .int)) := rfl
theorem cw_ones : Cond.code yX12_ones cX12_ones 3 (some .int) ∈ W0 := W0_in (tp_12 (List.mem_of_getElem? cwa_ones)) rfl
set_option maxRecDepth 100000 in
theorem cwa_thread : tables_1_12[38]? = some (Cond.code yX12_thread cX12_thread 3 (some .int)) := rfl
theorem cw_thread : Cond.code yX12_thread cX12_thread 3 (some .int) ∈ W0 := W0_in (tp_12 (List.mem_of_getElem? cwa_thread)) rfl
set_option maxRecDepth 100000 in
theorem cwa_local : tables_1_12[49]? = some (Cond.code yX12_local cX12_local 6 (some .int)) := rfl
theorem cw_local : Cond.code yX12_local cX12_local 6 (some .int) ∈ W0 := W0_in (tp_12 (List.mem_of_getElem? cwa_local)) rfl
set_option maxRecDepth 100000 in
theorem cwa_act : tables_1_12[53]? = some (Cond.code yX12_act cX12_act 3 (some .int)) := rfl
theorem cw_act : Cond.code yX12_act cX12_act 3 (some .int) ∈ W0 := W0_in (tp_12 (List.mem_of_getElem? cwa_act)) rfl
set_option maxRecDepth 100000 in
theorem cwa_before : tables_1_12[57]? = some (Cond.code yX12_before cX12_before 3 (some .boolean)) := rfl
theorem cw_before : Cond.code yX12_before cX12_before 3 (some .boolean) ∈ W0 := W0_in (tp_12 (List.mem_of_getElem? cwa_before)) rfl
set_option maxRecDepth 100000 in
theorem cwa_race : tables_1_12[61]? = some (Cond.code yX12_race cX12_race 6 (some .int)) := rfl
theorem cw_race : Cond.code yX12_race cX12_race 6 (some .int) ∈ W0 := W0_in (tp_12 (List.mem_of_getElem? cwa_race)) rfl
set_option maxRecDepth 100000 in
theorem cwa_takeCalls : tables_1_12[69]? = some (Cond.code yX12_takeCalls cX12_takeCalls 5 (some .int)) := rfl
theorem cw_takeCalls : Cond.code yX12_takeCalls cX12_takeCalls 5 (some .int) ∈ W0 := W0_in (tp_12 (List.mem_of_getElem? cwa_takeCalls)) rfl
set_option maxRecDepth 100000 in
theorem cwa_answer : tables_1_12[85]? = some (Cond.code yX12_answer cX12_answer 7 (some .int)) := rfl
theorem cw_answer : Cond.code yX12_answer cX12_answer 7 (some .int) ∈ W0 := W0_in (tp_12 (List.mem_of_getElem? cwa_answer)) rfl
set_option maxRecDepth 100000 in
theorem cwa_fits : tables_1_12[81]? = some (Cond.code yX12_fits cX12_fits 7 (some .boolean)) := rfl
theorem cw_fits : Cond.code yX12_fits cX12_fits 7 (some .boolean) ∈ W0 := W0_in (tp_12 (List.mem_of_getElem? cwa_fits)) rfl
set_option maxRecDepth 100000 in
theorem cwa_mayCome : tables_1_12[77]? = some (Cond.code yX12_mayCome cX12_mayCome 4 (some .boolean)) := rfl
theorem cw_mayCome : Cond.code yX12_mayCome cX12_mayCome 4 (some .boolean) ∈ W0 := W0_in (tp_12 (List.mem_of_getElem? cwa_mayCome)) rfl
set_option maxRecDepth 100000 in
theorem cwa_isLinear : tables_1_12[73]? = some (Cond.code yX12_isLinear cX12_isLinear 7 (some .boolean)) := rfl
theorem cw_isLinear : Cond.code yX12_isLinear cX12_isLinear 7 (some .boolean) ∈ W0 := W0_in (tp_12 (List.mem_of_getElem? cwa_isLinear)) rfl
set_option maxRecDepth 100000 in
theorem cwa_linear : tables_1_12[65]? = some (Cond.code yX12_linear cX12_linear 5 (some .int)) := rfl
theorem cw_linear : Cond.code yX12_linear cX12_linear 5 (some .int) ∈ W0 := W0_in (tp_12 (List.mem_of_getElem? cwa_linear)) rfl
set_option maxRecDepth 100000 in
theorem cwa_pack : tables_1_12[93]? = some (Cond.code yX12_pack cX12_pack 6 none) := rfl
theorem cw_pack : Cond.code yX12_pack cX12_pack 6 none ∈ W0 := W0_in (tp_12 (List.mem_of_getElem? cwa_pack)) rfl
set_option maxRecDepth 100000 in
theorem cwa_unpack : tables_1_12[126]? = some (Cond.code yX12_unpack cX12_unpack 6 none) := rfl
theorem cw_unpack : Cond.code yX12_unpack cX12_unpack 6 none ∈ W0 := W0_in (tp_12 (List.mem_of_getElem? cwa_unpack)) rfl
set_option maxRecDepth 100000 in
theorem cwa_seek : tables_1_12[105]? = some (Cond.code yX12_seek cX12_seek 7 (some .int)) := rfl
theorem cw_seek : Cond.code yX12_seek cX12_seek 7 (some .int) ∈ W0 := W0_in (tp_12 (List.mem_of_getElem? cwa_seek)) rfl
set_option maxRecDepth 100000 in
theorem cwa_find : tables_1_12[113]? = some (Cond.code yX12_find cX12_find 4 none) := rfl
theorem cw_find : Cond.code yX12_find cX12_find 4 none ∈ W0 := W0_in (tp_12 (List.mem_of_getElem? cwa_find)) rfl
set_option maxRecDepth 100000 in
theorem cwa_locksOf : tables_1_12[122]? = some (Cond.code yX12_locksOf cX12_locksOf 4 (some .int)) := rfl
theorem cw_locksOf : Cond.code yX12_locksOf cX12_locksOf 4 (some .int) ∈ W0 := W0_in (tp_12 (List.mem_of_getElem? cwa_locksOf)) rfl
set_option maxRecDepth 100000 in
theorem cwa_addOutcome : tables_1_12[117]? = some (Cond.code yX12_addOutcome cX12_addOutcome 5 none) := rfl
theorem cw_addOutcome : Cond.code yX12_addOutcome cX12_addOutcome 5 none ∈ W0 := W0_in (tp_12 (List.mem_of_getElem? cwa_addOutcome)) rfl
set_option maxRecDepth 100000 in
theorem cwa_look : tables_1_12[109]? = some (Cond.code yX12_look cX12_look 12 none) := rfl
theorem cw_look : Cond.code yX12_look cX12_look 12 none ∈ W0 := W0_in (tp_12 (List.mem_of_getElem? cwa_look)) rfl
set_option maxRecDepth 100000 in
theorem cwa_isLess : tables_1_12[134]? = some (Cond.code yX12_isLess cX12_isLess 4 (some .boolean)) := rfl
theorem cw_isLess : Cond.code yX12_isLess cX12_isLess 4 (some .boolean) ∈ W0 := W0_in (tp_12 (List.mem_of_getElem? cwa_isLess)) rfl
set_option maxRecDepth 100000 in
theorem cwa_sortOutcomes : tables_1_12[130]? = some (Cond.code yX12_sortOutcomes cX12_sortOutcomes 7 none) := rfl
theorem cw_sortOutcomes : Cond.code yX12_sortOutcomes cX12_sortOutcomes 7 none ∈ W0 := W0_in (tp_12 (List.mem_of_getElem? cwa_sortOutcomes)) rfl
set_option maxRecDepth 100000 in
theorem cwa_forgetTrying : tables_1_12[101]? = some (Cond.code yX12_forgetTrying cX12_forgetTrying 3 none) := rfl
theorem cw_forgetTrying : Cond.code yX12_forgetTrying cX12_forgetTrying 3 none ∈ W0 := W0_in (tp_12 (List.mem_of_getElem? cwa_forgetTrying)) rfl
set_option maxRecDepth 100000 in
theorem cwa_tryAll : tables_1_12[97]? = some (Cond.code yX12_tryAll cX12_tryAll 7 none) := rfl
theorem cw_tryAll : Cond.code yX12_tryAll cX12_tryAll 7 none ∈ W0 := W0_in (tp_12 (List.mem_of_getElem? cwa_tryAll)) rfl
set_option maxRecDepth 100000 in
theorem cwa_attempt : tables_1_12[89]? = some (Cond.code yX12_attempt cX12_attempt 4 (some .int)) := rfl
theorem cw_attempt : Cond.code yX12_attempt cX12_attempt 4 (some .int) ∈ W0 := W0_in (tp_12 (List.mem_of_getElem? cwa_attempt)) rfl
set_option maxRecDepth 100000 in
theorem cwa_tried : tables_1_12[138]? = some (Cond.code yX12_tried cX12_tried 3 (some .int)) := rfl
theorem cw_tried : Cond.code yX12_tried cX12_tried 3 (some .int) ∈ W0 := W0_in (tp_12 (List.mem_of_getElem? cwa_tried)) rfl
set_option maxRecDepth 100000 in
theorem cwa_outcome : tables_1_12[142]? = some (Cond.code yX12_outcome cX12_outcome 4 (some .int)) := rfl
theorem cw_outcome : Cond.code yX12_outcome cX12_outcome 4 (some .int) ∈ W0 := W0_in (tp_12 (List.mem_of_getElem? cwa_outcome)) rfl
set_option maxRecDepth 100000 in
theorem cwa_finding : tables_1_12[146]? = some (Cond.code yX12_finding cX12_finding 4 (some .int)) := rfl
theorem cw_finding : Cond.code yX12_finding cX12_finding 4 (some .int) ∈ W0 := W0_in (tp_12 (List.mem_of_getElem? cwa_finding)) rfl
set_option maxRecDepth 100000 in
theorem cwa_show : tables_1_12[150]? = some (Cond.code yX12_show cX12_show 6 (some .int)) := rfl
theorem cw_show : Cond.code yX12_show cX12_show 6 (some .int) ∈ W0 := W0_in (tp_12 (List.mem_of_getElem? cwa_show)) rfl
set_option maxRecDepth 100000 in
theorem cwa_common : tables_1_12[154]? = some (Cond.code yX12_common cX12_common 3 (some .int)) := rfl
theorem cw_common : Cond.code yX12_common cX12_common 3 (some .int) ∈ W0 := W0_in (tp_12 (List.mem_of_getElem? cwa_common)) rfl
set_option maxRecDepth 100000 in
theorem cwa_ring : tables_1_12[158]? = some (Cond.code yX12_ring cX12_ring 8 (some .int)) := rfl
theorem cw_ring : Cond.code yX12_ring cX12_ring 8 (some .int) ∈ W0 := W0_in (tp_12 (List.mem_of_getElem? cwa_ring)) rfl
set_option maxRecDepth 100000 in
theorem cwa_alike : tables_1_12[162]? = some (Cond.code yX12_alike cX12_alike 2 (some .int)) := rfl
theorem cw_alike : Cond.code yX12_alike cX12_alike 2 (some .int) ∈ W0 := W0_in (tp_12 (List.mem_of_getElem? cwa_alike)) rfl
theorem cs_322 : gMs RX12 322 z_in 3 := ⟨⟨W0_in (tp_10 (List.mem_of_getElem? (i := 133) (by decide +kernel))) rfl, W0_in (tp_10 (List.mem_of_getElem? (i := 134) (by decide +kernel))) rfl, W0_in (tp_1 (List.mem_of_getElem? (i := 10) (by decide +kernel))) rfl, cw_in⟩, ⟨by decide, by decide, by decide +kernel⟩, by decide, by decide⟩
theorem cv_338 : gMv RX12 338 z_byteAt 1 := ⟨⟨W0_in (tp_10 (List.mem_of_getElem? (i := 156) (by decide +kernel))) rfl, W0_in (tp_10 (List.mem_of_getElem? (i := 158) (by decide +kernel))) rfl, W0_in (List.mem_of_getElem? (i := 116) (by decide +kernel)) rfl, W0_in (tp_1 (List.mem_of_getElem? (i := 10) (by decide +kernel))) rfl, cw_byteAt⟩, ⟨by decide, by decide, by decide +kernel⟩, by decide, by decide⟩
theorem cs_345 : gMs RX12 345 z_isLetter 1 := ⟨⟨W0_in (tp_10 (List.mem_of_getElem? (i := 160) (by decide +kernel))) rfl, W0_in (tp_10 (List.mem_of_getElem? (i := 161) (by decide +kernel))) rfl, W0_in (tp_1 (List.mem_of_getElem? (i := 10) (by decide +kernel))) rfl, cw_isLetter⟩, ⟨by decide, by decide, by decide +kernel⟩, by decide, by decide⟩
theorem cs_349 : gMs RX12 349 z_isDigit 1 := ⟨⟨W0_in (tp_10 (List.mem_of_getElem? (i := 163) (by decide +kernel))) rfl, W0_in (tp_10 (List.mem_of_getElem? (i := 164) (by decide +kernel))) rfl, W0_in (tp_1 (List.mem_of_getElem? (i := 10) (by decide +kernel))) rfl, cw_isDigit⟩, ⟨by decide, by decide, by decide +kernel⟩, by decide, by decide⟩
theorem cv_352 : gMv RX12 352 z_wordOf 2 := ⟨⟨W0_in (tp_10 (List.mem_of_getElem? (i := 166) (by decide +kernel))) rfl, W0_in (tp_10 (List.mem_of_getElem? (i := 168) (by decide +kernel))) rfl, W0_in (List.mem_of_getElem? (i := 117) (by decide +kernel)) rfl, W0_in (tp_1 (List.mem_of_getElem? (i := 10) (by decide +kernel))) rfl, cw_wordOf⟩, ⟨by decide, by decide, by decide +kernel⟩, by decide, by decide⟩
theorem cv_356 : gMv RX12 356 z_signOf 2 := ⟨⟨W0_in (tp_10 (List.mem_of_getElem? (i := 180) (by decide +kernel))) rfl, W0_in (tp_10 (List.mem_of_getElem? (i := 182) (by decide +kernel))) rfl, W0_in (List.mem_of_getElem? (i := 118) (by decide +kernel)) rfl, W0_in (tp_1 (List.mem_of_getElem? (i := 10) (by decide +kernel))) rfl, cw_signOf⟩, ⟨by decide, by decide, by decide +kernel⟩, by decide, by decide⟩
theorem cv_359 : gMv RX12 359 z_put 4 := ⟨⟨W0_in (tp_10 (List.mem_of_getElem? (i := 184) (by decide +kernel))) rfl, W0_in (tp_10 (List.mem_of_getElem? (i := 186) (by decide +kernel))) rfl, W0_in (List.mem_of_getElem? (i := 119) (by decide +kernel)) rfl, W0_in (tp_1 (List.mem_of_getElem? (i := 10) (by decide +kernel))) rfl, cw_put⟩, ⟨by decide, by decide, by decide +kernel⟩, by decide, by decide⟩
theorem cv_375 : gMv RX12 375 z_fault 2 := ⟨⟨W0_in (tp_10 (List.mem_of_getElem? (i := 208) (by decide +kernel))) rfl, W0_in (tp_10 (List.mem_of_getElem? (i := 210) (by decide +kernel))) rfl, W0_in (List.mem_of_getElem? (i := 125) (by decide +kernel)) rfl, W0_in (tp_1 (List.mem_of_getElem? (i := 10) (by decide +kernel))) rfl, cw_fault⟩, ⟨by decide, by decide, by decide +kernel⟩, by decide, by decide⟩
theorem cv_379 : gMv RX12 379 z_step 0 := ⟨⟨W0_in (tp_10 (List.mem_of_getElem? (i := 204) (by decide +kernel))) rfl, W0_in (tp_10 (List.mem_of_getElem? (i := 206) (by decide +kernel))) rfl, W0_in (List.mem_of_getElem? (i := 124) (by decide +kernel)) rfl, W0_in (tp_1 (List.mem_of_getElem? (i := 10) (by decide +kernel))) rfl, cw_step⟩, ⟨by decide, by decide, by decide +kernel⟩, by decide, by decide⟩
theorem cv_382 : gMv RX12 382 z_pass 1 := ⟨⟨W0_in (tp_10 (List.mem_of_getElem? (i := 212) (by decide +kernel))) rfl, W0_in (tp_10 (List.mem_of_getElem? (i := 214) (by decide +kernel))) rfl, W0_in (List.mem_of_getElem? (i := 126) (by decide +kernel)) rfl, W0_in (tp_1 (List.mem_of_getElem? (i := 10) (by decide +kernel))) rfl, cw_pass⟩, ⟨by decide, by decide, by decide +kernel⟩, by decide, by decide⟩
theorem cv_389 : gMv RX12 389 z_here 0 := ⟨⟨W0_in (tp_10 (List.mem_of_getElem? (i := 188) (by decide +kernel))) rfl, W0_in (tp_10 (List.mem_of_getElem? (i := 190) (by decide +kernel))) rfl, W0_in (List.mem_of_getElem? (i := 120) (by decide +kernel)) rfl, W0_in (tp_1 (List.mem_of_getElem? (i := 10) (by decide +kernel))) rfl, cw_here⟩, ⟨by decide, by decide, by decide +kernel⟩, by decide, by decide⟩
theorem cv_392 : gMv RX12 392 z_beginsE 1 := ⟨⟨W0_in (tp_11 (List.mem_of_getElem? (i := 16) (by decide +kernel))) rfl, W0_in (tp_11 (List.mem_of_getElem? (i := 18) (by decide +kernel))) rfl, W0_in (List.mem_of_getElem? (i := 137) (by decide +kernel)) rfl, W0_in (tp_1 (List.mem_of_getElem? (i := 10) (by decide +kernel))) rfl, cw_beginsE⟩, ⟨by decide, by decide, by decide +kernel⟩, by decide, by decide⟩
theorem cv_396 : gMv RX12 396 z_deeper 0 := ⟨⟨W0_in (tp_10 (List.mem_of_getElem? (i := 236) (by decide +kernel))) rfl, W0_in (tp_10 (List.mem_of_getElem? (i := 238) (by decide +kernel))) rfl, W0_in (List.mem_of_getElem? (i := 132) (by decide +kernel)) rfl, W0_in (tp_1 (List.mem_of_getElem? (i := 10) (by decide +kernel))) rfl, cw_deeper⟩, ⟨by decide, by decide, by decide +kernel⟩, by decide, by decide⟩
theorem cv_400 : gMv RX12 400 z_readE 2 := ⟨⟨W0_in (tp_11 (List.mem_of_getElem? (i := 12) (by decide +kernel))) rfl, W0_in (tp_11 (List.mem_of_getElem? (i := 14) (by decide +kernel))) rfl, W0_in (List.mem_of_getElem? (i := 136) (by decide +kernel)) rfl, W0_in (tp_1 (List.mem_of_getElem? (i := 10) (by decide +kernel))) rfl, cw_readE⟩, ⟨by decide, by decide, by decide +kernel⟩, by decide, by decide⟩
theorem cv_404 : gMv RX12 404 z_node 5 := ⟨⟨W0_in (tp_11 (List.mem_of_getElem? (i := 20) (by decide +kernel))) rfl, W0_in (tp_11 (List.mem_of_getElem? (i := 22) (by decide +kernel))) rfl, W0_in (List.mem_of_getElem? (i := 138) (by decide +kernel)) rfl, W0_in (tp_1 (List.mem_of_getElem? (i := 10) (by decide +kernel))) rfl, cw_node⟩, ⟨by decide, by decide, by decide +kernel⟩, by decide, by decide⟩
theorem cv_408 : gMv RX12 408 z_readOperand 1 := ⟨⟨W0_in (tp_11 (List.mem_of_getElem? (i := 24) (by decide +kernel))) rfl, W0_in (tp_11 (List.mem_of_getElem? (i := 26) (by decide +kernel))) rfl, W0_in (List.mem_of_getElem? (i := 139) (by decide +kernel)) rfl, W0_in (tp_1 (List.mem_of_getElem? (i := 10) (by decide +kernel))) rfl, cw_readOperand⟩, ⟨by decide, by decide, by decide +kernel⟩, by decide, by decide⟩
theorem cs_412 : gMs RX12 412 z_strength 1 := ⟨⟨W0_in (tp_11 (List.mem_of_getElem? (i := 28) (by decide +kernel))) rfl, W0_in (tp_11 (List.mem_of_getElem? (i := 29) (by decide +kernel))) rfl, W0_in (tp_1 (List.mem_of_getElem? (i := 10) (by decide +kernel))) rfl, cw_strength⟩, ⟨by decide, by decide, by decide +kernel⟩, by decide, by decide⟩
theorem cv_415 : gMv RX12 415 z_take 1 := ⟨⟨W0_in (tp_10 (List.mem_of_getElem? (i := 200) (by decide +kernel))) rfl, W0_in (tp_10 (List.mem_of_getElem? (i := 202) (by decide +kernel))) rfl, W0_in (List.mem_of_getElem? (i := 123) (by decide +kernel)) rfl, W0_in (tp_1 (List.mem_of_getElem? (i := 10) (by decide +kernel))) rfl, cw_take⟩, ⟨by decide, by decide, by decide +kernel⟩, by decide, by decide⟩
theorem cv_418 : gMv RX12 418 z_passName 0 := ⟨⟨W0_in (tp_10 (List.mem_of_getElem? (i := 216) (by decide +kernel))) rfl, W0_in (tp_10 (List.mem_of_getElem? (i := 218) (by decide +kernel))) rfl, W0_in (List.mem_of_getElem? (i := 127) (by decide +kernel)) rfl, W0_in (tp_1 (List.mem_of_getElem? (i := 10) (by decide +kernel))) rfl, cw_passName⟩, ⟨by decide, by decide, by decide +kernel⟩, by decide, by decide⟩
theorem cv_421 : gMv RX12 421 z_readPlace 0 := ⟨⟨W0_in (tp_11 (List.mem_of_getElem? (i := 8) (by decide +kernel))) rfl, W0_in (tp_11 (List.mem_of_getElem? (i := 10) (by decide +kernel))) rfl, W0_in (List.mem_of_getElem? (i := 135) (by decide +kernel)) rfl, W0_in (tp_1 (List.mem_of_getElem? (i := 10) (by decide +kernel))) rfl, cw_readPlace⟩, ⟨by decide, by decide, by decide +kernel⟩, by decide, by decide⟩
theorem cv_424 : gMv RX12 424 z_beginsS 0 := ⟨⟨W0_in (tp_10 (List.mem_of_getElem? (i := 228) (by decide +kernel))) rfl, W0_in (tp_10 (List.mem_of_getElem? (i := 230) (by decide +kernel))) rfl, W0_in (List.mem_of_getElem? (i := 130) (by decide +kernel)) rfl, W0_in (tp_1 (List.mem_of_getElem? (i := 10) (by decide +kernel))) rfl, cw_beginsS⟩, ⟨by decide, by decide, by decide +kernel⟩, by decide, by decide⟩
theorem cv_427 : gMv RX12 427 z_readS 0 := ⟨⟨W0_in (tp_10 (List.mem_of_getElem? (i := 232) (by decide +kernel))) rfl, W0_in (tp_10 (List.mem_of_getElem? (i := 234) (by decide +kernel))) rfl, W0_in (List.mem_of_getElem? (i := 131) (by decide +kernel)) rfl, W0_in (tp_1 (List.mem_of_getElem? (i := 10) (by decide +kernel))) rfl, cw_readS⟩, ⟨by decide, by decide, by decide +kernel⟩, by decide, by decide⟩
theorem cv_430 : gMv RX12 430 z_readOneS 0 := ⟨⟨W0_in (tp_11 (List.mem_of_getElem? (i := 0) (by decide +kernel))) rfl, W0_in (tp_11 (List.mem_of_getElem? (i := 2) (by decide +kernel))) rfl, W0_in (List.mem_of_getElem? (i := 133) (by decide +kernel)) rfl, W0_in (tp_1 (List.mem_of_getElem? (i := 10) (by decide +kernel))) rfl, cw_readOneS⟩, ⟨by decide, by decide, by decide +kernel⟩, by decide, by decide⟩
theorem cv_436 : gMv RX12 436 z_readR 0 := ⟨⟨W0_in (tp_11 (List.mem_of_getElem? (i := 4) (by decide +kernel))) rfl, W0_in (tp_11 (List.mem_of_getElem? (i := 6) (by decide +kernel))) rfl, W0_in (List.mem_of_getElem? (i := 134) (by decide +kernel)) rfl, W0_in (tp_1 (List.mem_of_getElem? (i := 10) (by decide +kernel))) rfl, cw_readR⟩, ⟨by decide, by decide, by decide +kernel⟩, by decide, by decide⟩
theorem cv_439 : gMv RX12 439 z_readIf 0 := ⟨⟨W0_in (tp_11 (List.mem_of_getElem? (i := 31) (by decide +kernel))) rfl, W0_in (tp_11 (List.mem_of_getElem? (i := 33) (by decide +kernel))) rfl, W0_in (List.mem_of_getElem? (i := 140) (by decide +kernel)) rfl, W0_in (tp_1 (List.mem_of_getElem? (i := 10) (by decide +kernel))) rfl, cw_readIf⟩, ⟨by decide, by decide, by decide +kernel⟩, by decide, by decide⟩
theorem cv_442 : gMv RX12 442 z_readBlock 0 := ⟨⟨W0_in (tp_10 (List.mem_of_getElem? (i := 224) (by decide +kernel))) rfl, W0_in (tp_10 (List.mem_of_getElem? (i := 226) (by decide +kernel))) rfl, W0_in (List.mem_of_getElem? (i := 129) (by decide +kernel)) rfl, W0_in (tp_1 (List.mem_of_getElem? (i := 10) (by decide +kernel))) rfl, cw_readBlock⟩, ⟨by decide, by decide, by decide +kernel⟩, by decide, by decide⟩
theorem cv_451 : gMv RX12 451 z_tell 6 := ⟨⟨W0_in (tp_10 (List.mem_of_getElem? (i := 220) (by decide +kernel))) rfl, W0_in (tp_10 (List.mem_of_getElem? (i := 222) (by decide +kernel))) rfl, W0_in (List.mem_of_getElem? (i := 128) (by decide +kernel)) rfl, W0_in (tp_1 (List.mem_of_getElem? (i := 10) (by decide +kernel))) rfl, cw_tell⟩, ⟨by decide, by decide, by decide +kernel⟩, by decide, by decide⟩
theorem cv_455 : gMv RX12 455 z_readCell 0 := ⟨⟨W0_in (tp_10 (List.mem_of_getElem? (i := 196) (by decide +kernel))) rfl, W0_in (tp_10 (List.mem_of_getElem? (i := 198) (by decide +kernel))) rfl, W0_in (List.mem_of_getElem? (i := 122) (by decide +kernel)) rfl, W0_in (tp_1 (List.mem_of_getElem? (i := 10) (by decide +kernel))) rfl, cw_readCell⟩, ⟨by decide, by decide, by decide +kernel⟩, by decide, by decide⟩
theorem cv_476 : gMv RX12 476 z_isSameName 2 := ⟨⟨W0_in (tp_11 (List.mem_of_getElem? (i := 43) (by decide +kernel))) rfl, W0_in (tp_11 (List.mem_of_getElem? (i := 45) (by decide +kernel))) rfl, W0_in (List.mem_of_getElem? (i := 143) (by decide +kernel)) rfl, W0_in (tp_1 (List.mem_of_getElem? (i := 10) (by decide +kernel))) rfl, cw_isSameName⟩, ⟨by decide, by decide, by decide +kernel⟩, by decide, by decide⟩
theorem cv_486 : gMv RX12 486 z_lay 2 := ⟨⟨W0_in (tp_11 (List.mem_of_getElem? (i := 79) (by decide +kernel))) rfl, W0_in (tp_11 (List.mem_of_getElem? (i := 81) (by decide +kernel))) rfl, W0_in (List.mem_of_getElem? (i := 152) (by decide +kernel)) rfl, W0_in (tp_1 (List.mem_of_getElem? (i := 10) (by decide +kernel))) rfl, cw_lay⟩, ⟨by decide, by decide, by decide +kernel⟩, by decide, by decide⟩
theorem cv_489 : gMv RX12 489 z_meant 2 := ⟨⟨W0_in (tp_11 (List.mem_of_getElem? (i := 83) (by decide +kernel))) rfl, W0_in (tp_11 (List.mem_of_getElem? (i := 85) (by decide +kernel))) rfl, W0_in (List.mem_of_getElem? (i := 153) (by decide +kernel)) rfl, W0_in (tp_1 (List.mem_of_getElem? (i := 10) (by decide +kernel))) rfl, cw_meant⟩, ⟨by decide, by decide, by decide +kernel⟩, by decide, by decide⟩
theorem cv_492 : gMv RX12 492 z_slotOf 1 := ⟨⟨W0_in (tp_11 (List.mem_of_getElem? (i := 67) (by decide +kernel))) rfl, W0_in (tp_11 (List.mem_of_getElem? (i := 69) (by decide +kernel))) rfl, W0_in (List.mem_of_getElem? (i := 149) (by decide +kernel)) rfl, W0_in (tp_1 (List.mem_of_getElem? (i := 10) (by decide +kernel))) rfl, cw_slotOf⟩, ⟨by decide, by decide, by decide +kernel⟩, by decide, by decide⟩
theorem cv_495 : gMv RX12 495 z_wrongAt 2 := ⟨⟨W0_in (tp_11 (List.mem_of_getElem? (i := 47) (by decide +kernel))) rfl, W0_in (tp_11 (List.mem_of_getElem? (i := 49) (by decide +kernel))) rfl, W0_in (List.mem_of_getElem? (i := 144) (by decide +kernel)) rfl, W0_in (tp_1 (List.mem_of_getElem? (i := 10) (by decide +kernel))) rfl, cw_wrongAt⟩, ⟨by decide, by decide, by decide +kernel⟩, by decide, by decide⟩
theorem cv_498 : gMv RX12 498 z_layE 2 := ⟨⟨W0_in (tp_11 (List.mem_of_getElem? (i := 75) (by decide +kernel))) rfl, W0_in (tp_11 (List.mem_of_getElem? (i := 77) (by decide +kernel))) rfl, W0_in (List.mem_of_getElem? (i := 151) (by decide +kernel)) rfl, W0_in (tp_1 (List.mem_of_getElem? (i := 10) (by decide +kernel))) rfl, cw_layE⟩, ⟨by decide, by decide, by decide +kernel⟩, by decide, by decide⟩
theorem cv_505 : gMv RX12 505 z_knownMask 0 := ⟨⟨W0_in (tp_11 (List.mem_of_getElem? (i := 91) (by decide +kernel))) rfl, W0_in (tp_11 (List.mem_of_getElem? (i := 93) (by decide +kernel))) rfl, W0_in (List.mem_of_getElem? (i := 155) (by decide +kernel)) rfl, W0_in (tp_1 (List.mem_of_getElem? (i := 10) (by decide +kernel))) rfl, cw_knownMask⟩, ⟨by decide, by decide, by decide +kernel⟩, by decide, by decide⟩
theorem cv_508 : gMv RX12 508 z_lineOf 1 := ⟨⟨W0_in (tp_11 (List.mem_of_getElem? (i := 95) (by decide +kernel))) rfl, W0_in (tp_11 (List.mem_of_getElem? (i := 97) (by decide +kernel))) rfl, W0_in (List.mem_of_getElem? (i := 156) (by decide +kernel)) rfl, W0_in (tp_1 (List.mem_of_getElem? (i := 10) (by decide +kernel))) rfl, cw_lineOf⟩, ⟨by decide, by decide, by decide +kernel⟩, by decide, by decide⟩
theorem cv_511 : gMv RX12 511 z_layStep 2 := ⟨⟨W0_in (tp_11 (List.mem_of_getElem? (i := 87) (by decide +kernel))) rfl, W0_in (tp_11 (List.mem_of_getElem? (i := 89) (by decide +kernel))) rfl, W0_in (List.mem_of_getElem? (i := 154) (by decide +kernel)) rfl, W0_in (tp_1 (List.mem_of_getElem? (i := 10) (by decide +kernel))) rfl, cw_layStep⟩, ⟨by decide, by decide, by decide +kernel⟩, by decide, by decide⟩
theorem cv_514 : gMv RX12 514 z_isCellAlone 1 := ⟨⟨W0_in (tp_11 (List.mem_of_getElem? (i := 63) (by decide +kernel))) rfl, W0_in (tp_11 (List.mem_of_getElem? (i := 65) (by decide +kernel))) rfl, W0_in (List.mem_of_getElem? (i := 148) (by decide +kernel)) rfl, W0_in (tp_1 (List.mem_of_getElem? (i := 10) (by decide +kernel))) rfl, cw_isCellAlone⟩, ⟨by decide, by decide, by decide +kernel⟩, by decide, by decide⟩
theorem cv_517 : gMv RX12 517 z_workOf 2 := ⟨⟨W0_in (tp_11 (List.mem_of_getElem? (i := 71) (by decide +kernel))) rfl, W0_in (tp_11 (List.mem_of_getElem? (i := 73) (by decide +kernel))) rfl, W0_in (List.mem_of_getElem? (i := 150) (by decide +kernel)) rfl, W0_in (tp_1 (List.mem_of_getElem? (i := 10) (by decide +kernel))) rfl, cw_workOf⟩, ⟨by decide, by decide, by decide +kernel⟩, by decide, by decide⟩
theorem cv_520 : gMv RX12 520 z_cellOf 2 := ⟨⟨W0_in (tp_11 (List.mem_of_getElem? (i := 99) (by decide +kernel))) rfl, W0_in (tp_11 (List.mem_of_getElem? (i := 101) (by decide +kernel))) rfl, W0_in (List.mem_of_getElem? (i := 157) (by decide +kernel)) rfl, W0_in (tp_1 (List.mem_of_getElem? (i := 10) (by decide +kernel))) rfl, cw_cellOf⟩, ⟨by decide, by decide, by decide +kernel⟩, by decide, by decide⟩
theorem cv_523 : gMv RX12 523 z_layAct 3 := ⟨⟨W0_in (tp_11 (List.mem_of_getElem? (i := 103) (by decide +kernel))) rfl, W0_in (tp_11 (List.mem_of_getElem? (i := 105) (by decide +kernel))) rfl, W0_in (List.mem_of_getElem? (i := 158) (by decide +kernel)) rfl, W0_in (tp_1 (List.mem_of_getElem? (i := 10) (by decide +kernel))) rfl, cw_layAct⟩, ⟨by decide, by decide, by decide +kernel⟩, by decide, by decide⟩
theorem cv_530 : gMv RX12 530 z_layS 2 := ⟨⟨W0_in (tp_11 (List.mem_of_getElem? (i := 55) (by decide +kernel))) rfl, W0_in (tp_11 (List.mem_of_getElem? (i := 57) (by decide +kernel))) rfl, W0_in (List.mem_of_getElem? (i := 146) (by decide +kernel)) rfl, W0_in (tp_1 (List.mem_of_getElem? (i := 10) (by decide +kernel))) rfl, cw_layS⟩, ⟨by decide, by decide, by decide +kernel⟩, by decide, by decide⟩
theorem cv_536 : gMv RX12 536 z_layR 3 := ⟨⟨W0_in (tp_11 (List.mem_of_getElem? (i := 59) (by decide +kernel))) rfl, W0_in (tp_11 (List.mem_of_getElem? (i := 61) (by decide +kernel))) rfl, W0_in (List.mem_of_getElem? (i := 147) (by decide +kernel)) rfl, W0_in (tp_1 (List.mem_of_getElem? (i := 10) (by decide +kernel))) rfl, cw_layR⟩, ⟨by decide, by decide, by decide +kernel⟩, by decide, by decide⟩
theorem cv_540 : gMv RX12 540 z_laySet 1 := ⟨⟨W0_in (tp_11 (List.mem_of_getElem? (i := 107) (by decide +kernel))) rfl, W0_in (tp_11 (List.mem_of_getElem? (i := 109) (by decide +kernel))) rfl, W0_in (List.mem_of_getElem? (i := 159) (by decide +kernel)) rfl, W0_in (tp_1 (List.mem_of_getElem? (i := 10) (by decide +kernel))) rfl, cw_laySet⟩, ⟨by decide, by decide, by decide +kernel⟩, by decide, by decide⟩
theorem cv_543 : gMv RX12 543 z_layBlock 1 := ⟨⟨W0_in (tp_11 (List.mem_of_getElem? (i := 51) (by decide +kernel))) rfl, W0_in (tp_11 (List.mem_of_getElem? (i := 53) (by decide +kernel))) rfl, W0_in (List.mem_of_getElem? (i := 145) (by decide +kernel)) rfl, W0_in (tp_1 (List.mem_of_getElem? (i := 10) (by decide +kernel))) rfl, cw_layBlock⟩, ⟨by decide, by decide, by decide +kernel⟩, by decide, by decide⟩
theorem cv_546 : gMv RX12 546 z_numberOf 2 := ⟨⟨W0_in (tp_11 (List.mem_of_getElem? (i := 115) (by decide +kernel))) rfl, W0_in (tp_11 (List.mem_of_getElem? (i := 117) (by decide +kernel))) rfl, W0_in (List.mem_of_getElem? (i := 161) (by decide +kernel)) rfl, W0_in (tp_1 (List.mem_of_getElem? (i := 10) (by decide +kernel))) rfl, cw_numberOf⟩, ⟨by decide, by decide, by decide +kernel⟩, by decide, by decide⟩
theorem cv_549 : gMv RX12 549 z_layWord 1 := ⟨⟨W0_in (tp_11 (List.mem_of_getElem? (i := 119) (by decide +kernel))) rfl, W0_in (tp_11 (List.mem_of_getElem? (i := 121) (by decide +kernel))) rfl, W0_in (List.mem_of_getElem? (i := 162) (by decide +kernel)) rfl, W0_in (tp_1 (List.mem_of_getElem? (i := 10) (by decide +kernel))) rfl, cw_layWord⟩, ⟨by decide, by decide, by decide +kernel⟩, by decide, by decide⟩
theorem cv_552 : gMv RX12 552 z_isCellName 1 := ⟨⟨W0_in (tp_11 (List.mem_of_getElem? (i := 111) (by decide +kernel))) rfl, W0_in (tp_11 (List.mem_of_getElem? (i := 113) (by decide +kernel))) rfl, W0_in (List.mem_of_getElem? (i := 160) (by decide +kernel)) rfl, W0_in (tp_1 (List.mem_of_getElem? (i := 10) (by decide +kernel))) rfl, cw_isCellName⟩, ⟨by decide, by decide, by decide +kernel⟩, by decide, by decide⟩
theorem cv_555 : gMv RX12 555 z_toldOf 1 := ⟨⟨W0_in (tp_11 (List.mem_of_getElem? (i := 39) (by decide +kernel))) rfl, W0_in (tp_11 (List.mem_of_getElem? (i := 41) (by decide +kernel))) rfl, W0_in (List.mem_of_getElem? (i := 142) (by decide +kernel)) rfl, W0_in (tp_1 (List.mem_of_getElem? (i := 10) (by decide +kernel))) rfl, cw_toldOf⟩, ⟨by decide, by decide, by decide +kernel⟩, by decide, by decide⟩
theorem cv_558 : gMv RX12 558 z_refuses 2 := ⟨⟨W0_in (tp_10 (List.mem_of_getElem? (i := 136) (by decide +kernel))) rfl, W0_in (tp_10 (List.mem_of_getElem? (i := 138) (by decide +kernel))) rfl, W0_in (List.mem_of_getElem? (i := 113) (by decide +kernel)) rfl, W0_in (tp_1 (List.mem_of_getElem? (i := 10) (by decide +kernel))) rfl, cw_refuses⟩, ⟨by decide, by decide, by decide +kernel⟩, by decide, by decide⟩
theorem cv_562 : gMv RX12 562 z_forget 0 := ⟨⟨W0_in (tp_10 (List.mem_of_getElem? (i := 140) (by decide +kernel))) rfl, W0_in (tp_10 (List.mem_of_getElem? (i := 142) (by decide +kernel))) rfl, W0_in (List.mem_of_getElem? (i := 114) (by decide +kernel)) rfl, W0_in (tp_1 (List.mem_of_getElem? (i := 10) (by decide +kernel))) rfl, cw_forget⟩, ⟨by decide, by decide, by decide +kernel⟩, by decide, by decide⟩
theorem cv_572 : gMv RX12 572 z_readTokens 0 := ⟨⟨W0_in (tp_10 (List.mem_of_getElem? (i := 152) (by decide +kernel))) rfl, W0_in (tp_10 (List.mem_of_getElem? (i := 154) (by decide +kernel))) rfl, W0_in (List.mem_of_getElem? (i := 115) (by decide +kernel)) rfl, W0_in (tp_1 (List.mem_of_getElem? (i := 10) (by decide +kernel))) rfl, cw_readTokens⟩, ⟨by decide, by decide, by decide +kernel⟩, by decide, by decide⟩
theorem cv_575 : gMv RX12 575 z_readDef 0 := ⟨⟨W0_in (tp_10 (List.mem_of_getElem? (i := 192) (by decide +kernel))) rfl, W0_in (tp_10 (List.mem_of_getElem? (i := 194) (by decide +kernel))) rfl, W0_in (List.mem_of_getElem? (i := 121) (by decide +kernel)) rfl, W0_in (tp_1 (List.mem_of_getElem? (i := 10) (by decide +kernel))) rfl, cw_readDef⟩, ⟨by decide, by decide, by decide +kernel⟩, by decide, by decide⟩
theorem cv_578 : gMv RX12 578 z_judge 0 := ⟨⟨W0_in (tp_11 (List.mem_of_getElem? (i := 35) (by decide +kernel))) rfl, W0_in (tp_11 (List.mem_of_getElem? (i := 37) (by decide +kernel))) rfl, W0_in (List.mem_of_getElem? (i := 141) (by decide +kernel)) rfl, W0_in (tp_1 (List.mem_of_getElem? (i := 10) (by decide +kernel))) rfl, cw_judge⟩, ⟨by decide, by decide, by decide +kernel⟩, by decide, by decide⟩
theorem cv_584 : gMv RX12 584 z_reckon 3 := ⟨⟨W0_in (tp_11 (List.mem_of_getElem? (i := 155) (by decide +kernel))) rfl, W0_in (tp_11 (List.mem_of_getElem? (i := 157) (by decide +kernel))) rfl, W0_in (List.mem_of_getElem? (i := 168) (by decide +kernel)) rfl, W0_in (tp_1 (List.mem_of_getElem? (i := 10) (by decide +kernel))) rfl, cw_reckon⟩, ⟨by decide, by decide, by decide +kernel⟩, by decide, by decide⟩
theorem cs_587 : gMs RX12 587 z_one 1 := ⟨⟨W0_in (tp_11 (List.mem_of_getElem? (i := 159) (by decide +kernel))) rfl, W0_in (tp_11 (List.mem_of_getElem? (i := 160) (by decide +kernel))) rfl, W0_in (tp_1 (List.mem_of_getElem? (i := 10) (by decide +kernel))) rfl, cw_one⟩, ⟨by decide, by decide, by decide +kernel⟩, by decide, by decide⟩
theorem cv_590 : gMv RX12 590 z_failThread 2 := ⟨⟨W0_in (tp_11 (List.mem_of_getElem? (i := 147) (by decide +kernel))) rfl, W0_in (tp_11 (List.mem_of_getElem? (i := 149) (by decide +kernel))) rfl, W0_in (List.mem_of_getElem? (i := 166) (by decide +kernel)) rfl, W0_in (tp_1 (List.mem_of_getElem? (i := 10) (by decide +kernel))) rfl, cw_failThread⟩, ⟨by decide, by decide, by decide +kernel⟩, by decide, by decide⟩
theorem cv_593 : gMv RX12 593 z_worked 2 := ⟨⟨W0_in (tp_11 (List.mem_of_getElem? (i := 151) (by decide +kernel))) rfl, W0_in (tp_11 (List.mem_of_getElem? (i := 153) (by decide +kernel))) rfl, W0_in (List.mem_of_getElem? (i := 167) (by decide +kernel)) rfl, W0_in (tp_1 (List.mem_of_getElem? (i := 10) (by decide +kernel))) rfl, cw_worked⟩, ⟨by decide, by decide, by decide +kernel⟩, by decide, by decide⟩
theorem cv_596 : gMv RX12 596 z_clean 1 := ⟨⟨W0_in (tp_11 (List.mem_of_getElem? (i := 162) (by decide +kernel))) rfl, W0_in (tp_11 (List.mem_of_getElem? (i := 164) (by decide +kernel))) rfl, W0_in (List.mem_of_getElem? (i := 169) (by decide +kernel)) rfl, W0_in (tp_1 (List.mem_of_getElem? (i := 10) (by decide +kernel))) rfl, cw_clean⟩, ⟨by decide, by decide, by decide +kernel⟩, by decide, by decide⟩
theorem cv_599 : gMv RX12 599 z_own 1 := ⟨⟨W0_in (tp_11 (List.mem_of_getElem? (i := 143) (by decide +kernel))) rfl, W0_in (tp_11 (List.mem_of_getElem? (i := 145) (by decide +kernel))) rfl, W0_in (List.mem_of_getElem? (i := 165) (by decide +kernel)) rfl, W0_in (tp_1 (List.mem_of_getElem? (i := 10) (by decide +kernel))) rfl, cw_own⟩, ⟨by decide, by decide, by decide +kernel⟩, by decide, by decide⟩
theorem cv_602 : gMv RX12 602 z_sortOf 1 := ⟨⟨W0_in (tp_11 (List.mem_of_getElem? (i := 174) (by decide +kernel))) rfl, W0_in (tp_11 (List.mem_of_getElem? (i := 176) (by decide +kernel))) rfl, W0_in (List.mem_of_getElem? (i := 172) (by decide +kernel)) rfl, W0_in (tp_1 (List.mem_of_getElem? (i := 10) (by decide +kernel))) rfl, cw_sortOf⟩, ⟨by decide, by decide, by decide +kernel⟩, by decide, by decide⟩
theorem cv_605 : gMv RX12 605 z_isAccess 1 := ⟨⟨W0_in (tp_11 (List.mem_of_getElem? (i := 178) (by decide +kernel))) rfl, W0_in (tp_11 (List.mem_of_getElem? (i := 180) (by decide +kernel))) rfl, W0_in (List.mem_of_getElem? (i := 173) (by decide +kernel)) rfl, W0_in (tp_1 (List.mem_of_getElem? (i := 10) (by decide +kernel))) rfl, cw_isAccess⟩, ⟨by decide, by decide, by decide +kernel⟩, by decide, by decide⟩
theorem cv_614 : gMv RX12 614 z_hasAct 1 := ⟨⟨W0_in (tp_11 (List.mem_of_getElem? (i := 170) (by decide +kernel))) rfl, W0_in (tp_11 (List.mem_of_getElem? (i := 172) (by decide +kernel))) rfl, W0_in (List.mem_of_getElem? (i := 171) (by decide +kernel)) rfl, W0_in (tp_1 (List.mem_of_getElem? (i := 10) (by decide +kernel))) rfl, cw_hasAct⟩, ⟨by decide, by decide, by decide +kernel⟩, by decide, by decide⟩
theorem cv_617 : gMv RX12 617 z_choose 3 := ⟨⟨W0_in (tp_11 (List.mem_of_getElem? (i := 182) (by decide +kernel))) rfl, W0_in (tp_11 (List.mem_of_getElem? (i := 184) (by decide +kernel))) rfl, W0_in (List.mem_of_getElem? (i := 174) (by decide +kernel)) rfl, W0_in (tp_1 (List.mem_of_getElem? (i := 10) (by decide +kernel))) rfl, cw_choose⟩, ⟨by decide, by decide, by decide +kernel⟩, by decide, by decide⟩
theorem cv_632 : gMv RX12 632 z_lookAt 1 := ⟨⟨W0_in (tp_11 (List.mem_of_getElem? (i := 198) (by decide +kernel))) rfl, W0_in (tp_11 (List.mem_of_getElem? (i := 200) (by decide +kernel))) rfl, W0_in (List.mem_of_getElem? (i := 176) (by decide +kernel)) rfl, W0_in (tp_1 (List.mem_of_getElem? (i := 10) (by decide +kernel))) rfl, cw_lookAt⟩, ⟨by decide, by decide, by decide +kernel⟩, by decide, by decide⟩
theorem cv_641 : gMv RX12 641 z_see 2 := ⟨⟨W0_in (tp_11 (List.mem_of_getElem? (i := 218) (by decide +kernel))) rfl, W0_in (tp_11 (List.mem_of_getElem? (i := 220) (by decide +kernel))) rfl, W0_in (List.mem_of_getElem? (i := 180) (by decide +kernel)) rfl, W0_in (tp_1 (List.mem_of_getElem? (i := 10) (by decide +kernel))) rfl, cw_see⟩, ⟨by decide, by decide, by decide +kernel⟩, by decide, by decide⟩
theorem cv_650 : gMv RX12 650 z_setFirst 0 := ⟨⟨W0_in (tp_11 (List.mem_of_getElem? (i := 139) (by decide +kernel))) rfl, W0_in (tp_11 (List.mem_of_getElem? (i := 141) (by decide +kernel))) rfl, W0_in (List.mem_of_getElem? (i := 164) (by decide +kernel)) rfl, W0_in (tp_1 (List.mem_of_getElem? (i := 10) (by decide +kernel))) rfl, cw_setFirst⟩, ⟨by decide, by decide, by decide +kernel⟩, by decide, by decide⟩
theorem cv_653 : gMv RX12 653 z_findChoices 0 := ⟨⟨W0_in (tp_11 (List.mem_of_getElem? (i := 166) (by decide +kernel))) rfl, W0_in (tp_11 (List.mem_of_getElem? (i := 168) (by decide +kernel))) rfl, W0_in (List.mem_of_getElem? (i := 170) (by decide +kernel)) rfl, W0_in (tp_1 (List.mem_of_getElem? (i := 10) (by decide +kernel))) rfl, cw_findChoices⟩, ⟨by decide, by decide, by decide +kernel⟩, by decide, by decide⟩
theorem cv_656 : gMv RX12 656 z_after 2 := ⟨⟨W0_in (tp_11 (List.mem_of_getElem? (i := 226) (by decide +kernel))) rfl, W0_in (tp_11 (List.mem_of_getElem? (i := 228) (by decide +kernel))) rfl, W0_in (List.mem_of_getElem? (i := 182) (by decide +kernel)) rfl, W0_in (tp_1 (List.mem_of_getElem? (i := 10) (by decide +kernel))) rfl, cw_after⟩, ⟨by decide, by decide, by decide +kernel⟩, by decide, by decide⟩
theorem cv_659 : gMv RX12 659 z_doLate 2 := ⟨⟨W0_in (tp_11 (List.mem_of_getElem? (i := 210) (by decide +kernel))) rfl, W0_in (tp_11 (List.mem_of_getElem? (i := 212) (by decide +kernel))) rfl, W0_in (List.mem_of_getElem? (i := 178) (by decide +kernel)) rfl, W0_in (tp_1 (List.mem_of_getElem? (i := 10) (by decide +kernel))) rfl, cw_doLate⟩, ⟨by decide, by decide, by decide +kernel⟩, by decide, by decide⟩
theorem cv_662 : gMv RX12 662 z_doAct 2 := ⟨⟨W0_in (tp_11 (List.mem_of_getElem? (i := 214) (by decide +kernel))) rfl, W0_in (tp_11 (List.mem_of_getElem? (i := 216) (by decide +kernel))) rfl, W0_in (List.mem_of_getElem? (i := 179) (by decide +kernel)) rfl, W0_in (tp_1 (List.mem_of_getElem? (i := 10) (by decide +kernel))) rfl, cw_doAct⟩, ⟨by decide, by decide, by decide +kernel⟩, by decide, by decide⟩
theorem cv_665 : gMv RX12 665 z_order 1 := ⟨⟨W0_in (tp_11 (List.mem_of_getElem? (i := 222) (by decide +kernel))) rfl, W0_in (tp_11 (List.mem_of_getElem? (i := 224) (by decide +kernel))) rfl, W0_in (List.mem_of_getElem? (i := 181) (by decide +kernel)) rfl, W0_in (tp_1 (List.mem_of_getElem? (i := 10) (by decide +kernel))) rfl, cw_order⟩, ⟨by decide, by decide, by decide +kernel⟩, by decide, by decide⟩
theorem cv_668 : gMv RX12 668 z_isAtomic 1 := ⟨⟨W0_in (tp_12 (List.mem_of_getElem? (i := 15) (by decide +kernel))) rfl, W0_in (tp_12 (List.mem_of_getElem? (i := 17) (by decide +kernel))) rfl, W0_in (List.mem_of_getElem? (i := 186) (by decide +kernel)) rfl, W0_in (tp_1 (List.mem_of_getElem? (i := 10) (by decide +kernel))) rfl, cw_isAtomic⟩, ⟨by decide, by decide, by decide +kernel⟩, by decide, by decide⟩
theorem cv_671 : gMv RX12 671 z_mayRace 2 := ⟨⟨W0_in (tp_12 (List.mem_of_getElem? (i := 11) (by decide +kernel))) rfl, W0_in (tp_12 (List.mem_of_getElem? (i := 13) (by decide +kernel))) rfl, W0_in (List.mem_of_getElem? (i := 185) (by decide +kernel)) rfl, W0_in (tp_1 (List.mem_of_getElem? (i := 10) (by decide +kernel))) rfl, cw_mayRace⟩, ⟨by decide, by decide, by decide +kernel⟩, by decide, by decide⟩
theorem cv_674 : gMv RX12 674 z_isSooner 2 := ⟨⟨W0_in (tp_12 (List.mem_of_getElem? (i := 19) (by decide +kernel))) rfl, W0_in (tp_12 (List.mem_of_getElem? (i := 21) (by decide +kernel))) rfl, W0_in (List.mem_of_getElem? (i := 187) (by decide +kernel)) rfl, W0_in (tp_1 (List.mem_of_getElem? (i := 10) (by decide +kernel))) rfl, cw_isSooner⟩, ⟨by decide, by decide, by decide +kernel⟩, by decide, by decide⟩
theorem cv_677 : gMv RX12 677 z_startRun 1 := ⟨⟨W0_in (tp_11 (List.mem_of_getElem? (i := 135) (by decide +kernel))) rfl, W0_in (tp_11 (List.mem_of_getElem? (i := 137) (by decide +kernel))) rfl, W0_in (List.mem_of_getElem? (i := 163) (by decide +kernel)) rfl, W0_in (tp_1 (List.mem_of_getElem? (i := 10) (by decide +kernel))) rfl, cw_startRun⟩, ⟨by decide, by decide, by decide +kernel⟩, by decide, by decide⟩
theorem cv_680 : gMv RX12 680 z_noRun 0 := ⟨⟨W0_in (tp_11 (List.mem_of_getElem? (i := 190) (by decide +kernel))) rfl, W0_in (tp_11 (List.mem_of_getElem? (i := 192) (by decide +kernel))) rfl, W0_in (List.mem_of_getElem? (i := 175) (by decide +kernel)) rfl, W0_in (tp_1 (List.mem_of_getElem? (i := 10) (by decide +kernel))) rfl, cw_noRun⟩, ⟨by decide, by decide, by decide +kernel⟩, by decide, by decide⟩
theorem cv_683 : gMv RX12 683 z_doChoice 1 := ⟨⟨W0_in (tp_11 (List.mem_of_getElem? (i := 206) (by decide +kernel))) rfl, W0_in (tp_11 (List.mem_of_getElem? (i := 208) (by decide +kernel))) rfl, W0_in (List.mem_of_getElem? (i := 177) (by decide +kernel)) rfl, W0_in (tp_1 (List.mem_of_getElem? (i := 10) (by decide +kernel))) rfl, cw_doChoice⟩, ⟨by decide, by decide, by decide +kernel⟩, by decide, by decide⟩
theorem cv_687 : gMv RX12 687 z_isStuck 0 := ⟨⟨W0_in (tp_12 (List.mem_of_getElem? (i := 3) (by decide +kernel))) rfl, W0_in (tp_12 (List.mem_of_getElem? (i := 5) (by decide +kernel))) rfl, W0_in (List.mem_of_getElem? (i := 183) (by decide +kernel)) rfl, W0_in (tp_1 (List.mem_of_getElem? (i := 10) (by decide +kernel))) rfl, cw_isStuck⟩, ⟨by decide, by decide, by decide +kernel⟩, by decide, by decide⟩
theorem cv_690 : gMv RX12 690 z_isRace 2 := ⟨⟨W0_in (tp_12 (List.mem_of_getElem? (i := 7) (by decide +kernel))) rfl, W0_in (tp_12 (List.mem_of_getElem? (i := 9) (by decide +kernel))) rfl, W0_in (List.mem_of_getElem? (i := 184) (by decide +kernel)) rfl, W0_in (tp_1 (List.mem_of_getElem? (i := 10) (by decide +kernel))) rfl, cw_isRace⟩, ⟨by decide, by decide, by decide +kernel⟩, by decide, by decide⟩
theorem cv_693 : gMv RX12 693 z_knownOf 1 := ⟨⟨W0_in (tp_12 (List.mem_of_getElem? (i := 39) (by decide +kernel))) rfl, W0_in (tp_12 (List.mem_of_getElem? (i := 41) (by decide +kernel))) rfl, W0_in (List.mem_of_getElem? (i := 188) (by decide +kernel)) rfl, W0_in (tp_1 (List.mem_of_getElem? (i := 10) (by decide +kernel))) rfl, cw_knownOf⟩, ⟨by decide, by decide, by decide +kernel⟩, by decide, by decide⟩
theorem cs_696 : gMs RX12 696 z_ones 1 := ⟨⟨W0_in (tp_12 (List.mem_of_getElem? (i := 43) (by decide +kernel))) rfl, W0_in (tp_12 (List.mem_of_getElem? (i := 44) (by decide +kernel))) rfl, W0_in (tp_1 (List.mem_of_getElem? (i := 10) (by decide +kernel))) rfl, cw_ones⟩, ⟨by decide, by decide, by decide +kernel⟩, by decide, by decide⟩
theorem cv_705 : gMv RX12 705 z_answer 3 := ⟨⟨W0_in (tp_12 (List.mem_of_getElem? (i := 82) (by decide +kernel))) rfl, W0_in (tp_12 (List.mem_of_getElem? (i := 84) (by decide +kernel))) rfl, W0_in (List.mem_of_getElem? (i := 193) (by decide +kernel)) rfl, W0_in (tp_1 (List.mem_of_getElem? (i := 10) (by decide +kernel))) rfl, cw_answer⟩, ⟨by decide, by decide, by decide +kernel⟩, by decide, by decide⟩
theorem cv_708 : gMv RX12 708 z_mayCome 2 := ⟨⟨W0_in (tp_12 (List.mem_of_getElem? (i := 74) (by decide +kernel))) rfl, W0_in (tp_12 (List.mem_of_getElem? (i := 76) (by decide +kernel))) rfl, W0_in (List.mem_of_getElem? (i := 191) (by decide +kernel)) rfl, W0_in (tp_1 (List.mem_of_getElem? (i := 10) (by decide +kernel))) rfl, cw_mayCome⟩, ⟨by decide, by decide, by decide +kernel⟩, by decide, by decide⟩
theorem cv_711 : gMv RX12 711 z_fits 2 := ⟨⟨W0_in (tp_12 (List.mem_of_getElem? (i := 78) (by decide +kernel))) rfl, W0_in (tp_12 (List.mem_of_getElem? (i := 80) (by decide +kernel))) rfl, W0_in (List.mem_of_getElem? (i := 192) (by decide +kernel)) rfl, W0_in (tp_1 (List.mem_of_getElem? (i := 10) (by decide +kernel))) rfl, cw_fits⟩, ⟨by decide, by decide, by decide +kernel⟩, by decide, by decide⟩
theorem cv_714 : gMv RX12 714 z_takeCalls 1 := ⟨⟨W0_in (tp_12 (List.mem_of_getElem? (i := 66) (by decide +kernel))) rfl, W0_in (tp_12 (List.mem_of_getElem? (i := 68) (by decide +kernel))) rfl, W0_in (List.mem_of_getElem? (i := 189) (by decide +kernel)) rfl, W0_in (tp_1 (List.mem_of_getElem? (i := 10) (by decide +kernel))) rfl, cw_takeCalls⟩, ⟨by decide, by decide, by decide +kernel⟩, by decide, by decide⟩
theorem cv_717 : gMv RX12 717 z_isLinear 1 := ⟨⟨W0_in (tp_12 (List.mem_of_getElem? (i := 70) (by decide +kernel))) rfl, W0_in (tp_12 (List.mem_of_getElem? (i := 72) (by decide +kernel))) rfl, W0_in (List.mem_of_getElem? (i := 190) (by decide +kernel)) rfl, W0_in (tp_1 (List.mem_of_getElem? (i := 10) (by decide +kernel))) rfl, cw_isLinear⟩, ⟨by decide, by decide, by decide +kernel⟩, by decide, by decide⟩
theorem cv_723 : gMv RX12 723 z_pack 2 := ⟨⟨W0_in (tp_12 (List.mem_of_getElem? (i := 90) (by decide +kernel))) rfl, W0_in (tp_12 (List.mem_of_getElem? (i := 92) (by decide +kernel))) rfl, W0_in (List.mem_of_getElem? (i := 194) (by decide +kernel)) rfl, W0_in (tp_1 (List.mem_of_getElem? (i := 10) (by decide +kernel))) rfl, cw_pack⟩, ⟨by decide, by decide, by decide +kernel⟩, by decide, by decide⟩
theorem cv_728 : gMv RX12 728 z_find 3 := ⟨⟨W0_in (tp_12 (List.mem_of_getElem? (i := 110) (by decide +kernel))) rfl, W0_in (tp_12 (List.mem_of_getElem? (i := 112) (by decide +kernel))) rfl, W0_in (List.mem_of_getElem? (i := 199) (by decide +kernel)) rfl, W0_in (tp_1 (List.mem_of_getElem? (i := 10) (by decide +kernel))) rfl, cw_find⟩, ⟨by decide, by decide, by decide +kernel⟩, by decide, by decide⟩
theorem cv_731 : gMv RX12 731 z_addOutcome 1 := ⟨⟨W0_in (tp_12 (List.mem_of_getElem? (i := 114) (by decide +kernel))) rfl, W0_in (tp_12 (List.mem_of_getElem? (i := 116) (by decide +kernel))) rfl, W0_in (List.mem_of_getElem? (i := 200) (by decide +kernel)) rfl, W0_in (tp_1 (List.mem_of_getElem? (i := 10) (by decide +kernel))) rfl, cw_addOutcome⟩, ⟨by decide, by decide, by decide +kernel⟩, by decide, by decide⟩
theorem cv_734 : gMv RX12 734 z_locksOf 1 := ⟨⟨W0_in (tp_12 (List.mem_of_getElem? (i := 119) (by decide +kernel))) rfl, W0_in (tp_12 (List.mem_of_getElem? (i := 121) (by decide +kernel))) rfl, W0_in (List.mem_of_getElem? (i := 201) (by decide +kernel)) rfl, W0_in (tp_1 (List.mem_of_getElem? (i := 10) (by decide +kernel))) rfl, cw_locksOf⟩, ⟨by decide, by decide, by decide +kernel⟩, by decide, by decide⟩
theorem cv_737 : gMv RX12 737 z_isLess 2 := ⟨⟨W0_in (tp_12 (List.mem_of_getElem? (i := 131) (by decide +kernel))) rfl, W0_in (tp_12 (List.mem_of_getElem? (i := 133) (by decide +kernel))) rfl, W0_in (List.mem_of_getElem? (i := 204) (by decide +kernel)) rfl, W0_in (tp_1 (List.mem_of_getElem? (i := 10) (by decide +kernel))) rfl, cw_isLess⟩, ⟨by decide, by decide, by decide +kernel⟩, by decide, by decide⟩
theorem cv_740 : gMv RX12 740 z_forgetTrying 1 := ⟨⟨W0_in (tp_12 (List.mem_of_getElem? (i := 98) (by decide +kernel))) rfl, W0_in (tp_12 (List.mem_of_getElem? (i := 100) (by decide +kernel))) rfl, W0_in (List.mem_of_getElem? (i := 196) (by decide +kernel)) rfl, W0_in (tp_1 (List.mem_of_getElem? (i := 10) (by decide +kernel))) rfl, cw_forgetTrying⟩, ⟨by decide, by decide, by decide +kernel⟩, by decide, by decide⟩
theorem cv_743 : gMv RX12 743 z_seek 1 := ⟨⟨W0_in (tp_12 (List.mem_of_getElem? (i := 102) (by decide +kernel))) rfl, W0_in (tp_12 (List.mem_of_getElem? (i := 104) (by decide +kernel))) rfl, W0_in (List.mem_of_getElem? (i := 197) (by decide +kernel)) rfl, W0_in (tp_1 (List.mem_of_getElem? (i := 10) (by decide +kernel))) rfl, cw_seek⟩, ⟨by decide, by decide, by decide +kernel⟩, by decide, by decide⟩
theorem cv_746 : gMv RX12 746 z_look 2 := ⟨⟨W0_in (tp_12 (List.mem_of_getElem? (i := 106) (by decide +kernel))) rfl, W0_in (tp_12 (List.mem_of_getElem? (i := 108) (by decide +kernel))) rfl, W0_in (List.mem_of_getElem? (i := 198) (by decide +kernel)) rfl, W0_in (tp_1 (List.mem_of_getElem? (i := 10) (by decide +kernel))) rfl, cw_look⟩, ⟨by decide, by decide, by decide +kernel⟩, by decide, by decide⟩
theorem cv_749 : gMv RX12 749 z_unpack 2 := ⟨⟨W0_in (tp_12 (List.mem_of_getElem? (i := 123) (by decide +kernel))) rfl, W0_in (tp_12 (List.mem_of_getElem? (i := 125) (by decide +kernel))) rfl, W0_in (List.mem_of_getElem? (i := 202) (by decide +kernel)) rfl, W0_in (tp_1 (List.mem_of_getElem? (i := 10) (by decide +kernel))) rfl, cw_unpack⟩, ⟨by decide, by decide, by decide +kernel⟩, by decide, by decide⟩
theorem cv_752 : gMv RX12 752 z_sortOutcomes 1 := ⟨⟨W0_in (tp_12 (List.mem_of_getElem? (i := 127) (by decide +kernel))) rfl, W0_in (tp_12 (List.mem_of_getElem? (i := 129) (by decide +kernel))) rfl, W0_in (List.mem_of_getElem? (i := 203) (by decide +kernel)) rfl, W0_in (tp_1 (List.mem_of_getElem? (i := 10) (by decide +kernel))) rfl, cw_sortOutcomes⟩, ⟨by decide, by decide, by decide +kernel⟩, by decide, by decide⟩
theorem cv_755 : gMv RX12 755 z_tryAll 2 := ⟨⟨W0_in (tp_12 (List.mem_of_getElem? (i := 94) (by decide +kernel))) rfl, W0_in (tp_12 (List.mem_of_getElem? (i := 96) (by decide +kernel))) rfl, W0_in (List.mem_of_getElem? (i := 195) (by decide +kernel)) rfl, W0_in (tp_1 (List.mem_of_getElem? (i := 10) (by decide +kernel))) rfl, cw_tryAll⟩, ⟨by decide, by decide, by decide +kernel⟩, by decide, by decide⟩
theorem kc_686 : Cond.constant RX12 686 (1103515245) ∈ W0 := W0_in (tp_11 (List.mem_of_getElem? (i := 234) (by decide +kernel))) rfl
theorem kc_727 : Cond.constant RX12 727 (72000) ∈ W0 := W0_in (tp_12 (List.mem_of_getElem? (i := 118) (by decide +kernel))) rfl
