abbrev zk_X0_clear : gy := (yX0_clear, cX0_clear, 1, none, [])
set_option maxRecDepth 100000 in
theorem kca_X0_clear : tables_1_3[205]? = some (Cond.code yX0_clear cX0_clear 1 none) := rfl
theorem kcw_X0_clear : Cond.code yX0_clear cX0_clear 1 none ∈ W0 := W0_in (tp_3 (List.mem_of_getElem? kca_X0_clear)) rfl
abbrev zk_X0_addCells : gy := (yX0_addCells, cX0_addCells, 5, none, [])
set_option maxRecDepth 100000 in
theorem kca_X0_addCells : tables_1_4[86]? = some (Cond.code yX0_addCells cX0_addCells 5 none) := rfl
theorem kcw_X0_addCells : Cond.code yX0_addCells cX0_addCells 5 none ∈ W0 := W0_in (tp_4 (List.mem_of_getElem? kca_X0_addCells)) rfl
abbrev zk_X0_addPart : gy := (yX0_addPart, cX0_addPart, 3, none, [])
set_option maxRecDepth 100000 in
theorem kca_X0_addPart : tables_1_4[142]? = some (Cond.code yX0_addPart cX0_addPart 3 none) := rfl
theorem kcw_X0_addPart : Cond.code yX0_addPart cX0_addPart 3 none ∈ W0 := W0_in (tp_4 (List.mem_of_getElem? kca_X0_addPart)) rfl
abbrev zk_X0_work : gy := (yX0_work, cX0_work, 9, (some .int), [])
set_option maxRecDepth 100000 in
theorem kca_X0_work : tables_1_5[163]? = some (Cond.code yX0_work cX0_work 9 (some .int)) := rfl
theorem kcw_X0_work : Cond.code yX0_work cX0_work 9 (some .int) ∈ W0 := W0_in (tp_5 (List.mem_of_getElem? kca_X0_work)) rfl
abbrev zk_X0_operate : gy := (yX0_operate, cX0_operate, 4, (some .int), [])
set_option maxRecDepth 100000 in
theorem kca_X0_operate : tables_1_5[167]? = some (Cond.code yX0_operate cX0_operate 4 (some .int)) := rfl
theorem kcw_X0_operate : Cond.code yX0_operate cX0_operate 4 (some .int) ∈ W0 := W0_in (tp_5 (List.mem_of_getElem? kca_X0_operate)) rfl
abbrev zk_X1_clear : gy := (yX1_clear, cX1_clear, 4, none, [])
set_option maxRecDepth 100000 in
theorem kca_X1_clear : tables_1_6[37]? = some (Cond.code yX1_clear cX1_clear 4 none) := rfl
theorem kcw_X1_clear : Cond.code yX1_clear cX1_clear 4 none ∈ W0 := W0_in (tp_6 (List.mem_of_getElem? kca_X1_clear)) rfl
abbrev zk_X2_explore : gy := (yX2_explore, cX2_explore, 6, none, [])
set_option maxRecDepth 100000 in
theorem kca_X2_explore : tables_1_8[1]? = some (Cond.code yX2_explore cX2_explore 6 none) := rfl
theorem kcw_X2_explore : Cond.code yX2_explore cX2_explore 6 none ∈ W0 := W0_in (tp_8 (List.mem_of_getElem? kca_X2_explore)) rfl
abbrev zk_X2_addState : gy := (yX2_addState, cX2_addState, 4, none, [])
set_option maxRecDepth 100000 in
theorem kca_X2_addState : tables_1_8[12]? = some (Cond.code yX2_addState cX2_addState 4 none) := rfl
theorem kcw_X2_addState : Cond.code yX2_addState cX2_addState 4 none ∈ W0 := W0_in (tp_8 (List.mem_of_getElem? kca_X2_addState)) rfl
abbrev zk_X2_recall : gy := (yX2_recall, cX2_recall, 2, none, [])
set_option maxRecDepth 100000 in
theorem kca_X2_recall : tables_1_8[50]? = some (Cond.code yX2_recall cX2_recall 2 none) := rfl
theorem kcw_X2_recall : Cond.code yX2_recall cX2_recall 2 none ∈ W0 := W0_in (tp_8 (List.mem_of_getElem? kca_X2_recall)) rfl
abbrev zk_X2_isKept : gy := (yX2_isKept, cX2_isKept, 3, (some .boolean), [])
set_option maxRecDepth 100000 in
theorem kca_X2_isKept : tables_1_8[16]? = some (Cond.code yX2_isKept cX2_isKept 3 (some .boolean)) := rfl
theorem kcw_X2_isKept : Cond.code yX2_isKept cX2_isKept 3 (some .boolean) ∈ W0 := W0_in (tp_8 (List.mem_of_getElem? kca_X2_isKept)) rfl
abbrev zk_X2_keep : gy := (yX2_keep, cX2_keep, 4, none, [])
set_option maxRecDepth 100000 in
theorem kca_X2_keep : tables_1_8[41]? = some (Cond.code yX2_keep cX2_keep 4 none) := rfl
theorem kcw_X2_keep : Cond.code yX2_keep cX2_keep 4 none ∈ W0 := W0_in (tp_8 (List.mem_of_getElem? kca_X2_keep)) rfl
abbrev zk_X2_inspect : gy := (yX2_inspect, cX2_inspect, 3, none, [])
set_option maxRecDepth 100000 in
theorem kca_X2_inspect : tables_1_8[78]? = some (Cond.code yX2_inspect cX2_inspect 3 none) := rfl
theorem kcw_X2_inspect : Cond.code yX2_inspect cX2_inspect 3 none ∈ W0 := W0_in (tp_8 (List.mem_of_getElem? kca_X2_inspect)) rfl
abbrev zk_X2_inspectEnd : gy := (yX2_inspectEnd, cX2_inspectEnd, 3, none, [])
set_option maxRecDepth 100000 in
theorem kca_X2_inspectEnd : tables_1_8[91]? = some (Cond.code yX2_inspectEnd cX2_inspectEnd 3 none) := rfl
theorem kcw_X2_inspectEnd : Cond.code yX2_inspectEnd cX2_inspectEnd 3 none ∈ W0 := W0_in (tp_8 (List.mem_of_getElem? kca_X2_inspectEnd)) rfl
abbrev zk_X2_isFalse : gy := (yX2_isFalse, cX2_isFalse, 2, (some .boolean), [])
set_option maxRecDepth 100000 in
theorem kca_X2_isFalse : tables_1_8[82]? = some (Cond.code yX2_isFalse cX2_isFalse 2 (some .boolean)) := rfl
theorem kcw_X2_isFalse : Cond.code yX2_isFalse cX2_isFalse 2 (some .boolean) ∈ W0 := W0_in (tp_8 (List.mem_of_getElem? kca_X2_isFalse)) rfl
abbrev zk_X2_inspectActs : gy := (yX2_inspectActs, cX2_inspectActs, 4, none, [])
set_option maxRecDepth 100000 in
theorem kca_X2_inspectActs : tables_1_8[55]? = some (Cond.code yX2_inspectActs cX2_inspectActs 4 none) := rfl
theorem kcw_X2_inspectActs : Cond.code yX2_inspectActs cX2_inspectActs 4 none ∈ W0 := W0_in (tp_8 (List.mem_of_getElem? kca_X2_inspectActs)) rfl
abbrev zk_X2_inspectAct : gy := (yX2_inspectAct, cX2_inspectAct, 4, none, [])
set_option maxRecDepth 100000 in
theorem kca_X2_inspectAct : tables_1_8[59]? = some (Cond.code yX2_inspectAct cX2_inspectAct 4 none) := rfl
theorem kcw_X2_inspectAct : Cond.code yX2_inspectAct cX2_inspectAct 4 none ∈ W0 := W0_in (tp_8 (List.mem_of_getElem? kca_X2_inspectAct)) rfl
abbrev zk_X2_isRacing : gy := (yX2_isRacing, cX2_isRacing, 3, (some .boolean), [])
set_option maxRecDepth 100000 in
theorem kca_X2_isRacing : tables_1_8[109]? = some (Cond.code yX2_isRacing cX2_isRacing 3 (some .boolean)) := rfl
theorem kcw_X2_isRacing : Cond.code yX2_isRacing cX2_isRacing 3 (some .boolean) ∈ W0 := W0_in (tp_8 (List.mem_of_getElem? kca_X2_isRacing)) rfl
abbrev zk_X3_take : gy := (yX3_take, cX3_take, 4, none, [])
set_option maxRecDepth 100000 in
theorem kca_X3_take : tables_1_7[77]? = some (Cond.code yX3_take cX3_take 4 none) := rfl
theorem kcw_X3_take : Cond.code yX3_take cX3_take 4 none ∈ W0 := W0_in (tp_7 (List.mem_of_getElem? kca_X3_take)) rfl
abbrev zk_X3_beginCall : gy := (yX3_beginCall, cX3_beginCall, 5, none, [])
set_option maxRecDepth 100000 in
theorem kca_X3_beginCall : tables_1_7[82]? = some (Cond.code yX3_beginCall cX3_beginCall 5 none) := rfl
theorem kcw_X3_beginCall : Cond.code yX3_beginCall cX3_beginCall 5 none ∈ W0 := W0_in (tp_7 (List.mem_of_getElem? kca_X3_beginCall)) rfl
abbrev zk_X3_endCall : gy := (yX3_endCall, cX3_endCall, 3, none, [])
set_option maxRecDepth 100000 in
theorem kca_X3_endCall : tables_1_7[87]? = some (Cond.code yX3_endCall cX3_endCall 3 none) := rfl
theorem kcw_X3_endCall : Cond.code yX3_endCall cX3_endCall 3 none ∈ W0 := W0_in (tp_7 (List.mem_of_getElem? kca_X3_endCall)) rfl
abbrev zk_X3_fewestThatFail : gy := (yX3_fewestThatFail, cX3_fewestThatFail, 6, (some .int), [])
set_option maxRecDepth 100000 in
theorem kca_X3_fewestThatFail : tables_1_7[91]? = some (Cond.code yX3_fewestThatFail cX3_fewestThatFail 6 (some .int)) := rfl
theorem kcw_X3_fewestThatFail : Cond.code yX3_fewestThatFail cX3_fewestThatFail 6 (some .int) ∈ W0 := W0_in (tp_7 (List.mem_of_getElem? kca_X3_fewestThatFail)) rfl
abbrev zk_X3_isLinear : gy := (yX3_isLinear, cX3_isLinear, 3, (some .boolean), [])
set_option maxRecDepth 100000 in
theorem kca_X3_isLinear : tables_1_7[95]? = some (Cond.code yX3_isLinear cX3_isLinear 3 (some .boolean)) := rfl
theorem kcw_X3_isLinear : Cond.code yX3_isLinear cX3_isLinear 3 (some .boolean) ∈ W0 := W0_in (tp_7 (List.mem_of_getElem? kca_X3_isLinear)) rfl
abbrev zk_X3_canGoOn : gy := (yX3_canGoOn, cX3_canGoOn, 8, (some .boolean), [])
set_option maxRecDepth 100000 in
theorem kca_X3_canGoOn : tables_1_7[99]? = some (Cond.code yX3_canGoOn cX3_canGoOn 8 (some .boolean)) := rfl
theorem kcw_X3_canGoOn : Cond.code yX3_canGoOn cX3_canGoOn 8 (some .boolean) ∈ W0 := W0_in (tp_7 (List.mem_of_getElem? kca_X3_canGoOn)) rfl
abbrev zk_X3_serve : gy := (yX3_serve, cX3_serve, 4, (some .int), [])
set_option maxRecDepth 100000 in
theorem kca_X3_serve : tables_1_7[106]? = some (Cond.code yX3_serve cX3_serve 4 (some .int)) := rfl
theorem kcw_X3_serve : Cond.code yX3_serve cX3_serve 4 (some .int) ∈ W0 := W0_in (tp_7 (List.mem_of_getElem? kca_X3_serve)) rfl
abbrev zk_X3_serveCell : gy := (yX3_serveCell, cX3_serveCell, 4, (some .int), [])
set_option maxRecDepth 100000 in
theorem kca_X3_serveCell : tables_1_7[109]? = some (Cond.code yX3_serveCell cX3_serveCell 4 (some .int)) := rfl
theorem kcw_X3_serveCell : Cond.code yX3_serveCell cX3_serveCell 4 (some .int) ∈ W0 := W0_in (tp_7 (List.mem_of_getElem? kca_X3_serveCell)) rfl
abbrev zk_X3_serveRow : gy := (yX3_serveRow, cX3_serveRow, 5, (some .int), [])
set_option maxRecDepth 100000 in
theorem kca_X3_serveRow : tables_1_7[125]? = some (Cond.code yX3_serveRow cX3_serveRow 5 (some .int)) := rfl
theorem kcw_X3_serveRow : Cond.code yX3_serveRow cX3_serveRow 5 (some .int) ∈ W0 := W0_in (tp_7 (List.mem_of_getElem? kca_X3_serveRow)) rfl
abbrev zk_X3_serveSet : gy := (yX3_serveSet, cX3_serveSet, 4, (some .int), [])
set_option maxRecDepth 100000 in
theorem kca_X3_serveSet : tables_1_7[112]? = some (Cond.code yX3_serveSet cX3_serveSet 4 (some .int)) := rfl
theorem kcw_X3_serveSet : Cond.code yX3_serveSet cX3_serveSet 4 (some .int) ∈ W0 := W0_in (tp_7 (List.mem_of_getElem? kca_X3_serveSet)) rfl
abbrev zk_X3_append : gy := (yX3_append, cX3_append, 2, none, [])
set_option maxRecDepth 100000 in
theorem kca_X3_append : tables_1_7[118]? = some (Cond.code yX3_append cX3_append 2 none) := rfl
theorem kcw_X3_append : Cond.code yX3_append cX3_append 2 none ∈ W0 := W0_in (tp_7 (List.mem_of_getElem? kca_X3_append)) rfl
abbrev zk_X3_find : gy := (yX3_find, cX3_find, 3, (some .int), [])
set_option maxRecDepth 100000 in
theorem kca_X3_find : tables_1_7[115]? = some (Cond.code yX3_find cX3_find 3 (some .int)) := rfl
theorem kcw_X3_find : Cond.code yX3_find cX3_find 3 (some .int) ∈ W0 := W0_in (tp_7 (List.mem_of_getElem? kca_X3_find)) rfl
abbrev zk_X3_removeAt : gy := (yX3_removeAt, cX3_removeAt, 4, (some .int), [])
set_option maxRecDepth 100000 in
theorem kca_X3_removeAt : tables_1_7[121]? = some (Cond.code yX3_removeAt cX3_removeAt 4 (some .int)) := rfl
theorem kcw_X3_removeAt : Cond.code yX3_removeAt cX3_removeAt 4 (some .int) ∈ W0 := W0_in (tp_7 (List.mem_of_getElem? kca_X3_removeAt)) rfl
abbrev zk_X4_clear : gy := (yX4_clear, cX4_clear, 1, none, [])
set_option maxRecDepth 100000 in
theorem kca_X4_clear : tables_1_5[223]? = some (Cond.code yX4_clear cX4_clear 1 none) := rfl
theorem kcw_X4_clear : Cond.code yX4_clear cX4_clear 1 none ∈ W0 := W0_in (tp_5 (List.mem_of_getElem? kca_X4_clear)) rfl
abbrev zk_X4_note : gy := (yX4_note, cX4_note, 4, none, [])
set_option maxRecDepth 100000 in
theorem kca_X4_note : tables_1_6[101]? = some (Cond.code yX4_note cX4_note 4 none) := rfl
theorem kcw_X4_note : Cond.code yX4_note cX4_note 4 none ∈ W0 := W0_in (tp_6 (List.mem_of_getElem? kca_X4_note)) rfl
abbrev zk_X4_setClock : gy := (yX4_setClock, cX4_setClock, 4, none, [])
set_option maxRecDepth 100000 in
theorem kca_X4_setClock : tables_1_6[105]? = some (Cond.code yX4_setClock cX4_setClock 4 none) := rfl
theorem kcw_X4_setClock : Cond.code yX4_setClock cX4_setClock 4 none ∈ W0 := W0_in (tp_6 (List.mem_of_getElem? kca_X4_setClock)) rfl
abbrev zk_X4_takeOver : gy := (yX4_takeOver, cX4_takeOver, 3, none, [])
set_option maxRecDepth 100000 in
theorem kca_X4_takeOver : tables_1_6[113]? = some (Cond.code yX4_takeOver cX4_takeOver 3 none) := rfl
theorem kcw_X4_takeOver : Cond.code yX4_takeOver cX4_takeOver 3 none ∈ W0 := W0_in (tp_6 (List.mem_of_getElem? kca_X4_takeOver)) rfl
abbrev zk_X4_handOn : gy := (yX4_handOn, cX4_handOn, 5, none, [])
set_option maxRecDepth 100000 in
theorem kca_X4_handOn : tables_1_6[117]? = some (Cond.code yX4_handOn cX4_handOn 5 none) := rfl
theorem kcw_X4_handOn : Cond.code yX4_handOn cX4_handOn 5 none ∈ W0 := W0_in (tp_6 (List.mem_of_getElem? kca_X4_handOn)) rfl
abbrev zk_X4_join : gy := (yX4_join, cX4_join, 6, none, [])
set_option maxRecDepth 100000 in
theorem kca_X4_join : tables_1_6[108]? = some (Cond.code yX4_join cX4_join 6 none) := rfl
theorem kcw_X4_join : Cond.code yX4_join cX4_join 6 none ∈ W0 := W0_in (tp_6 (List.mem_of_getElem? kca_X4_join)) rfl
abbrev zk_X4_isBefore : gy := (yX4_isBefore, cX4_isBefore, 4, (some .boolean), [])
set_option maxRecDepth 100000 in
theorem kca_X4_isBefore : tables_1_6[136]? = some (Cond.code yX4_isBefore cX4_isBefore 4 (some .boolean)) := rfl
theorem kcw_X4_isBefore : Cond.code yX4_isBefore cX4_isBefore 4 (some .boolean) ∈ W0 := W0_in (tp_6 (List.mem_of_getElem? kca_X4_isBefore)) rfl
abbrev zk_X4_races : gy := (yX4_races, cX4_races, 1, (some .int), [])
set_option maxRecDepth 100000 in
theorem kca_X4_races : tables_1_6[172]? = some (Cond.code yX4_races cX4_races 1 (some .int)) := rfl
theorem kcw_X4_races : Cond.code yX4_races cX4_races 1 (some .int) ∈ W0 := W0_in (tp_6 (List.mem_of_getElem? kca_X4_races)) rfl
abbrev zk_X4_laterOfRace : gy := (yX4_laterOfRace, cX4_laterOfRace, 3, (some .int), [])
set_option maxRecDepth 100000 in
theorem kca_X4_laterOfRace : tables_1_7[13]? = some (Cond.code yX4_laterOfRace cX4_laterOfRace 3 (some .int)) := rfl
theorem kcw_X4_laterOfRace : Cond.code yX4_laterOfRace cX4_laterOfRace 3 (some .int) ∈ W0 := W0_in (tp_7 (List.mem_of_getElem? kca_X4_laterOfRace)) rfl
abbrev zk_X4_earlierOfRace : gy := (yX4_earlierOfRace, cX4_earlierOfRace, 5, (some .int), [])
set_option maxRecDepth 100000 in
theorem kca_X4_earlierOfRace : tables_1_7[17]? = some (Cond.code yX4_earlierOfRace cX4_earlierOfRace 5 (some .int)) := rfl
theorem kcw_X4_earlierOfRace : Cond.code yX4_earlierOfRace cX4_earlierOfRace 5 (some .int) ∈ W0 := W0_in (tp_7 (List.mem_of_getElem? kca_X4_earlierOfRace)) rfl
abbrev zk_X4_racesOf : gy := (yX4_racesOf, cX4_racesOf, 4, (some .int), [])
set_option maxRecDepth 100000 in
theorem kca_X4_racesOf : tables_1_6[121]? = some (Cond.code yX4_racesOf cX4_racesOf 4 (some .int)) := rfl
theorem kcw_X4_racesOf : Cond.code yX4_racesOf cX4_racesOf 4 (some .int) ∈ W0 := W0_in (tp_6 (List.mem_of_getElem? kca_X4_racesOf)) rfl
abbrev zk_X4_mayRace : gy := (yX4_mayRace, cX4_mayRace, 2, (some .boolean), [])
set_option maxRecDepth 100000 in
theorem kca_X4_mayRace : tables_1_6[125]? = some (Cond.code yX4_mayRace cX4_mayRace 2 (some .boolean)) := rfl
theorem kcw_X4_mayRace : Cond.code yX4_mayRace cX4_mayRace 2 (some .boolean) ∈ W0 := W0_in (tp_6 (List.mem_of_getElem? kca_X4_mayRace)) rfl
abbrev zk_X4_isRace : gy := (yX4_isRace, cX4_isRace, 3, (some .boolean), [])
set_option maxRecDepth 100000 in
theorem kca_X4_isRace : tables_1_6[129]? = some (Cond.code yX4_isRace cX4_isRace 3 (some .boolean)) := rfl
theorem kcw_X4_isRace : Cond.code yX4_isRace cX4_isRace 3 (some .boolean) ∈ W0 := W0_in (tp_6 (List.mem_of_getElem? kca_X4_isRace)) rfl
abbrev zk_X4_sortsRace : gy := (yX4_sortsRace, cX4_sortsRace, 4, (some .boolean), [])
set_option maxRecDepth 100000 in
theorem kca_X4_sortsRace : tables_1_6[132]? = some (Cond.code yX4_sortsRace cX4_sortsRace 4 (some .boolean)) := rfl
theorem kcw_X4_sortsRace : Cond.code yX4_sortsRace cX4_sortsRace 4 (some .boolean) ∈ W0 := W0_in (tp_6 (List.mem_of_getElem? kca_X4_sortsRace)) rfl
abbrev zk_X5_reset : gy := (yX5_reset, cX5_reset, 3, none, [])
set_option maxRecDepth 100000 in
theorem kca_X5_reset : tables_1_5[129]? = some (Cond.code yX5_reset cX5_reset 3 none) := rfl
theorem kcw_X5_reset : Cond.code yX5_reset cX5_reset 3 none ∈ W0 := W0_in (tp_5 (List.mem_of_getElem? kca_X5_reset)) rfl
abbrev zk_X5_get : gy := (yX5_get, cX5_get, 3, (some .int), [])
set_option maxRecDepth 100000 in
theorem kca_X5_get : tables_1_5[151]? = some (Cond.code yX5_get cX5_get 3 (some .int)) := rfl
theorem kcw_X5_get : Cond.code yX5_get cX5_get 3 (some .int) ∈ W0 := W0_in (tp_5 (List.mem_of_getElem? kca_X5_get)) rfl
abbrev zk_X5_set : gy := (yX5_set, cX5_set, 4, none, [])
set_option maxRecDepth 100000 in
theorem kca_X5_set : tables_1_5[138]? = some (Cond.code yX5_set cX5_set 4 none) := rfl
theorem kcw_X5_set : Cond.code yX5_set cX5_set 4 none ∈ W0 := W0_in (tp_5 (List.mem_of_getElem? kca_X5_set)) rfl
abbrev zk_X5_isGoing : gy := (yX5_isGoing, cX5_isGoing, 2, (some .boolean), [])
set_option maxRecDepth 100000 in
theorem kca_X5_isGoing : tables_1_5[147]? = some (Cond.code yX5_isGoing cX5_isGoing 2 (some .boolean)) := rfl
theorem kcw_X5_isGoing : Cond.code yX5_isGoing cX5_isGoing 2 (some .boolean) ∈ W0 := W0_in (tp_5 (List.mem_of_getElem? kca_X5_isGoing)) rfl
abbrev zk_X5_anyGoing : gy := (yX5_anyGoing, cX5_anyGoing, 2, (some .boolean), [])
set_option maxRecDepth 100000 in
theorem kca_X5_anyGoing : tables_1_6[168]? = some (Cond.code yX5_anyGoing cX5_anyGoing 2 (some .boolean)) := rfl
theorem kcw_X5_anyGoing : Cond.code yX5_anyGoing cX5_anyGoing 2 (some .boolean) ∈ W0 := W0_in (tp_6 (List.mem_of_getElem? kca_X5_anyGoing)) rfl
abbrev zk_X5_anyFailed : gy := (yX5_anyFailed, cX5_anyFailed, 2, (some .boolean), [])
set_option maxRecDepth 100000 in
theorem kca_X5_anyFailed : tables_1_8[105]? = some (Cond.code yX5_anyFailed cX5_anyFailed 2 (some .boolean)) := rfl
theorem kcw_X5_anyFailed : Cond.code yX5_anyFailed cX5_anyFailed 2 (some .boolean) ∈ W0 := W0_in (tp_8 (List.mem_of_getElem? kca_X5_anyFailed)) rfl
abbrev zk_X5_isStuck : gy := (yX5_isStuck, cX5_isStuck, 1, (some .boolean), [])
set_option maxRecDepth 100000 in
theorem kca_X5_isStuck : tables_1_6[164]? = some (Cond.code yX5_isStuck cX5_isStuck 1 (some .boolean)) := rfl
theorem kcw_X5_isStuck : Cond.code yX5_isStuck cX5_isStuck 1 (some .boolean) ∈ W0 := W0_in (tp_6 (List.mem_of_getElem? kca_X5_isStuck)) rfl
abbrev zk_X5_allLate : gy := (yX5_allLate, cX5_allLate, 3, (some .int), [])
set_option maxRecDepth 100000 in
theorem kca_X5_allLate : tables_1_6[176]? = some (Cond.code yX5_allLate cX5_allLate 3 (some .int)) := rfl
theorem kcw_X5_allLate : Cond.code yX5_allLate cX5_allLate 3 (some .int) ∈ W0 := W0_in (tp_6 (List.mem_of_getElem? kca_X5_allLate)) rfl
abbrev zk_X5_known : gy := (yX5_known, cX5_known, 3, (some .int), [])
set_option maxRecDepth 100000 in
theorem kca_X5_known : tables_1_5[179]? = some (Cond.code yX5_known cX5_known 3 (some .int)) := rfl
theorem kcw_X5_known : Cond.code yX5_known cX5_known 3 (some .int) ∈ W0 := W0_in (tp_5 (List.mem_of_getElem? kca_X5_known)) rfl
abbrev zk_X5_lineOf : gy := (yX5_lineOf, cX5_lineOf, 2, (some .int), [])
set_option maxRecDepth 100000 in
theorem kca_X5_lineOf : tables_1_6[220]? = some (Cond.code yX5_lineOf cX5_lineOf 2 (some .int)) := rfl
theorem kcw_X5_lineOf : Cond.code yX5_lineOf cX5_lineOf 2 (some .int) ∈ W0 := W0_in (tp_6 (List.mem_of_getElem? kca_X5_lineOf)) rfl
abbrev zk_X5_holder : gy := (yX5_holder, cX5_holder, 2, (some .int), [])
set_option maxRecDepth 100000 in
theorem kca_X5_holder : tables_1_5[199]? = some (Cond.code yX5_holder cX5_holder 2 (some .int)) := rfl
theorem kcw_X5_holder : Cond.code yX5_holder cX5_holder 2 (some .int) ∈ W0 := W0_in (tp_5 (List.mem_of_getElem? kca_X5_holder)) rfl
abbrev zk_X5_often : gy := (yX5_often, cX5_often, 2, (some .int), [])
set_option maxRecDepth 100000 in
theorem kca_X5_often : tables_1_6[73]? = some (Cond.code yX5_often cX5_often 2 (some .int)) := rfl
theorem kcw_X5_often : Cond.code yX5_often cX5_often 2 (some .int) ∈ W0 := W0_in (tp_6 (List.mem_of_getElem? kca_X5_often)) rfl
abbrev zk_X5_setLock : gy := (yX5_setLock, cX5_setLock, 4, none, [])
set_option maxRecDepth 100000 in
theorem kca_X5_setLock : tables_1_6[77]? = some (Cond.code yX5_setLock cX5_setLock 4 none) := rfl
theorem kcw_X5_setLock : Cond.code yX5_setLock cX5_setLock 4 none ∈ W0 := W0_in (tp_6 (List.mem_of_getElem? kca_X5_setLock)) rfl
abbrev zk_X5_heldBy : gy := (yX5_heldBy, cX5_heldBy, 4, (some .int), [])
set_option maxRecDepth 100000 in
theorem kca_X5_heldBy : tables_1_8[65]? = some (Cond.code yX5_heldBy cX5_heldBy 4 (some .int)) := rfl
theorem kcw_X5_heldBy : Cond.code yX5_heldBy cX5_heldBy 4 (some .int) ∈ W0 := W0_in (tp_8 (List.mem_of_getElem? kca_X5_heldBy)) rfl
abbrev zk_X5_waiters : gy := (yX5_waiters, cX5_waiters, 4, (some .int), [])
set_option maxRecDepth 100000 in
theorem kca_X5_waiters : tables_1_5[207]? = some (Cond.code yX5_waiters cX5_waiters 4 (some .int)) := rfl
theorem kcw_X5_waiters : Cond.code yX5_waiters cX5_waiters 4 (some .int) ∈ W0 := W0_in (tp_5 (List.mem_of_getElem? kca_X5_waiters)) rfl
abbrev zk_X5_lateCell : gy := (yX5_lateCell, cX5_lateCell, 3, (some .int), [])
set_option maxRecDepth 100000 in
theorem kca_X5_lateCell : tables_1_5[219]? = some (Cond.code yX5_lateCell cX5_lateCell 3 (some .int)) := rfl
theorem kcw_X5_lateCell : Cond.code yX5_lateCell cX5_lateCell 3 (some .int) ∈ W0 := W0_in (tp_5 (List.mem_of_getElem? kca_X5_lateCell)) rfl
abbrev zk_X5_lateValue : gy := (yX5_lateValue, cX5_lateValue, 3, (some .int), [])
set_option maxRecDepth 100000 in
theorem kca_X5_lateValue : tables_1_6[45]? = some (Cond.code yX5_lateValue cX5_lateValue 3 (some .int)) := rfl
theorem kcw_X5_lateValue : Cond.code yX5_lateValue cX5_lateValue 3 (some .int) ∈ W0 := W0_in (tp_6 (List.mem_of_getElem? kca_X5_lateValue)) rfl
abbrev zk_X5_setLate : gy := (yX5_setLate, cX5_setLate, 5, none, [])
set_option maxRecDepth 100000 in
theorem kca_X5_setLate : tables_1_6[49]? = some (Cond.code yX5_setLate cX5_setLate 5 none) := rfl
theorem kcw_X5_setLate : Cond.code yX5_setLate cX5_setLate 5 none ∈ W0 := W0_in (tp_6 (List.mem_of_getElem? kca_X5_setLate)) rfl
abbrev zk_X5_seenBy : gy := (yX5_seenBy, cX5_seenBy, 4, (some .int), [])
set_option maxRecDepth 100000 in
theorem kca_X5_seenBy : tables_1_6[61]? = some (Cond.code yX5_seenBy cX5_seenBy 4 (some .int)) := rfl
theorem kcw_X5_seenBy : Cond.code yX5_seenBy cX5_seenBy 4 (some .int) ∈ W0 := W0_in (tp_6 (List.mem_of_getElem? kca_X5_seenBy)) rfl
abbrev zk_X5_sortOf : gy := (yX5_sortOf, cX5_sortOf, 2, (some .int), [])
set_option maxRecDepth 100000 in
theorem kca_X5_sortOf : tables_1_5[191]? = some (Cond.code yX5_sortOf cX5_sortOf 2 (some .int)) := rfl
theorem kcw_X5_sortOf : Cond.code yX5_sortOf cX5_sortOf 2 (some .int) ∈ W0 := W0_in (tp_5 (List.mem_of_getElem? kca_X5_sortOf)) rfl
abbrev zk_X5_objectOf : gy := (yX5_objectOf, cX5_objectOf, 2, (some .int), [])
set_option maxRecDepth 100000 in
theorem kca_X5_objectOf : tables_1_6[12]? = some (Cond.code yX5_objectOf cX5_objectOf 2 (some .int)) := rfl
theorem kcw_X5_objectOf : Cond.code yX5_objectOf cX5_objectOf 2 (some .int) ∈ W0 := W0_in (tp_6 (List.mem_of_getElem? kca_X5_objectOf)) rfl
abbrev zk_X5_localsAt : gy := (yX5_localsAt, cX5_localsAt, 2, (some .int), [])
set_option maxRecDepth 100000 in
theorem kca_X5_localsAt : tables_1_5[159]? = some (Cond.code yX5_localsAt cX5_localsAt 2 (some .int)) := rfl
theorem kcw_X5_localsAt : Cond.code yX5_localsAt cX5_localsAt 2 (some .int) ∈ W0 := W0_in (tp_5 (List.mem_of_getElem? kca_X5_localsAt)) rfl
abbrev zk_X5_placeOf : gy := (yX5_placeOf, cX5_placeOf, 5, (some .int), [])
set_option maxRecDepth 100000 in
theorem kca_X5_placeOf : tables_1_6[16]? = some (Cond.code yX5_placeOf cX5_placeOf 5 (some .int)) := rfl
theorem kcw_X5_placeOf : Cond.code yX5_placeOf cX5_placeOf 5 (some .int) ∈ W0 := W0_in (tp_6 (List.mem_of_getElem? kca_X5_placeOf)) rfl
abbrev zk_X5_goesLate : gy := (yX5_goesLate, cX5_goesLate, 2, (some .boolean), [])
set_option maxRecDepth 100000 in
theorem kca_X5_goesLate : tables_1_5[195]? = some (Cond.code yX5_goesLate cX5_goesLate 2 (some .boolean)) := rfl
theorem kcw_X5_goesLate : Cond.code yX5_goesLate cX5_goesLate 2 (some .boolean) ∈ W0 := W0_in (tp_5 (List.mem_of_getElem? kca_X5_goesLate)) rfl
abbrev zk_X5_accessFails : gy := (yX5_accessFails, cX5_accessFails, 3, (some .boolean), [])
set_option maxRecDepth 100000 in
theorem kca_X5_accessFails : tables_1_8[73]? = some (Cond.code yX5_accessFails cX5_accessFails 3 (some .boolean)) := rfl
theorem kcw_X5_accessFails : Cond.code yX5_accessFails cX5_accessFails 3 (some .boolean) ∈ W0 := W0_in (tp_8 (List.mem_of_getElem? kca_X5_accessFails)) rfl
abbrev zk_X5_canAct : gy := (yX5_canAct, cX5_canAct, 4, (some .boolean), [])
set_option maxRecDepth 100000 in
theorem kca_X5_canAct : tables_1_5[187]? = some (Cond.code yX5_canAct cX5_canAct 4 (some .boolean)) := rfl
theorem kcw_X5_canAct : Cond.code yX5_canAct cX5_canAct 4 (some .boolean) ∈ W0 := W0_in (tp_5 (List.mem_of_getElem? kca_X5_canAct)) rfl
abbrev zk_X5_listChoices : gy := (yX5_listChoices, cX5_listChoices, 3, none, [])
set_option maxRecDepth 100000 in
theorem kca_X5_listChoices : tables_1_5[183]? = some (Cond.code yX5_listChoices cX5_listChoices 3 none) := rfl
theorem kcw_X5_listChoices : Cond.code yX5_listChoices cX5_listChoices 3 none ∈ W0 := W0_in (tp_5 (List.mem_of_getElem? kca_X5_listChoices)) rfl
abbrev zk_X5_list : gy := (yX5_list, cX5_list, 4, none, [])
set_option maxRecDepth 100000 in
theorem kca_X5_list : tables_1_5[211]? = some (Cond.code yX5_list cX5_list 4 none) := rfl
theorem kcw_X5_list : Cond.code yX5_list cX5_list 4 none ∈ W0 := W0_in (tp_5 (List.mem_of_getElem? kca_X5_list)) rfl
abbrev zk_X5_listAct : gy := (yX5_listAct, cX5_listAct, 6, none, [])
set_option maxRecDepth 100000 in
theorem kca_X5_listAct : tables_1_5[203]? = some (Cond.code yX5_listAct cX5_listAct 6 none) := rfl
theorem kcw_X5_listAct : Cond.code yX5_listAct cX5_listAct 6 none ∈ W0 := W0_in (tp_5 (List.mem_of_getElem? kca_X5_listAct)) rfl
abbrev zk_X5_isFirstOfCell : gy := (yX5_isFirstOfCell, cX5_isFirstOfCell, 4, (some .boolean), [])
set_option maxRecDepth 100000 in
theorem kca_X5_isFirstOfCell : tables_1_5[215]? = some (Cond.code yX5_isFirstOfCell cX5_isFirstOfCell 4 (some .boolean)) := rfl
theorem kcw_X5_isFirstOfCell : Cond.code yX5_isFirstOfCell cX5_isFirstOfCell 4 (some .boolean) ∈ W0 := W0_in (tp_5 (List.mem_of_getElem? kca_X5_isFirstOfCell)) rfl
abbrev zk_X5_perform : gy := (yX5_perform, cX5_perform, 6, none, [])
set_option maxRecDepth 100000 in
theorem kca_X5_perform : tables_1_6[33]? = some (Cond.code yX5_perform cX5_perform 6 none) := rfl
theorem kcw_X5_perform : Cond.code yX5_perform cX5_perform 6 none ∈ W0 := W0_in (tp_6 (List.mem_of_getElem? kca_X5_perform)) rfl
abbrev zk_X5_bringLate : gy := (yX5_bringLate, cX5_bringLate, 5, none, [])
set_option maxRecDepth 100000 in
theorem kca_X5_bringLate : tables_1_6[41]? = some (Cond.code yX5_bringLate cX5_bringLate 5 none) := rfl
theorem kcw_X5_bringLate : Cond.code yX5_bringLate cX5_bringLate 5 none ∈ W0 := W0_in (tp_6 (List.mem_of_getElem? kca_X5_bringLate)) rfl
abbrev zk_X5_actFailure : gy := (yX5_actFailure, cX5_actFailure, 6, (some .int), [])
set_option maxRecDepth 100000 in
theorem kca_X5_actFailure : tables_1_6[53]? = some (Cond.code yX5_actFailure cX5_actFailure 6 (some .int)) := rfl
theorem kcw_X5_actFailure : Cond.code yX5_actFailure cX5_actFailure 6 (some .int) ∈ W0 := W0_in (tp_6 (List.mem_of_getElem? kca_X5_actFailure)) rfl
abbrev zk_X5_doAccess : gy := (yX5_doAccess, cX5_doAccess, 7, (some .int), [])
set_option maxRecDepth 100000 in
theorem kca_X5_doAccess : tables_1_6[57]? = some (Cond.code yX5_doAccess cX5_doAccess 7 (some .int)) := rfl
theorem kcw_X5_doAccess : Cond.code yX5_doAccess cX5_doAccess 7 (some .int) ∈ W0 := W0_in (tp_6 (List.mem_of_getElem? kca_X5_doAccess)) rfl
abbrev zk_X5_doWrite : gy := (yX5_doWrite, cX5_doWrite, 6, (some .int), [])
set_option maxRecDepth 100000 in
theorem kca_X5_doWrite : tables_1_6[65]? = some (Cond.code yX5_doWrite cX5_doWrite 6 (some .int)) := rfl
theorem kcw_X5_doWrite : Cond.code yX5_doWrite cX5_doWrite 6 (some .int) ∈ W0 := W0_in (tp_6 (List.mem_of_getElem? kca_X5_doWrite)) rfl
abbrev zk_X5_doExchange : gy := (yX5_doExchange, cX5_doExchange, 9, (some .int), [])
set_option maxRecDepth 100000 in
theorem kca_X5_doExchange : tables_1_6[69]? = some (Cond.code yX5_doExchange cX5_doExchange 9 (some .int)) := rfl
theorem kcw_X5_doExchange : Cond.code yX5_doExchange cX5_doExchange 9 (some .int) ∈ W0 := W0_in (tp_6 (List.mem_of_getElem? kca_X5_doExchange)) rfl
abbrev zk_X5_doGive : gy := (yX5_doGive, cX5_doGive, 4, (some .int), [])
set_option maxRecDepth 100000 in
theorem kca_X5_doGive : tables_1_6[81]? = some (Cond.code yX5_doGive cX5_doGive 4 (some .int)) := rfl
theorem kcw_X5_doGive : Cond.code yX5_doGive cX5_doGive 4 (some .int) ∈ W0 := W0_in (tp_6 (List.mem_of_getElem? kca_X5_doGive)) rfl
abbrev zk_X5_doWait : gy := (yX5_doWait, cX5_doWait, 3, (some .int), [])
set_option maxRecDepth 100000 in
theorem kca_X5_doWait : tables_1_6[85]? = some (Cond.code yX5_doWait cX5_doWait 3 (some .int)) := rfl
theorem kcw_X5_doWait : Cond.code yX5_doWait cX5_doWait 3 (some .int) ∈ W0 := W0_in (tp_6 (List.mem_of_getElem? kca_X5_doWait)) rfl
abbrev zk_X5_doRetake : gy := (yX5_doRetake, cX5_doRetake, 3, (some .int), [])
set_option maxRecDepth 100000 in
theorem kca_X5_doRetake : tables_1_6[89]? = some (Cond.code yX5_doRetake cX5_doRetake 3 (some .int)) := rfl
theorem kcw_X5_doRetake : Cond.code yX5_doRetake cX5_doRetake 3 (some .int) ∈ W0 := W0_in (tp_6 (List.mem_of_getElem? kca_X5_doRetake)) rfl
abbrev zk_X5_doWake : gy := (yX5_doWake, cX5_doWake, 6, (some .int), [])
set_option maxRecDepth 100000 in
theorem kca_X5_doWake : tables_1_6[93]? = some (Cond.code yX5_doWake cX5_doWake 6 (some .int)) := rfl
theorem kcw_X5_doWake : Cond.code yX5_doWake cX5_doWake 6 (some .int) ∈ W0 := W0_in (tp_6 (List.mem_of_getElem? kca_X5_doWake)) rfl
abbrev zk_X5_doCallOrBack : gy := (yX5_doCallOrBack, cX5_doCallOrBack, 6, (some .int), [])
set_option maxRecDepth 100000 in
theorem kca_X5_doCallOrBack : tables_1_6[97]? = some (Cond.code yX5_doCallOrBack cX5_doCallOrBack 6 (some .int)) := rfl
theorem kcw_X5_doCallOrBack : Cond.code yX5_doCallOrBack cX5_doCallOrBack 6 (some .int) ∈ W0 := W0_in (tp_6 (List.mem_of_getElem? kca_X5_doCallOrBack)) rfl
abbrev zk_X5_rouse : gy := (yX5_rouse, cX5_rouse, 2, none, [])
set_option maxRecDepth 100000 in
theorem kca_X5_rouse : tables_1_5[134]? = some (Cond.code yX5_rouse cX5_rouse 2 none) := rfl
theorem kcw_X5_rouse : Cond.code yX5_rouse cX5_rouse 2 none ∈ W0 := W0_in (tp_5 (List.mem_of_getElem? kca_X5_rouse)) rfl
abbrev zk_X5_settle : gy := (yX5_settle, cX5_settle, 7, none, [])
set_option maxRecDepth 100000 in
theorem kca_X5_settle : tables_1_5[142]? = some (Cond.code yX5_settle cX5_settle 7 none) := rfl
theorem kcw_X5_settle : Cond.code yX5_settle cX5_settle 7 none ∈ W0 := W0_in (tp_5 (List.mem_of_getElem? kca_X5_settle)) rfl
abbrev zk_X5_ownFailure : gy := (yX5_ownFailure, cX5_ownFailure, 5, (some .int), [])
set_option maxRecDepth 100000 in
theorem kca_X5_ownFailure : tables_1_5[155]? = some (Cond.code yX5_ownFailure cX5_ownFailure 5 (some .int)) := rfl
theorem kcw_X5_ownFailure : Cond.code yX5_ownFailure cX5_ownFailure 5 (some .int) ∈ W0 := W0_in (tp_5 (List.mem_of_getElem? kca_X5_ownFailure)) rfl
abbrev zk_X5_fail : gy := (yX5_fail, cX5_fail, 3, none, [])
set_option maxRecDepth 100000 in
theorem kca_X5_fail : tables_1_5[171]? = some (Cond.code yX5_fail cX5_fail 3 none) := rfl
theorem kcw_X5_fail : Cond.code yX5_fail cX5_fail 3 none ∈ W0 := W0_in (tp_5 (List.mem_of_getElem? kca_X5_fail)) rfl
abbrev zk_X5_mix : gy := (yX5_mix, cX5_mix, 3, (some .int), [])
set_option maxRecDepth 100000 in
theorem kca_X5_mix : tables_1_8[20]? = some (Cond.code yX5_mix cX5_mix 3 (some .int)) := rfl
theorem kcw_X5_mix : Cond.code yX5_mix cX5_mix 3 (some .int) ∈ W0 := W0_in (tp_8 (List.mem_of_getElem? kca_X5_mix)) rfl
abbrev zk_X5_mixPart : gy := (yX5_mixPart, cX5_mixPart, 6, (some .int), [])
set_option maxRecDepth 100000 in
theorem kca_X5_mixPart : tables_1_8[24]? = some (Cond.code yX5_mixPart cX5_mixPart 6 (some .int)) := rfl
theorem kcw_X5_mixPart : Cond.code yX5_mixPart cX5_mixPart 6 (some .int) ∈ W0 := W0_in (tp_8 (List.mem_of_getElem? kca_X5_mixPart)) rfl
abbrev zk_X5_usedOf : gy := (yX5_usedOf, cX5_usedOf, 2, (some .int), [])
set_option maxRecDepth 100000 in
theorem kca_X5_usedOf : tables_1_8[29]? = some (Cond.code yX5_usedOf cX5_usedOf 2 (some .int)) := rfl
theorem kcw_X5_usedOf : Cond.code yX5_usedOf cX5_usedOf 2 (some .int) ∈ W0 := W0_in (tp_8 (List.mem_of_getElem? kca_X5_usedOf)) rfl
abbrev zk_X5_isSame : gy := (yX5_isSame, cX5_isSame, 4, (some .boolean), [])
set_option maxRecDepth 100000 in
theorem kca_X5_isSame : tables_1_8[33]? = some (Cond.code yX5_isSame cX5_isSame 4 (some .boolean)) := rfl
theorem kcw_X5_isSame : Cond.code yX5_isSame cX5_isSame 4 (some .boolean) ∈ W0 := W0_in (tp_8 (List.mem_of_getElem? kca_X5_isSame)) rfl
abbrev zk_X5_isSamePart : gy := (yX5_isSamePart, cX5_isSamePart, 5, (some .boolean), [])
set_option maxRecDepth 100000 in
theorem kca_X5_isSamePart : tables_1_8[37]? = some (Cond.code yX5_isSamePart cX5_isSamePart 5 (some .boolean)) := rfl
theorem kcw_X5_isSamePart : Cond.code yX5_isSamePart cX5_isSamePart 5 (some .boolean) ∈ W0 := W0_in (tp_8 (List.mem_of_getElem? kca_X5_isSamePart)) rfl
abbrev zk_X5_blankUnknown : gy := (yX5_blankUnknown, cX5_blankUnknown, 3, none, [])
set_option maxRecDepth 100000 in
theorem kca_X5_blankUnknown : tables_1_5[175]? = some (Cond.code yX5_blankUnknown cX5_blankUnknown 3 none) := rfl
theorem kcw_X5_blankUnknown : Cond.code yX5_blankUnknown cX5_blankUnknown 3 none ∈ W0 := W0_in (tp_5 (List.mem_of_getElem? kca_X5_blankUnknown)) rfl
abbrev zk_X6_clear : gy := (yX6_clear, cX6_clear, 1, none, [])
set_option maxRecDepth 100000 in
theorem kca_X6_clear : tables_1_3[198]? = some (Cond.code yX6_clear cX6_clear 1 none) := rfl
theorem kcw_X6_clear : Cond.code yX6_clear cX6_clear 1 none ∈ W0 := W0_in (tp_3 (List.mem_of_getElem? kca_X6_clear)) rfl
abbrev zk_X6_tellCell : gy := (yX6_tellCell, cX6_tellCell, 4, none, [])
set_option maxRecDepth 100000 in
theorem kca_X6_tellCell : tables_1_4[82]? = some (Cond.code yX6_tellCell cX6_tellCell 4 none) := rfl
theorem kcw_X6_tellCell : Cond.code yX6_tellCell cX6_tellCell 4 none ∈ W0 := W0_in (tp_4 (List.mem_of_getElem? kca_X6_tellCell)) rfl
abbrev zk_X6_tellLock : gy := (yX6_tellLock, cX6_tellLock, 2, none, [])
set_option maxRecDepth 100000 in
theorem kca_X6_tellLock : tables_1_4[94]? = some (Cond.code yX6_tellLock cX6_tellLock 2 none) := rfl
theorem kcw_X6_tellLock : Cond.code yX6_tellLock cX6_tellLock 2 none ∈ W0 := W0_in (tp_4 (List.mem_of_getElem? kca_X6_tellLock)) rfl
abbrev zk_X6_tellThread : gy := (yX6_tellThread, cX6_tellThread, 2, none, [])
set_option maxRecDepth 100000 in
theorem kca_X6_tellThread : tables_1_4[102]? = some (Cond.code yX6_tellThread cX6_tellThread 2 none) := rfl
theorem kcw_X6_tellThread : Cond.code yX6_tellThread cX6_tellThread 2 none ∈ W0 := W0_in (tp_4 (List.mem_of_getElem? kca_X6_tellThread)) rfl
abbrev zk_X6_isRowSize : gy := (yX6_isRowSize, cX6_isRowSize, 1, (some .boolean), [])
set_option maxRecDepth 100000 in
theorem kca_X6_isRowSize : tables_1_4[67]? = some (Cond.code yX6_isRowSize cX6_isRowSize 1 (some .boolean)) := rfl
theorem kcw_X6_isRowSize : Cond.code yX6_isRowSize cX6_isRowSize 1 (some .boolean) ∈ W0 := W0_in (tp_4 (List.mem_of_getElem? kca_X6_isRowSize)) rfl
abbrev zk_X6_judge : gy := (yX6_judge, cX6_judge, 3, (some .int), [])
set_option maxRecDepth 100000 in
theorem kca_X6_judge : tables_1_4[231]? = some (Cond.code yX6_judge cX6_judge 3 (some .int)) := rfl
theorem kcw_X6_judge : Cond.code yX6_judge cX6_judge 3 (some .int) ∈ W0 := W0_in (tp_4 (List.mem_of_getElem? kca_X6_judge)) rfl
abbrev zk_X6_faultOf : gy := (yX6_faultOf, cX6_faultOf, 2, (some .int), [])
set_option maxRecDepth 100000 in
theorem kca_X6_faultOf : tables_1_4[235]? = some (Cond.code yX6_faultOf cX6_faultOf 2 (some .int)) := rfl
theorem kcw_X6_faultOf : Cond.code yX6_faultOf cX6_faultOf 2 (some .int) ∈ W0 := W0_in (tp_4 (List.mem_of_getElem? kca_X6_faultOf)) rfl
abbrev zk_X6_faultOfCell : gy := (yX6_faultOfCell, cX6_faultOfCell, 2, (some .int), [])
set_option maxRecDepth 100000 in
theorem kca_X6_faultOfCell : tables_1_5[13]? = some (Cond.code yX6_faultOfCell cX6_faultOfCell 2 (some .int)) := rfl
theorem kcw_X6_faultOfCell : Cond.code yX6_faultOfCell cX6_faultOfCell 2 (some .int) ∈ W0 := W0_in (tp_5 (List.mem_of_getElem? kca_X6_faultOfCell)) rfl
abbrev zk_X6_isToldBefore : gy := (yX6_isToldBefore, cX6_isToldBefore, 2, (some .boolean), [])
set_option maxRecDepth 100000 in
theorem kca_X6_isToldBefore : tables_1_4[239]? = some (Cond.code yX6_isToldBefore cX6_isToldBefore 2 (some .boolean)) := rfl
theorem kcw_X6_isToldBefore : Cond.code yX6_isToldBefore cX6_isToldBefore 2 (some .boolean) ∈ W0 := W0_in (tp_4 (List.mem_of_getElem? kca_X6_isToldBefore)) rfl
abbrev zk_X6_isAmong : gy := (yX6_isAmong, cX6_isAmong, 5, (some .boolean), [])
set_option maxRecDepth 100000 in
theorem kca_X6_isAmong : tables_1_5[3]? = some (Cond.code yX6_isAmong cX6_isAmong 5 (some .boolean)) := rfl
theorem kcw_X6_isAmong : Cond.code yX6_isAmong cX6_isAmong 5 (some .boolean) ∈ W0 := W0_in (tp_5 (List.mem_of_getElem? kca_X6_isAmong)) rfl
abbrev zk_X6_cellOf : gy := (yX6_cellOf, cX6_cellOf, 4, (some .int), [])
set_option maxRecDepth 100000 in
theorem kca_X6_cellOf : tables_1_5[17]? = some (Cond.code yX6_cellOf cX6_cellOf 4 (some .int)) := rfl
theorem kcw_X6_cellOf : Cond.code yX6_cellOf cX6_cellOf 4 (some .int) ∈ W0 := W0_in (tp_5 (List.mem_of_getElem? kca_X6_cellOf)) rfl
abbrev zk_X6_numberOf : gy := (yX6_numberOf, cX6_numberOf, 5, (some .int), [])
set_option maxRecDepth 100000 in
theorem kca_X6_numberOf : tables_1_5[8]? = some (Cond.code yX6_numberOf cX6_numberOf 5 (some .int)) := rfl
theorem kcw_X6_numberOf : Cond.code yX6_numberOf cX6_numberOf 5 (some .int) ∈ W0 := W0_in (tp_5 (List.mem_of_getElem? kca_X6_numberOf)) rfl
abbrev zk_X7_tokenHere : gy := (yX7_tokenHere, cX7_tokenHere, 1, (some .int), [])
set_option maxRecDepth 100000 in
theorem kca_X7_tokenHere : tables_1_5[21]? = some (Cond.code yX7_tokenHere cX7_tokenHere 1 (some .int)) := rfl
theorem kcw_X7_tokenHere : Cond.code yX7_tokenHere cX7_tokenHere 1 (some .int) ∈ W0 := W0_in (tp_5 (List.mem_of_getElem? kca_X7_tokenHere)) rfl
abbrev zk_X7_readAll : gy := (yX7_readAll, cX7_readAll, 2, none, [])
set_option maxRecDepth 100000 in
theorem kca_X7_readAll : tables_1_3[194]? = some (Cond.code yX7_readAll cX7_readAll 2 none) := rfl
theorem kcw_X7_readAll : Cond.code yX7_readAll cX7_readAll 2 none ∈ W0 := W0_in (tp_3 (List.mem_of_getElem? kca_X7_readAll)) rfl
abbrev zk_X7_definition : gy := (yX7_definition, cX7_definition, 1, none, [])
set_option maxRecDepth 100000 in
theorem kca_X7_definition : tables_1_3[213]? = some (Cond.code yX7_definition cX7_definition 1 none) := rfl
theorem kcw_X7_definition : Cond.code yX7_definition cX7_definition 1 none ∈ W0 := W0_in (tp_3 (List.mem_of_getElem? kca_X7_definition)) rfl
abbrev zk_X7_sort : gy := (yX7_sort, cX7_sort, 1, (some .int), [])
set_option maxRecDepth 100000 in
theorem kca_X7_sort : tables_1_3[209]? = some (Cond.code yX7_sort cX7_sort 1 (some .int)) := rfl
theorem kcw_X7_sort : Cond.code yX7_sort cX7_sort 1 (some .int) ∈ W0 := W0_in (tp_3 (List.mem_of_getElem? kca_X7_sort)) rfl
abbrev zk_X7_sortBehind : gy := (yX7_sortBehind, cX7_sortBehind, 1, (some .int), [])
set_option maxRecDepth 100000 in
theorem kca_X7_sortBehind : tables_1_4[64]? = some (Cond.code yX7_sortBehind cX7_sortBehind 1 (some .int)) := rfl
theorem kcw_X7_sortBehind : Cond.code yX7_sortBehind cX7_sortBehind 1 (some .int) ∈ W0 := W0_in (tp_4 (List.mem_of_getElem? kca_X7_sortBehind)) rfl
abbrev zk_X7_refuse : gy := (yX7_refuse, cX7_refuse, 2, none, [])
set_option maxRecDepth 100000 in
theorem kca_X7_refuse : tables_1_3[225]? = some (Cond.code yX7_refuse cX7_refuse 2 none) := rfl
theorem kcw_X7_refuse : Cond.code yX7_refuse cX7_refuse 2 none ∈ W0 := W0_in (tp_3 (List.mem_of_getElem? kca_X7_refuse)) rfl
abbrev zk_X7_pass : gy := (yX7_pass, cX7_pass, 1, none, [])
set_option maxRecDepth 100000 in
theorem kca_X7_pass : tables_1_3[221]? = some (Cond.code yX7_pass cX7_pass 1 none) := rfl
theorem kcw_X7_pass : Cond.code yX7_pass cX7_pass 1 none ∈ W0 := W0_in (tp_3 (List.mem_of_getElem? kca_X7_pass)) rfl
abbrev zk_X7_need : gy := (yX7_need, cX7_need, 2, none, [])
set_option maxRecDepth 100000 in
theorem kca_X7_need : tables_1_4[56]? = some (Cond.code yX7_need cX7_need 2 none) := rfl
theorem kcw_X7_need : Cond.code yX7_need cX7_need 2 none ∈ W0 := W0_in (tp_4 (List.mem_of_getElem? kca_X7_need)) rfl
abbrev zk_X7_needFor : gy := (yX7_needFor, cX7_needFor, 3, (some .int), [])
set_option maxRecDepth 100000 in
theorem kca_X7_needFor : tables_1_4[74]? = some (Cond.code yX7_needFor cX7_needFor 3 (some .int)) := rfl
theorem kcw_X7_needFor : Cond.code yX7_needFor cX7_needFor 3 (some .int) ∈ W0 := W0_in (tp_4 (List.mem_of_getElem? kca_X7_needFor)) rfl
abbrev zk_X7_cellDefinition : gy := (yX7_cellDefinition, cX7_cellDefinition, 6, none, [])
set_option maxRecDepth 100000 in
theorem kca_X7_cellDefinition : tables_1_3[217]? = some (Cond.code yX7_cellDefinition cX7_cellDefinition 6 none) := rfl
theorem kcw_X7_cellDefinition : Cond.code yX7_cellDefinition cX7_cellDefinition 6 none ∈ W0 := W0_in (tp_3 (List.mem_of_getElem? kca_X7_cellDefinition)) rfl
abbrev zk_X7_rowAhead : gy := (yX7_rowAhead, cX7_rowAhead, 2, (some .int), [])
set_option maxRecDepth 100000 in
theorem kca_X7_rowAhead : tables_1_4[60]? = some (Cond.code yX7_rowAhead cX7_rowAhead 2 (some .int)) := rfl
theorem kcw_X7_rowAhead : Cond.code yX7_rowAhead cX7_rowAhead 2 (some .int) ∈ W0 := W0_in (tp_4 (List.mem_of_getElem? kca_X7_rowAhead)) rfl
abbrev zk_X7_startValue : gy := (yX7_startValue, cX7_startValue, 3, (some .int), [])
set_option maxRecDepth 100000 in
theorem kca_X7_startValue : tables_1_4[78]? = some (Cond.code yX7_startValue cX7_startValue 3 (some .int)) := rfl
theorem kcw_X7_startValue : Cond.code yX7_startValue cX7_startValue 3 (some .int) ∈ W0 := W0_in (tp_4 (List.mem_of_getElem? kca_X7_startValue)) rfl
abbrev zk_X7_lockDefinition : gy := (yX7_lockDefinition, cX7_lockDefinition, 1, none, [])
set_option maxRecDepth 100000 in
theorem kca_X7_lockDefinition : tables_1_4[90]? = some (Cond.code yX7_lockDefinition cX7_lockDefinition 1 none) := rfl
theorem kcw_X7_lockDefinition : Cond.code yX7_lockDefinition cX7_lockDefinition 1 none ∈ W0 := W0_in (tp_4 (List.mem_of_getElem? kca_X7_lockDefinition)) rfl
abbrev zk_X7_beginThread : gy := (yX7_beginThread, cX7_beginThread, 3, none, [])
set_option maxRecDepth 100000 in
theorem kca_X7_beginThread : tables_1_4[98]? = some (Cond.code yX7_beginThread cX7_beginThread 3 none) := rfl
theorem kcw_X7_beginThread : Cond.code yX7_beginThread cX7_beginThread 3 none ∈ W0 := W0_in (tp_4 (List.mem_of_getElem? kca_X7_beginThread)) rfl
abbrev zk_X7_endThread : gy := (yX7_endThread, cX7_endThread, 1, none, [])
set_option maxRecDepth 100000 in
theorem kca_X7_endThread : tables_1_4[181]? = some (Cond.code yX7_endThread cX7_endThread 1 none) := rfl
theorem kcw_X7_endThread : Cond.code yX7_endThread cX7_endThread 1 none ∈ W0 := W0_in (tp_4 (List.mem_of_getElem? kca_X7_endThread)) rfl
abbrev zk_X7_claim : gy := (yX7_claim, cX7_claim, 4, none, [])
set_option maxRecDepth 100000 in
theorem kca_X7_claim : tables_1_4[114]? = some (Cond.code yX7_claim cX7_claim 4 none) := rfl
theorem kcw_X7_claim : Cond.code yX7_claim cX7_claim 4 none ∈ W0 := W0_in (tp_4 (List.mem_of_getElem? kca_X7_claim)) rfl
abbrev zk_X7_enter : gy := (yX7_enter, cX7_enter, 3, none, [])
set_option maxRecDepth 100000 in
theorem kca_X7_enter : tables_1_4[110]? = some (Cond.code yX7_enter cX7_enter 3 none) := rfl
theorem kcw_X7_enter : Cond.code yX7_enter cX7_enter 3 none ∈ W0 := W0_in (tp_4 (List.mem_of_getElem? kca_X7_enter)) rfl
abbrev zk_X7_openBlock : gy := (yX7_openBlock, cX7_openBlock, 3, none, [])
set_option maxRecDepth 100000 in
theorem kca_X7_openBlock : tables_1_4[106]? = some (Cond.code yX7_openBlock cX7_openBlock 3 none) := rfl
theorem kcw_X7_openBlock : Cond.code yX7_openBlock cX7_openBlock 3 none ∈ W0 := W0_in (tp_4 (List.mem_of_getElem? kca_X7_openBlock)) rfl
abbrev zk_X7_closeBlock : gy := (yX7_closeBlock, cX7_closeBlock, 2, none, [])
set_option maxRecDepth 100000 in
theorem kca_X7_closeBlock : tables_1_4[165]? = some (Cond.code yX7_closeBlock cX7_closeBlock 2 none) := rfl
theorem kcw_X7_closeBlock : Cond.code yX7_closeBlock cX7_closeBlock 2 none ∈ W0 := W0_in (tp_4 (List.mem_of_getElem? kca_X7_closeBlock)) rfl
abbrev zk_X7_openElse : gy := (yX7_openElse, cX7_openElse, 3, none, [])
set_option maxRecDepth 100000 in
theorem kca_X7_openElse : tables_1_4[173]? = some (Cond.code yX7_openElse cX7_openElse 3 none) := rfl
theorem kcw_X7_openElse : Cond.code yX7_openElse cX7_openElse 3 none ∈ W0 := W0_in (tp_4 (List.mem_of_getElem? kca_X7_openElse)) rfl
abbrev zk_X7_endIf : gy := (yX7_endIf, cX7_endIf, 3, none, [])
set_option maxRecDepth 100000 in
theorem kca_X7_endIf : tables_1_4[177]? = some (Cond.code yX7_endIf cX7_endIf 3 none) := rfl
theorem kcw_X7_endIf : Cond.code yX7_endIf cX7_endIf 3 none ∈ W0 := W0_in (tp_4 (List.mem_of_getElem? kca_X7_endIf)) rfl
abbrev zk_X7_testStatement : gy := (yX7_testStatement, cX7_testStatement, 5, none, [])
set_option maxRecDepth 100000 in
theorem kca_X7_testStatement : tables_1_4[219]? = some (Cond.code yX7_testStatement cX7_testStatement 5 none) := rfl
theorem kcw_X7_testStatement : Cond.code yX7_testStatement cX7_testStatement 5 none ∈ W0 := W0_in (tp_4 (List.mem_of_getElem? kca_X7_testStatement)) rfl
abbrev zk_X7_statement : gy := (yX7_statement, cX7_statement, 5, none, [])
set_option maxRecDepth 100000 in
theorem kca_X7_statement : tables_1_4[185]? = some (Cond.code yX7_statement cX7_statement 5 none) := rfl
theorem kcw_X7_statement : Cond.code yX7_statement cX7_statement 5 none ∈ W0 := W0_in (tp_4 (List.mem_of_getElem? kca_X7_statement)) rfl
abbrev zk_X7_opOf : gy := (yX7_opOf, cX7_opOf, 1, (some .int), [])
set_option maxRecDepth 100000 in
theorem kca_X7_opOf : tables_1_4[188]? = some (Cond.code yX7_opOf cX7_opOf 1 (some .int)) := rfl
theorem kcw_X7_opOf : Cond.code yX7_opOf cX7_opOf 1 (some .int) ∈ W0 := W0_in (tp_4 (List.mem_of_getElem? kca_X7_opOf)) rfl
abbrev zk_X7_newLocal : gy := (yX7_newLocal, cX7_newLocal, 2, (some .int), [])
set_option maxRecDepth 100000 in
theorem kca_X7_newLocal : tables_1_4[192]? = some (Cond.code yX7_newLocal cX7_newLocal 2 (some .int)) := rfl
theorem kcw_X7_newLocal : Cond.code yX7_newLocal cX7_newLocal 2 (some .int) ∈ W0 := W0_in (tp_4 (List.mem_of_getElem? kca_X7_newLocal)) rfl
abbrev zk_X7_makeKnown : gy := (yX7_makeKnown, cX7_makeKnown, 2, none, [])
set_option maxRecDepth 100000 in
theorem kca_X7_makeKnown : tables_1_4[207]? = some (Cond.code yX7_makeKnown cX7_makeKnown 2 none) := rfl
theorem kcw_X7_makeKnown : Cond.code yX7_makeKnown cX7_makeKnown 2 none ∈ W0 := W0_in (tp_4 (List.mem_of_getElem? kca_X7_makeKnown)) rfl
abbrev zk_X7_knownFrom : gy := (yX7_knownFrom, cX7_knownFrom, 4, (some .int), [])
set_option maxRecDepth 100000 in
theorem kca_X7_knownFrom : tables_1_4[150]? = some (Cond.code yX7_knownFrom cX7_knownFrom 4 (some .int)) := rfl
theorem kcw_X7_knownFrom : Cond.code yX7_knownFrom cX7_knownFrom 4 (some .int) ∈ W0 := W0_in (tp_4 (List.mem_of_getElem? kca_X7_knownFrom)) rfl
abbrev zk_X7_setTarget : gy := (yX7_setTarget, cX7_setTarget, 2, (some .int), [])
set_option maxRecDepth 100000 in
theorem kca_X7_setTarget : tables_1_4[215]? = some (Cond.code yX7_setTarget cX7_setTarget 2 (some .int)) := rfl
theorem kcw_X7_setTarget : Cond.code yX7_setTarget cX7_setTarget 2 (some .int) ∈ W0 := W0_in (tp_4 (List.mem_of_getElem? kca_X7_setTarget)) rfl
abbrev zk_X7_rowStatement : gy := (yX7_rowStatement, cX7_rowStatement, 6, none, [])
set_option maxRecDepth 100000 in
theorem kca_X7_rowStatement : tables_1_4[211]? = some (Cond.code yX7_rowStatement cX7_rowStatement 6 none) := rfl
theorem kcw_X7_rowStatement : Cond.code yX7_rowStatement cX7_rowStatement 6 none ∈ W0 := W0_in (tp_4 (List.mem_of_getElem? kca_X7_rowStatement)) rfl
abbrev zk_X7_source : gy := (yX7_source, cX7_source, 11, none, [])
set_option maxRecDepth 100000 in
theorem kca_X7_source : tables_1_4[196]? = some (Cond.code yX7_source cX7_source 11 none) := rfl
theorem kcw_X7_source : Cond.code yX7_source cX7_source 11 none ∈ W0 := W0_in (tp_4 (List.mem_of_getElem? kca_X7_source)) rfl
abbrev zk_X7_sourceOp : gy := (yX7_sourceOp, cX7_sourceOp, 2, (some .int), [])
set_option maxRecDepth 100000 in
theorem kca_X7_sourceOp : tables_1_4[200]? = some (Cond.code yX7_sourceOp cX7_sourceOp 2 (some .int)) := rfl
theorem kcw_X7_sourceOp : Cond.code yX7_sourceOp cX7_sourceOp 2 (some .int) ∈ W0 := W0_in (tp_4 (List.mem_of_getElem? kca_X7_sourceOp)) rfl
abbrev zk_X7_useOfCell : gy := (yX7_useOfCell, cX7_useOfCell, 2, (some .int), [])
set_option maxRecDepth 100000 in
theorem kca_X7_useOfCell : tables_1_4[203]? = some (Cond.code yX7_useOfCell cX7_useOfCell 2 (some .int)) := rfl
theorem kcw_X7_useOfCell : Cond.code yX7_useOfCell cX7_useOfCell 2 (some .int) ∈ W0 := W0_in (tp_4 (List.mem_of_getElem? kca_X7_useOfCell)) rfl
abbrev zk_X7_plainStatement : gy := (yX7_plainStatement, cX7_plainStatement, 8, none, [])
set_option maxRecDepth 100000 in
theorem kca_X7_plainStatement : tables_1_4[227]? = some (Cond.code yX7_plainStatement cX7_plainStatement 8 none) := rfl
theorem kcw_X7_plainStatement : Cond.code yX7_plainStatement cX7_plainStatement 8 none ∈ W0 := W0_in (tp_4 (List.mem_of_getElem? kca_X7_plainStatement)) rfl
abbrev zk_X7_nameStep : gy := (yX7_nameStep, cX7_nameStep, 5, (some .int), [])
set_option maxRecDepth 100000 in
theorem kca_X7_nameStep : tables_1_4[223]? = some (Cond.code yX7_nameStep cX7_nameStep 5 (some .int)) := rfl
theorem kcw_X7_nameStep : Cond.code yX7_nameStep cX7_nameStep 5 (some .int) ∈ W0 := W0_in (tp_4 (List.mem_of_getElem? kca_X7_nameStep)) rfl
abbrev zk_X7_sum : gy := (yX7_sum, cX7_sum, 6, (some .int), [])
set_option maxRecDepth 100000 in
theorem kca_X7_sum : tables_1_4[118]? = some (Cond.code yX7_sum cX7_sum 6 (some .int)) := rfl
theorem kcw_X7_sum : Cond.code yX7_sum cX7_sum 6 (some .int) ∈ W0 := W0_in (tp_4 (List.mem_of_getElem? kca_X7_sum)) rfl
abbrev zk_X7_depthHere : gy := (yX7_depthHere, cX7_depthHere, 1, (some .int), [])
set_option maxRecDepth 100000 in
theorem kca_X7_depthHere : tables_1_4[134]? = some (Cond.code yX7_depthHere cX7_depthHere 1 (some .int)) := rfl
theorem kcw_X7_depthHere : Cond.code yX7_depthHere cX7_depthHere 1 (some .int) ∈ W0 := W0_in (tp_4 (List.mem_of_getElem? kca_X7_depthHere)) rfl
abbrev zk_X7_hold : gy := (yX7_hold, cX7_hold, 4, none, [])
set_option maxRecDepth 100000 in
theorem kca_X7_hold : tables_1_4[122]? = some (Cond.code yX7_hold cX7_hold 4 none) := rfl
theorem kcw_X7_hold : Cond.code yX7_hold cX7_hold 4 none ∈ W0 := W0_in (tp_4 (List.mem_of_getElem? kca_X7_hold)) rfl
abbrev zk_X7_release : gy := (yX7_release, cX7_release, 3, none, [])
set_option maxRecDepth 100000 in
theorem kca_X7_release : tables_1_4[158]? = some (Cond.code yX7_release cX7_release 3 none) := rfl
theorem kcw_X7_release : Cond.code yX7_release cX7_release 3 none ∈ W0 := W0_in (tp_4 (List.mem_of_getElem? kca_X7_release)) rfl
abbrev zk_X7_beginsSum : gy := (yX7_beginsSum, cX7_beginsSum, 2, (some .boolean), [])
set_option maxRecDepth 100000 in
theorem kca_X7_beginsSum : tables_1_4[130]? = some (Cond.code yX7_beginsSum cX7_beginsSum 2 (some .boolean)) := rfl
theorem kcw_X7_beginsSum : Cond.code yX7_beginsSum cX7_beginsSum 2 (some .boolean) ∈ W0 := W0_in (tp_4 (List.mem_of_getElem? kca_X7_beginsSum)) rfl
abbrev zk_X7_openOperand : gy := (yX7_openOperand, cX7_openOperand, 5, (some .int), [])
set_option maxRecDepth 100000 in
theorem kca_X7_openOperand : tables_1_4[126]? = some (Cond.code yX7_openOperand cX7_openOperand 5 (some .int)) := rfl
theorem kcw_X7_openOperand : Cond.code yX7_openOperand cX7_openOperand 5 (some .int) ∈ W0 := W0_in (tp_4 (List.mem_of_getElem? kca_X7_openOperand)) rfl
abbrev zk_X7_strengthOf : gy := (yX7_strengthOf, cX7_strengthOf, 1, (some .int), [])
set_option maxRecDepth 100000 in
theorem kca_X7_strengthOf : tables_1_4[161]? = some (Cond.code yX7_strengthOf cX7_strengthOf 1 (some .int)) := rfl
theorem kcw_X7_strengthOf : Cond.code yX7_strengthOf cX7_strengthOf 1 (some .int) ∈ W0 := W0_in (tp_4 (List.mem_of_getElem? kca_X7_strengthOf)) rfl
abbrev zk_X7_readOperand : gy := (yX7_readOperand, cX7_readOperand, 2, none, [])
set_option maxRecDepth 100000 in
theorem kca_X7_readOperand : tables_1_4[146]? = some (Cond.code yX7_readOperand cX7_readOperand 2 none) := rfl
theorem kcw_X7_readOperand : Cond.code yX7_readOperand cX7_readOperand 2 none ∈ W0 := W0_in (tp_4 (List.mem_of_getElem? kca_X7_readOperand)) rfl
abbrev zk_X7_claimedCell : gy := (yX7_claimedCell, cX7_claimedCell, 2, none, [])
set_option maxRecDepth 100000 in
theorem kca_X7_claimedCell : tables_1_4[138]? = some (Cond.code yX7_claimedCell cX7_claimedCell 2 none) := rfl
theorem kcw_X7_claimedCell : Cond.code yX7_claimedCell cX7_claimedCell 2 none ∈ W0 := W0_in (tp_4 (List.mem_of_getElem? kca_X7_claimedCell)) rfl
abbrev zk_X7_link : gy := (yX7_link, cX7_link, 5, none, [])
set_option maxRecDepth 100000 in
theorem kca_X7_link : tables_1_5[25]? = some (Cond.code yX7_link cX7_link 5 none) := rfl
theorem kcw_X7_link : Cond.code yX7_link cX7_link 5 none ∈ W0 := W0_in (tp_5 (List.mem_of_getElem? kca_X7_link)) rfl
abbrev zk_X8_add : gy := (yX8_add, cX8_add, 5, (some .int), [])
set_option maxRecDepth 100000 in
theorem kca_X8_add : tables_1_4[169]? = some (Cond.code yX8_add cX8_add 5 (some .int)) := rfl
theorem kcw_X8_add : Cond.code yX8_add cX8_add 5 (some .int) ∈ W0 := W0_in (tp_4 (List.mem_of_getElem? kca_X8_add)) rfl
abbrev zk_X9_addByte : gy := (yX9_addByte, cX9_addByte, 2, none, [])
set_option maxRecDepth 100000 in
theorem kca_X9_addByte : tables_1_5[69]? = some (Cond.code yX9_addByte cX9_addByte 2 none) := rfl
theorem kcw_X9_addByte : Cond.code yX9_addByte cX9_addByte 2 none ∈ W0 := W0_in (tp_5 (List.mem_of_getElem? kca_X9_addByte)) rfl
abbrev zk_X9_cut : gy := (yX9_cut, cX9_cut, 3, none, [])
set_option maxRecDepth 100000 in
theorem kca_X9_cut : tables_1_3[108]? = some (Cond.code yX9_cut cX9_cut 3 none) := rfl
theorem kcw_X9_cut : Cond.code yX9_cut cX9_cut 3 none ∈ W0 := W0_in (tp_3 (List.mem_of_getElem? kca_X9_cut)) rfl
abbrev zk_X9_sameName : gy := (yX9_sameName, cX9_sameName, 4, (some .boolean), [])
set_option maxRecDepth 100000 in
theorem kca_X9_sameName : tables_1_4[154]? = some (Cond.code yX9_sameName cX9_sameName 4 (some .boolean)) := rfl
theorem kcw_X9_sameName : Cond.code yX9_sameName cX9_sameName 4 (some .boolean) ∈ W0 := W0_in (tp_4 (List.mem_of_getElem? kca_X9_sameName)) rfl
abbrev zk_X9_byteAt : gy := (yX9_byteAt, cX9_byteAt, 2, (some .int), [])
set_option maxRecDepth 100000 in
theorem kca_X9_byteAt : tables_1_3[116]? = some (Cond.code yX9_byteAt cX9_byteAt 2 (some .int)) := rfl
theorem kcw_X9_byteAt : Cond.code yX9_byteAt cX9_byteAt 2 (some .int) ∈ W0 := W0_in (tp_3 (List.mem_of_getElem? kca_X9_byteAt)) rfl
abbrev zk_X9_skipBlanks : gy := (yX9_skipBlanks, cX9_skipBlanks, 3, none, [])
set_option maxRecDepth 100000 in
theorem kca_X9_skipBlanks : tables_1_3[112]? = some (Cond.code yX9_skipBlanks cX9_skipBlanks 3 none) := rfl
theorem kcw_X9_skipBlanks : Cond.code yX9_skipBlanks cX9_skipBlanks 3 none ∈ W0 := W0_in (tp_3 (List.mem_of_getElem? kca_X9_skipBlanks)) rfl
abbrev zk_X9_cutOne : gy := (yX9_cutOne, cX9_cutOne, 3, (some .int), [])
set_option maxRecDepth 100000 in
theorem kca_X9_cutOne : tables_1_3[120]? = some (Cond.code yX9_cutOne cX9_cutOne 3 (some .int)) := rfl
theorem kcw_X9_cutOne : Cond.code yX9_cutOne cX9_cutOne 3 (some .int) ∈ W0 := W0_in (tp_3 (List.mem_of_getElem? kca_X9_cutOne)) rfl
abbrev zk_X9_passLettersAndDigits : gy := (yX9_passLettersAndDigits, cX9_passLettersAndDigits, 3, none, [])
set_option maxRecDepth 100000 in
theorem kca_X9_passLettersAndDigits : tables_1_3[127]? = some (Cond.code yX9_passLettersAndDigits cX9_passLettersAndDigits 3 none) := rfl
theorem kcw_X9_passLettersAndDigits : Cond.code yX9_passLettersAndDigits cX9_passLettersAndDigits 3 none ∈ W0 := W0_in (tp_3 (List.mem_of_getElem? kca_X9_passLettersAndDigits)) rfl
abbrev zk_X9_nameOrWord : gy := (yX9_nameOrWord, cX9_nameOrWord, 4, (some .int), [])
set_option maxRecDepth 100000 in
theorem kca_X9_nameOrWord : tables_1_3[134]? = some (Cond.code yX9_nameOrWord cX9_nameOrWord 4 (some .int)) := rfl
theorem kcw_X9_nameOrWord : Cond.code yX9_nameOrWord cX9_nameOrWord 4 (some .int) ∈ W0 := W0_in (tp_3 (List.mem_of_getElem? kca_X9_nameOrWord)) rfl
abbrev zk_X9_isWord : gy := (yX9_isWord, cX9_isWord, 6, (some .boolean), [])
set_option maxRecDepth 100000 in
theorem kca_X9_isWord : tables_1_3[138]? = some (Cond.code yX9_isWord cX9_isWord 6 (some .boolean)) := rfl
theorem kcw_X9_isWord : Cond.code yX9_isWord cX9_isWord 6 (some .boolean) ∈ W0 := W0_in (tp_3 (List.mem_of_getElem? kca_X9_isWord)) rfl
abbrev zk_X9_wholeOrBad : gy := (yX9_wholeOrBad, cX9_wholeOrBad, 5, (some .int), [])
set_option maxRecDepth 100000 in
theorem kca_X9_wholeOrBad : tables_1_3[183]? = some (Cond.code yX9_wholeOrBad cX9_wholeOrBad 5 (some .int)) := rfl
theorem kcw_X9_wholeOrBad : Cond.code yX9_wholeOrBad cX9_wholeOrBad 5 (some .int) ∈ W0 := W0_in (tp_3 (List.mem_of_getElem? kca_X9_wholeOrBad)) rfl
abbrev zk_X9_sign : gy := (yX9_sign, cX9_sign, 4, (some .int), [])
set_option maxRecDepth 100000 in
theorem kca_X9_sign : tables_1_3[187]? = some (Cond.code yX9_sign cX9_sign 4 (some .int)) := rfl
theorem kcw_X9_sign : Cond.code yX9_sign cX9_sign 4 (some .int) ∈ W0 := W0_in (tp_3 (List.mem_of_getElem? kca_X9_sign)) rfl
abbrev zk_X9_singleSign : gy := (yX9_singleSign, cX9_singleSign, 1, (some .int), [])
set_option maxRecDepth 100000 in
theorem kca_X9_singleSign : tables_1_3[190]? = some (Cond.code yX9_singleSign cX9_singleSign 1 (some .int)) := rfl
theorem kcw_X9_singleSign : Cond.code yX9_singleSign cX9_singleSign 1 (some .int) ∈ W0 := W0_in (tp_3 (List.mem_of_getElem? kca_X9_singleSign)) rfl
abbrev zk_X9_isLetter : gy := (yX9_isLetter, cX9_isLetter, 1, (some .boolean), [])
set_option maxRecDepth 100000 in
theorem kca_X9_isLetter : tables_1_3[123]? = some (Cond.code yX9_isLetter cX9_isLetter 1 (some .boolean)) := rfl
theorem kcw_X9_isLetter : Cond.code yX9_isLetter cX9_isLetter 1 (some .boolean) ∈ W0 := W0_in (tp_3 (List.mem_of_getElem? kca_X9_isLetter)) rfl
abbrev zk_X9_isDigit : gy := (yX9_isDigit, cX9_isDigit, 1, (some .boolean), [])
set_option maxRecDepth 100000 in
theorem kca_X9_isDigit : tables_1_3[130]? = some (Cond.code yX9_isDigit cX9_isDigit 1 (some .boolean)) := rfl
theorem kcw_X9_isDigit : Cond.code yX9_isDigit cX9_isDigit 1 (some .boolean) ∈ W0 := W0_in (tp_3 (List.mem_of_getElem? kca_X9_isDigit)) rfl
abbrev zk_X10_clear : gy := (yX10_clear, cX10_clear, 2, none, [])
set_option maxRecDepth 100000 in
theorem kca_X10_clear : tables_1_8[5]? = some (Cond.code yX10_clear cX10_clear 2 none) := rfl
theorem kcw_X10_clear : Cond.code yX10_clear cX10_clear 2 none ∈ W0 := W0_in (tp_8 (List.mem_of_getElem? kca_X10_clear)) rfl
abbrev zk_X10_addState : gy := (yX10_addState, cX10_addState, 3, none, [])
set_option maxRecDepth 100000 in
theorem kca_X10_addState : tables_1_8[46]? = some (Cond.code yX10_addState cX10_addState 3 none) := rfl
theorem kcw_X10_addState : Cond.code yX10_addState cX10_addState 3 none ∈ W0 := W0_in (tp_8 (List.mem_of_getElem? kca_X10_addState)) rfl
abbrev zk_X10_find : gy := (yX10_find, cX10_find, 3, none, [])
set_option maxRecDepth 100000 in
theorem kca_X10_find : tables_1_8[87]? = some (Cond.code yX10_find cX10_find 3 none) := rfl
theorem kcw_X10_find : Cond.code yX10_find cX10_find 3 none ∈ W0 := W0_in (tp_8 (List.mem_of_getElem? kca_X10_find)) rfl
abbrev zk_X10_pathTo : gy := (yX10_pathTo, cX10_pathTo, 5, none, [])
set_option maxRecDepth 100000 in
theorem kca_X10_pathTo : tables_1_8[156]? = some (Cond.code yX10_pathTo cX10_pathTo 5 none) := rfl
theorem kcw_X10_pathTo : Cond.code yX10_pathTo cX10_pathTo 5 none ∈ W0 := W0_in (tp_8 (List.mem_of_getElem? kca_X10_pathTo)) rfl
abbrev zk_X10_addTake : gy := (yX10_addTake, cX10_addTake, 4, none, [])
set_option maxRecDepth 100000 in
theorem kca_X10_addTake : tables_1_8[69]? = some (Cond.code yX10_addTake cX10_addTake 4 none) := rfl
theorem kcw_X10_addTake : Cond.code yX10_addTake cX10_addTake 4 none ∈ W0 := W0_in (tp_8 (List.mem_of_getElem? kca_X10_addTake)) rfl
abbrev zk_X10_shortestRing : gy := (yX10_shortestRing, cX10_shortestRing, 4, (some .int), [])
set_option maxRecDepth 100000 in
theorem kca_X10_shortestRing : tables_1_8[174]? = some (Cond.code yX10_shortestRing cX10_shortestRing 4 (some .int)) := rfl
theorem kcw_X10_shortestRing : Cond.code yX10_shortestRing cX10_shortestRing 4 (some .int) ∈ W0 := W0_in (tp_8 (List.mem_of_getElem? kca_X10_shortestRing)) rfl
abbrev zk_X10_ringFrom : gy := (yX10_ringFrom, cX10_ringFrom, 6, (some .int), [])
set_option maxRecDepth 100000 in
theorem kca_X10_ringFrom : tables_1_8[178]? = some (Cond.code yX10_ringFrom cX10_ringFrom 6 (some .int)) := rfl
theorem kcw_X10_ringFrom : Cond.code yX10_ringFrom cX10_ringFrom 6 (some .int) ∈ W0 := W0_in (tp_8 (List.mem_of_getElem? kca_X10_ringFrom)) rfl
abbrev zk_X10_valueOf : gy := (yX10_valueOf, cX10_valueOf, 3, (some .int), [])
set_option maxRecDepth 100000 in
theorem kca_X10_valueOf : tables_1_8[129]? = some (Cond.code yX10_valueOf cX10_valueOf 3 (some .int)) := rfl
theorem kcw_X10_valueOf : Cond.code yX10_valueOf cX10_valueOf 3 (some .int) ∈ W0 := W0_in (tp_8 (List.mem_of_getElem? kca_X10_valueOf)) rfl
abbrev zk_X10_addOutcome : gy := (yX10_addOutcome, cX10_addOutcome, 8, none, [])
set_option maxRecDepth 100000 in
theorem kca_X10_addOutcome : tables_1_8[95]? = some (Cond.code yX10_addOutcome cX10_addOutcome 8 none) := rfl
theorem kcw_X10_addOutcome : Cond.code yX10_addOutcome cX10_addOutcome 8 none ∈ W0 := W0_in (tp_8 (List.mem_of_getElem? kca_X10_addOutcome)) rfl
abbrev zk_X10_insertOutcome : gy := (yX10_insertOutcome, cX10_insertOutcome, 4, none, [])
set_option maxRecDepth 100000 in
theorem kca_X10_insertOutcome : tables_1_8[99]? = some (Cond.code yX10_insertOutcome cX10_insertOutcome 4 none) := rfl
theorem kcw_X10_insertOutcome : Cond.code yX10_insertOutcome cX10_insertOutcome 4 none ∈ W0 := W0_in (tp_8 (List.mem_of_getElem? kca_X10_insertOutcome)) rfl
abbrev zk_X10_order : gy := (yX10_order, cX10_order, 4, (some .int), [])
set_option maxRecDepth 100000 in
theorem kca_X10_order : tables_1_5[40]? = some (Cond.code yX10_order cX10_order 4 (some .int)) := rfl
theorem kcw_X10_order : Cond.code yX10_order cX10_order 4 (some .int) ∈ W0 := W0_in (tp_5 (List.mem_of_getElem? kca_X10_order)) rfl
abbrev zk_X10_sameOutcomes : gy := (yX10_sameOutcomes, cX10_sameOutcomes, 4, (some .boolean), [])
set_option maxRecDepth 100000 in
theorem kca_X10_sameOutcomes : tables_1_5[37]? = some (Cond.code yX10_sameOutcomes cX10_sameOutcomes 4 (some .boolean)) := rfl
theorem kcw_X10_sameOutcomes : Cond.code yX10_sameOutcomes cX10_sameOutcomes 4 (some .boolean) ∈ W0 := W0_in (tp_5 (List.mem_of_getElem? kca_X10_sameOutcomes)) rfl
abbrev zk_X11_feed : gy := (yX11_feed, cX11_feed, 5, (some .int), [])
set_option maxRecDepth 100000 in
theorem kca_X11_feed : tables_1_5[48]? = some (Cond.code yX11_feed cX11_feed 5 (some .int)) := rfl
theorem kcw_X11_feed : Cond.code yX11_feed cX11_feed 5 (some .int) ∈ W0 := W0_in (tp_5 (List.mem_of_getElem? kca_X11_feed)) rfl
abbrev zk_X11_wipe : gy := (yX11_wipe, cX11_wipe, 2, (some .int), [])
set_option maxRecDepth 100000 in
theorem kca_X11_wipe : tables_1_3[95]? = some (Cond.code yX11_wipe cX11_wipe 2 (some .int)) := rfl
theorem kcw_X11_wipe : Cond.code yX11_wipe cX11_wipe 2 (some .int) ∈ W0 := W0_in (tp_3 (List.mem_of_getElem? kca_X11_wipe)) rfl
abbrev zk_X11_compile : gy := (yX11_compile, cX11_compile, 4, (some .int), [(15, 38, 41, 102)])
set_option maxRecDepth 100000 in
theorem kca_X11_compile : tables_1_3[103]? = some (Cond.codeWith yX11_compile cX11_compile 4 (some .int) [(15, 38, 41, 102)]) := rfl
theorem kcw_X11_compile : Cond.codeWith yX11_compile cX11_compile 4 (some .int) [(15, 38, 41, 102)] ∈ W0 := W0_in (tp_3 (List.mem_of_getElem? kca_X11_compile)) rfl
abbrev zk_X11_fault : gy := (yX11_fault, cX11_fault, 2, (some .int), [])
set_option maxRecDepth 100000 in
theorem kca_X11_fault : tables_1_5[77]? = some (Cond.code yX11_fault cX11_fault 2 (some .int)) := rfl
theorem kcw_X11_fault : Cond.code yX11_fault cX11_fault 2 (some .int) ∈ W0 := W0_in (tp_5 (List.mem_of_getElem? kca_X11_fault)) rfl
abbrev zk_X11_count : gy := (yX11_count, cX11_count, 2, (some .int), [])
set_option maxRecDepth 100000 in
theorem kca_X11_count : tables_1_5[100]? = some (Cond.code yX11_count cX11_count 2 (some .int)) := rfl
theorem kcw_X11_count : Cond.code yX11_count cX11_count 2 (some .int) ∈ W0 := W0_in (tp_5 (List.mem_of_getElem? kca_X11_count)) rfl
abbrev zk_X11_begin : gy := (yX11_begin, cX11_begin, 2, (some .int), [])
set_option maxRecDepth 100000 in
theorem kca_X11_begin : tables_1_5[111]? = some (Cond.code yX11_begin cX11_begin 2 (some .int)) := rfl
theorem kcw_X11_begin : Cond.code yX11_begin cX11_begin 2 (some .int) ∈ W0 := W0_in (tp_5 (List.mem_of_getElem? kca_X11_begin)) rfl
abbrev zk_X11_choices : gy := (yX11_choices, cX11_choices, 1, (some .int), [])
set_option maxRecDepth 100000 in
theorem kca_X11_choices : tables_1_5[231]? = some (Cond.code yX11_choices cX11_choices 1 (some .int)) := rfl
theorem kcw_X11_choices : Cond.code yX11_choices cX11_choices 1 (some .int) ∈ W0 := W0_in (tp_5 (List.mem_of_getElem? kca_X11_choices)) rfl
abbrev zk_X11_choice : gy := (yX11_choice, cX11_choice, 5, (some .int), [])
set_option maxRecDepth 100000 in
theorem kca_X11_choice : tables_1_6[3]? = some (Cond.code yX11_choice cX11_choice 5 (some .int)) := rfl
theorem kcw_X11_choice : Cond.code yX11_choice cX11_choice 5 (some .int) ∈ W0 := W0_in (tp_6 (List.mem_of_getElem? kca_X11_choice)) rfl
abbrev zk_X11_go : gy := (yX11_go, cX11_go, 2, (some .int), [])
set_option maxRecDepth 100000 in
theorem kca_X11_go : tables_1_6[24]? = some (Cond.code yX11_go cX11_go 2 (some .int)) := rfl
theorem kcw_X11_go : Cond.code yX11_go cX11_go 2 (some .int) ∈ W0 := W0_in (tp_6 (List.mem_of_getElem? kca_X11_go)) rfl
abbrev zk_X11_draw : gy := (yX11_draw, cX11_draw, 6, (some .int), [])
set_option maxRecDepth 100000 in
theorem kca_X11_draw : tables_1_6[143]? = some (Cond.code yX11_draw cX11_draw 6 (some .int)) := rfl
theorem kcw_X11_draw : Cond.code yX11_draw cX11_draw 6 (some .int) ∈ W0 := W0_in (tp_6 (List.mem_of_getElem? kca_X11_draw)) rfl
abbrev zk_X11_again : gy := (yX11_again, cX11_again, 3, (some .int), [])
set_option maxRecDepth 100000 in
theorem kca_X11_again : tables_1_6[152]? = some (Cond.code yX11_again cX11_again 3 (some .int)) := rfl
theorem kcw_X11_again : Cond.code yX11_again cX11_again 3 (some .int) ∈ W0 := W0_in (tp_6 (List.mem_of_getElem? kca_X11_again)) rfl
abbrev zk_X11_run : gy := (yX11_run, cX11_run, 2, (some .int), [])
set_option maxRecDepth 100000 in
theorem kca_X11_run : tables_1_6[160]? = some (Cond.code yX11_run cX11_run 2 (some .int)) := rfl
theorem kcw_X11_run : Cond.code yX11_run cX11_run 2 (some .int) ∈ W0 := W0_in (tp_6 (List.mem_of_getElem? kca_X11_run)) rfl
abbrev zk_X11_cell : gy := (yX11_cell, cX11_cell, 2, (some .int), [])
set_option maxRecDepth 100000 in
theorem kca_X11_cell : tables_1_6[183]? = some (Cond.code yX11_cell cX11_cell 2 (some .int)) := rfl
theorem kcw_X11_cell : Cond.code yX11_cell cX11_cell 2 (some .int) ∈ W0 := W0_in (tp_6 (List.mem_of_getElem? kca_X11_cell)) rfl
abbrev zk_X11_seen : gy := (yX11_seen, cX11_seen, 3, (some .int), [])
set_option maxRecDepth 100000 in
theorem kca_X11_seen : tables_1_6[190]? = some (Cond.code yX11_seen cX11_seen 3 (some .int)) := rfl
theorem kcw_X11_seen : Cond.code yX11_seen cX11_seen 3 (some .int) ∈ W0 := W0_in (tp_6 (List.mem_of_getElem? kca_X11_seen)) rfl
abbrev zk_X11_lock : gy := (yX11_lock, cX11_lock, 3, (some .int), [])
set_option maxRecDepth 100000 in
theorem kca_X11_lock : tables_1_6[198]? = some (Cond.code yX11_lock cX11_lock 3 (some .int)) := rfl
theorem kcw_X11_lock : Cond.code yX11_lock cX11_lock 3 (some .int) ∈ W0 := W0_in (tp_6 (List.mem_of_getElem? kca_X11_lock)) rfl
abbrev zk_X11_thread : gy := (yX11_thread, cX11_thread, 3, (some .int), [])
set_option maxRecDepth 100000 in
theorem kca_X11_thread : tables_1_6[214]? = some (Cond.code yX11_thread cX11_thread 3 (some .int)) := rfl
theorem kcw_X11_thread : Cond.code yX11_thread cX11_thread 3 (some .int) ∈ W0 := W0_in (tp_6 (List.mem_of_getElem? kca_X11_thread)) rfl
abbrev zk_X11_local : gy := (yX11_local, cX11_local, 3, (some .int), [])
set_option maxRecDepth 100000 in
theorem kca_X11_local : tables_1_6[227]? = some (Cond.code yX11_local cX11_local 3 (some .int)) := rfl
theorem kcw_X11_local : Cond.code yX11_local cX11_local 3 (some .int) ∈ W0 := W0_in (tp_6 (List.mem_of_getElem? kca_X11_local)) rfl
abbrev zk_X11_act : gy := (yX11_act, cX11_act, 3, (some .int), [])
set_option maxRecDepth 100000 in
theorem kca_X11_act : tables_1_6[234]? = some (Cond.code yX11_act cX11_act 3 (some .int)) := rfl
theorem kcw_X11_act : Cond.code yX11_act cX11_act 3 (some .int) ∈ W0 := W0_in (tp_6 (List.mem_of_getElem? kca_X11_act)) rfl
abbrev zk_X11_before : gy := (yX11_before, cX11_before, 3, (some .boolean), [])
set_option maxRecDepth 100000 in
theorem kca_X11_before : tables_1_7[1]? = some (Cond.code yX11_before cX11_before 3 (some .boolean)) := rfl
theorem kcw_X11_before : Cond.code yX11_before cX11_before 3 (some .boolean) ∈ W0 := W0_in (tp_7 (List.mem_of_getElem? kca_X11_before)) rfl
abbrev zk_X11_race : gy := (yX11_race, cX11_race, 4, (some .int), [])
set_option maxRecDepth 100000 in
theorem kca_X11_race : tables_1_7[9]? = some (Cond.code yX11_race cX11_race 4 (some .int)) := rfl
theorem kcw_X11_race : Cond.code yX11_race cX11_race 4 (some .int) ∈ W0 := W0_in (tp_7 (List.mem_of_getElem? kca_X11_race)) rfl
abbrev zk_X11_linear : gy := (yX11_linear, cX11_linear, 3, (some .int), [])
set_option maxRecDepth 100000 in
theorem kca_X11_linear : tables_1_7[24]? = some (Cond.code yX11_linear cX11_linear 3 (some .int)) := rfl
theorem kcw_X11_linear : Cond.code yX11_linear cX11_linear 3 (some .int) ∈ W0 := W0_in (tp_7 (List.mem_of_getElem? kca_X11_linear)) rfl
abbrev zk_X11_attempt : gy := (yX11_attempt, cX11_attempt, 3, (some .int), [])
set_option maxRecDepth 100000 in
theorem kca_X11_attempt : tables_1_7[132]? = some (Cond.code yX11_attempt cX11_attempt 3 (some .int)) := rfl
theorem kcw_X11_attempt : Cond.code yX11_attempt cX11_attempt 3 (some .int) ∈ W0 := W0_in (tp_7 (List.mem_of_getElem? kca_X11_attempt)) rfl
abbrev zk_X11_tried : gy := (yX11_tried, cX11_tried, 4, (some .int), [])
set_option maxRecDepth 100000 in
theorem kca_X11_tried : tables_1_8[118]? = some (Cond.code yX11_tried cX11_tried 4 (some .int)) := rfl
theorem kcw_X11_tried : Cond.code yX11_tried cX11_tried 4 (some .int) ∈ W0 := W0_in (tp_8 (List.mem_of_getElem? kca_X11_tried)) rfl
abbrev zk_X11_outcome : gy := (yX11_outcome, cX11_outcome, 4, (some .int), [])
set_option maxRecDepth 100000 in
theorem kca_X11_outcome : tables_1_8[125]? = some (Cond.code yX11_outcome cX11_outcome 4 (some .int)) := rfl
theorem kcw_X11_outcome : Cond.code yX11_outcome cX11_outcome 4 (some .int) ∈ W0 := W0_in (tp_8 (List.mem_of_getElem? kca_X11_outcome)) rfl
abbrev zk_X11_finding : gy := (yX11_finding, cX11_finding, 4, (some .int), [])
set_option maxRecDepth 100000 in
theorem kca_X11_finding : tables_1_8[136]? = some (Cond.code yX11_finding cX11_finding 4 (some .int)) := rfl
theorem kcw_X11_finding : Cond.code yX11_finding cX11_finding 4 (some .int) ∈ W0 := W0_in (tp_8 (List.mem_of_getElem? kca_X11_finding)) rfl
abbrev zk_X11_show : gy := (yX11_show, cX11_show, 6, (some .int), [])
set_option maxRecDepth 100000 in
theorem kca_X11_show : tables_1_8[151]? = some (Cond.code yX11_show cX11_show 6 (some .int)) := rfl
theorem kcw_X11_show : Cond.code yX11_show cX11_show 6 (some .int) ∈ W0 := W0_in (tp_8 (List.mem_of_getElem? kca_X11_show)) rfl
abbrev zk_X11_common : gy := (yX11_common, cX11_common, 3, (some .int), [])
set_option maxRecDepth 100000 in
theorem kca_X11_common : tables_1_8[163]? = some (Cond.code yX11_common cX11_common 3 (some .int)) := rfl
theorem kcw_X11_common : Cond.code yX11_common cX11_common 3 (some .int) ∈ W0 := W0_in (tp_8 (List.mem_of_getElem? kca_X11_common)) rfl
abbrev zk_X11_ring : gy := (yX11_ring, cX11_ring, 2, (some .int), [])
set_option maxRecDepth 100000 in
theorem kca_X11_ring : tables_1_8[170]? = some (Cond.code yX11_ring cX11_ring 2 (some .int)) := rfl
theorem kcw_X11_ring : Cond.code yX11_ring cX11_ring 2 (some .int) ∈ W0 := W0_in (tp_8 (List.mem_of_getElem? kca_X11_ring)) rfl
abbrev zk_X11_alike : gy := (yX11_alike, cX11_alike, 1, (some .int), [])
set_option maxRecDepth 100000 in
theorem kca_X11_alike : tables_1_5[29]? = some (Cond.code yX11_alike cX11_alike 1 (some .int)) := rfl
theorem kcw_X11_alike : Cond.code yX11_alike cX11_alike 1 (some .int) ∈ W0 := W0_in (tp_5 (List.mem_of_getElem? kca_X11_alike)) rfl
abbrev zk_X11_forgetAll : gy := (yX11_forgetAll, cX11_forgetAll, 2, none, [])
set_option maxRecDepth 100000 in
theorem kca_X11_forgetAll : tables_1_3[99]? = some (Cond.code yX11_forgetAll cX11_forgetAll 2 none) := rfl
theorem kcw_X11_forgetAll : Cond.code yX11_forgetAll cX11_forgetAll 2 none ∈ W0 := W0_in (tp_3 (List.mem_of_getElem? kca_X11_forgetAll)) rfl
abbrev zk_X11_beginRun : gy := (yX11_beginRun, cX11_beginRun, 2, none, [])
set_option maxRecDepth 100000 in
theorem kca_X11_beginRun : tables_1_5[125]? = some (Cond.code yX11_beginRun cX11_beginRun 2 none) := rfl
theorem kcw_X11_beginRun : Cond.code yX11_beginRun cX11_beginRun 2 none ∈ W0 := W0_in (tp_5 (List.mem_of_getElem? kca_X11_beginRun)) rfl
abbrev zk_X11_doChoice : gy := (yX11_doChoice, cX11_doChoice, 2, none, [])
set_option maxRecDepth 100000 in
theorem kca_X11_doChoice : tables_1_6[29]? = some (Cond.code yX11_doChoice cX11_doChoice 2 none) := rfl
theorem kcw_X11_doChoice : Cond.code yX11_doChoice cX11_doChoice 2 none ∈ W0 := W0_in (tp_6 (List.mem_of_getElem? kca_X11_doChoice)) rfl
abbrev zk_X11_wasTried : gy := (yX11_wasTried, cX11_wasTried, 2, (some .boolean), [])
set_option maxRecDepth 100000 in
theorem kca_X11_wasTried : tables_1_5[33]? = some (Cond.code yX11_wasTried cX11_wasTried 2 (some .boolean)) := rfl
theorem kcw_X11_wasTried : Cond.code yX11_wasTried cX11_wasTried 2 (some .boolean) ∈ W0 := W0_in (tp_5 (List.mem_of_getElem? kca_X11_wasTried)) rfl
abbrev zk_X11_firstState : gy := (yX11_firstState, cX11_firstState, 3, (some .int), [])
set_option maxRecDepth 100000 in
theorem kca_X11_firstState : tables_1_8[144]? = some (Cond.code yX11_firstState cX11_firstState 3 (some .int)) := rfl
theorem kcw_X11_firstState : Cond.code yX11_firstState cX11_firstState 3 (some .int) ∈ W0 := W0_in (tp_8 (List.mem_of_getElem? kca_X11_firstState)) rfl
abbrev zk_X11_needCompiled : gy := (yX11_needCompiled, cX11_needCompiled, 1, none, [])
set_option maxRecDepth 100000 in
theorem kca_X11_needCompiled : tables_1_5[115]? = some (Cond.code yX11_needCompiled cX11_needCompiled 1 none) := rfl
theorem kcw_X11_needCompiled : Cond.code yX11_needCompiled cX11_needCompiled 1 none ∈ W0 := W0_in (tp_5 (List.mem_of_getElem? kca_X11_needCompiled)) rfl
abbrev zk_X11_needRun : gy := (yX11_needRun, cX11_needRun, 1, none, [])
set_option maxRecDepth 100000 in
theorem kca_X11_needRun : tables_1_5[235]? = some (Cond.code yX11_needRun cX11_needRun 1 none) := rfl
theorem kcw_X11_needRun : Cond.code yX11_needRun cX11_needRun 1 none ∈ W0 := W0_in (tp_5 (List.mem_of_getElem? kca_X11_needRun)) rfl
abbrev zk_X11_needWay : gy := (yX11_needWay, cX11_needWay, 1, none, [])
set_option maxRecDepth 100000 in
theorem kca_X11_needWay : tables_1_5[120]? = some (Cond.code yX11_needWay cX11_needWay 1 none) := rfl
theorem kcw_X11_needWay : Cond.code yX11_needWay cX11_needWay 1 none ∈ W0 := W0_in (tp_5 (List.mem_of_getElem? kca_X11_needWay)) rfl
abbrev zk_X11_needFinding : gy := (yX11_needFinding, cX11_needFinding, 1, none, [])
set_option maxRecDepth 100000 in
theorem kca_X11_needFinding : tables_1_8[139]? = some (Cond.code yX11_needFinding cX11_needFinding 1 none) := rfl
theorem kcw_X11_needFinding : Cond.code yX11_needFinding cX11_needFinding 1 none ∈ W0 := W0_in (tp_8 (List.mem_of_getElem? kca_X11_needFinding)) rfl
abbrev zk_X11_needIndex : gy := (yX11_needIndex, cX11_needIndex, 2, none, [])
set_option maxRecDepth 100000 in
theorem kca_X11_needIndex : tables_1_6[6]? = some (Cond.code yX11_needIndex cX11_needIndex 2 none) := rfl
theorem kcw_X11_needIndex : Cond.code yX11_needIndex cX11_needIndex 2 none ∈ W0 := W0_in (tp_6 (List.mem_of_getElem? kca_X11_needIndex)) rfl
abbrev zk_X11_needWhat : gy := (yX11_needWhat, cX11_needWhat, 2, none, [])
set_option maxRecDepth 100000 in
theorem kca_X11_needWhat : tables_1_5[103]? = some (Cond.code yX11_needWhat cX11_needWhat 2 none) := rfl
theorem kcw_X11_needWhat : Cond.code yX11_needWhat cX11_needWhat 2 none ∈ W0 := W0_in (tp_5 (List.mem_of_getElem? kca_X11_needWhat)) rfl
theorem kcv_X0_78 : gMv RX0 78 zk_X0_operate 3 := ⟨⟨W0_in (tp_5 (List.mem_of_getElem? (i := 164) (by decide +kernel))) rfl, W0_in (tp_5 (List.mem_of_getElem? (i := 166) (by decide +kernel))) rfl, W0_in (List.mem_of_getElem? (i := 62) (by decide +kernel)) rfl, W0_in (tp_1 (List.mem_of_getElem? (i := 4) (by decide +kernel))) rfl, kcw_X0_operate⟩, ⟨by decide, by decide, by decide +kernel⟩, by decide, by decide⟩
theorem kcv_X2_54 : gMv RX2 54 zk_X10_clear 1 := ⟨⟨W0_in (tp_8 (List.mem_of_getElem? (i := 2) (by decide +kernel))) rfl, W0_in (tp_8 (List.mem_of_getElem? (i := 3) (by decide +kernel))) rfl, W0_in (tp_8 (List.mem_of_getElem? (i := 4) (by decide +kernel))) rfl, W0_in (tp_1 (List.mem_of_getElem? (i := 27) (by decide +kernel))) rfl, kcw_X10_clear⟩, ⟨by decide, by decide, by decide +kernel⟩, by decide, by decide⟩
theorem kcv_X2_66 : gMv RX2 66 zk_X5_reset 1 := ⟨⟨W0_in (tp_8 (List.mem_of_getElem? (i := 8) (by decide +kernel))) rfl, W0_in (tp_5 (List.mem_of_getElem? (i := 127) (by decide +kernel))) rfl, W0_in (tp_5 (List.mem_of_getElem? (i := 128) (by decide +kernel))) rfl, W0_in (tp_1 (List.mem_of_getElem? (i := 7) (by decide +kernel))) rfl, kcw_X5_reset⟩, ⟨by decide, by decide, by decide +kernel⟩, by decide, by decide⟩
theorem kcv_X2_69 : gMv RX2 69 zk_X2_addState 3 := ⟨⟨W0_in (tp_8 (List.mem_of_getElem? (i := 9) (by decide +kernel))) rfl, W0_in (tp_8 (List.mem_of_getElem? (i := 11) (by decide +kernel))) rfl, W0_in (List.mem_of_getElem? (i := 97) (by decide +kernel)) rfl, W0_in (tp_1 (List.mem_of_getElem? (i := 26) (by decide +kernel))) rfl, kcw_X2_addState⟩, ⟨by decide, by decide, by decide +kernel⟩, by decide, by decide⟩
theorem kcv_X2_76 : gMv RX2 76 zk_X2_recall 1 := ⟨⟨W0_in (tp_8 (List.mem_of_getElem? (i := 47) (by decide +kernel))) rfl, W0_in (tp_8 (List.mem_of_getElem? (i := 49) (by decide +kernel))) rfl, W0_in (List.mem_of_getElem? (i := 103) (by decide +kernel)) rfl, W0_in (tp_1 (List.mem_of_getElem? (i := 26) (by decide +kernel))) rfl, kcw_X2_recall⟩, ⟨by decide, by decide, by decide +kernel⟩, by decide, by decide⟩
theorem kcv_X2_79 : gMv RX2 79 zk_X5_listChoices 0 := ⟨⟨W0_in (tp_8 (List.mem_of_getElem? (i := 51) (by decide +kernel))) rfl, W0_in (tp_5 (List.mem_of_getElem? (i := 181) (by decide +kernel))) rfl, W0_in (tp_5 (List.mem_of_getElem? (i := 182) (by decide +kernel))) rfl, W0_in (tp_1 (List.mem_of_getElem? (i := 7) (by decide +kernel))) rfl, kcw_X5_listChoices⟩, ⟨by decide, by decide, by decide +kernel⟩, by decide, by decide⟩
theorem kcv_X2_82 : gMv RX2 82 zk_X2_inspectActs 0 := ⟨⟨W0_in (tp_8 (List.mem_of_getElem? (i := 52) (by decide +kernel))) rfl, W0_in (tp_8 (List.mem_of_getElem? (i := 54) (by decide +kernel))) rfl, W0_in (List.mem_of_getElem? (i := 104) (by decide +kernel)) rfl, W0_in (tp_1 (List.mem_of_getElem? (i := 26) (by decide +kernel))) rfl, kcw_X2_inspectActs⟩, ⟨by decide, by decide, by decide +kernel⟩, by decide, by decide⟩
theorem kcv_X2_85 : gMv RX2 85 zk_X2_inspect 1 := ⟨⟨W0_in (tp_8 (List.mem_of_getElem? (i := 75) (by decide +kernel))) rfl, W0_in (tp_8 (List.mem_of_getElem? (i := 77) (by decide +kernel))) rfl, W0_in (List.mem_of_getElem? (i := 106) (by decide +kernel)) rfl, W0_in (tp_1 (List.mem_of_getElem? (i := 26) (by decide +kernel))) rfl, kcw_X2_inspect⟩, ⟨by decide, by decide, by decide +kernel⟩, by decide, by decide⟩
theorem kcv_X2_95 : gMv RX2 95 zk_X5_perform 1 := ⟨⟨W0_in (tp_8 (List.mem_of_getElem? (i := 111) (by decide +kernel))) rfl, W0_in (tp_6 (List.mem_of_getElem? (i := 31) (by decide +kernel))) rfl, W0_in (tp_6 (List.mem_of_getElem? (i := 32) (by decide +kernel))) rfl, W0_in (tp_1 (List.mem_of_getElem? (i := 7) (by decide +kernel))) rfl, kcw_X5_perform⟩, ⟨by decide, by decide, by decide +kernel⟩, by decide, by decide⟩
theorem kcv_X2_98 : gMv RX2 98 zk_X2_isKept 0 := ⟨⟨W0_in (tp_8 (List.mem_of_getElem? (i := 13) (by decide +kernel))) rfl, W0_in (tp_8 (List.mem_of_getElem? (i := 15) (by decide +kernel))) rfl, W0_in (List.mem_of_getElem? (i := 98) (by decide +kernel)) rfl, W0_in (tp_1 (List.mem_of_getElem? (i := 26) (by decide +kernel))) rfl, kcw_X2_isKept⟩, ⟨by decide, by decide, by decide +kernel⟩, by decide, by decide⟩
theorem kcv_X2_102 : gMv RX2 102 zk_X2_keep 2 := ⟨⟨W0_in (tp_8 (List.mem_of_getElem? (i := 38) (by decide +kernel))) rfl, W0_in (tp_8 (List.mem_of_getElem? (i := 40) (by decide +kernel))) rfl, W0_in (List.mem_of_getElem? (i := 102) (by decide +kernel)) rfl, W0_in (tp_1 (List.mem_of_getElem? (i := 26) (by decide +kernel))) rfl, kcw_X2_keep⟩, ⟨by decide, by decide, by decide +kernel⟩, by decide, by decide⟩
theorem kcv_X2_118 : gMv RX2 118 zk_X5_mix 0 := ⟨⟨W0_in (tp_8 (List.mem_of_getElem? (i := 17) (by decide +kernel))) rfl, W0_in (tp_8 (List.mem_of_getElem? (i := 18) (by decide +kernel))) rfl, W0_in (tp_8 (List.mem_of_getElem? (i := 19) (by decide +kernel))) rfl, W0_in (tp_1 (List.mem_of_getElem? (i := 7) (by decide +kernel))) rfl, kcw_X5_mix⟩, ⟨by decide, by decide, by decide +kernel⟩, by decide, by decide⟩
theorem kcv_X2_127 : gMv RX2 127 zk_X5_isSame 1 := ⟨⟨W0_in (tp_8 (List.mem_of_getElem? (i := 30) (by decide +kernel))) rfl, W0_in (tp_8 (List.mem_of_getElem? (i := 31) (by decide +kernel))) rfl, W0_in (tp_8 (List.mem_of_getElem? (i := 32) (by decide +kernel))) rfl, W0_in (tp_1 (List.mem_of_getElem? (i := 7) (by decide +kernel))) rfl, kcw_X5_isSame⟩, ⟨by decide, by decide, by decide +kernel⟩, by decide, by decide⟩
theorem kcv_X2_131 : gMv RX2 131 zk_X10_addState 2 := ⟨⟨W0_in (tp_8 (List.mem_of_getElem? (i := 43) (by decide +kernel))) rfl, W0_in (tp_8 (List.mem_of_getElem? (i := 44) (by decide +kernel))) rfl, W0_in (tp_8 (List.mem_of_getElem? (i := 45) (by decide +kernel))) rfl, W0_in (tp_1 (List.mem_of_getElem? (i := 27) (by decide +kernel))) rfl, kcw_X10_addState⟩, ⟨by decide, by decide, by decide +kernel⟩, by decide, by decide⟩
theorem kcv_X2_142 : gMv RX2 142 zk_X2_isFalse 1 := ⟨⟨W0_in (tp_8 (List.mem_of_getElem? (i := 79) (by decide +kernel))) rfl, W0_in (tp_8 (List.mem_of_getElem? (i := 81) (by decide +kernel))) rfl, W0_in (List.mem_of_getElem? (i := 107) (by decide +kernel)) rfl, W0_in (tp_1 (List.mem_of_getElem? (i := 26) (by decide +kernel))) rfl, kcw_X2_isFalse⟩, ⟨by decide, by decide, by decide +kernel⟩, by decide, by decide⟩
theorem kcv_X2_146 : gMv RX2 146 zk_X10_find 2 := ⟨⟨W0_in (tp_8 (List.mem_of_getElem? (i := 84) (by decide +kernel))) rfl, W0_in (tp_8 (List.mem_of_getElem? (i := 85) (by decide +kernel))) rfl, W0_in (tp_8 (List.mem_of_getElem? (i := 86) (by decide +kernel))) rfl, W0_in (tp_1 (List.mem_of_getElem? (i := 27) (by decide +kernel))) rfl, kcw_X10_find⟩, ⟨by decide, by decide, by decide +kernel⟩, by decide, by decide⟩
theorem kcv_X2_149 : gMv RX2 149 zk_X2_inspectEnd 1 := ⟨⟨W0_in (tp_8 (List.mem_of_getElem? (i := 88) (by decide +kernel))) rfl, W0_in (tp_8 (List.mem_of_getElem? (i := 90) (by decide +kernel))) rfl, W0_in (List.mem_of_getElem? (i := 108) (by decide +kernel)) rfl, W0_in (tp_1 (List.mem_of_getElem? (i := 26) (by decide +kernel))) rfl, kcw_X2_inspectEnd⟩, ⟨by decide, by decide, by decide +kernel⟩, by decide, by decide⟩
theorem kcv_X2_152 : gMv RX2 152 zk_X5_anyFailed 0 := ⟨⟨W0_in (tp_8 (List.mem_of_getElem? (i := 102) (by decide +kernel))) rfl, W0_in (tp_8 (List.mem_of_getElem? (i := 103) (by decide +kernel))) rfl, W0_in (tp_8 (List.mem_of_getElem? (i := 104) (by decide +kernel))) rfl, W0_in (tp_1 (List.mem_of_getElem? (i := 7) (by decide +kernel))) rfl, kcw_X5_anyFailed⟩, ⟨by decide, by decide, by decide +kernel⟩, by decide, by decide⟩
theorem kcv_X2_155 : gMv RX2 155 zk_X2_isRacing 0 := ⟨⟨W0_in (tp_8 (List.mem_of_getElem? (i := 106) (by decide +kernel))) rfl, W0_in (tp_8 (List.mem_of_getElem? (i := 108) (by decide +kernel))) rfl, W0_in (List.mem_of_getElem? (i := 110) (by decide +kernel)) rfl, W0_in (tp_1 (List.mem_of_getElem? (i := 26) (by decide +kernel))) rfl, kcw_X2_isRacing⟩, ⟨by decide, by decide, by decide +kernel⟩, by decide, by decide⟩
theorem kcv_X2_164 : gMv RX2 164 zk_X10_addOutcome 2 := ⟨⟨W0_in (tp_8 (List.mem_of_getElem? (i := 92) (by decide +kernel))) rfl, W0_in (tp_8 (List.mem_of_getElem? (i := 93) (by decide +kernel))) rfl, W0_in (tp_8 (List.mem_of_getElem? (i := 94) (by decide +kernel))) rfl, W0_in (tp_1 (List.mem_of_getElem? (i := 27) (by decide +kernel))) rfl, kcw_X10_addOutcome⟩, ⟨by decide, by decide, by decide +kernel⟩, by decide, by decide⟩
theorem kcv_X2_167 : gMv RX2 167 zk_X5_anyGoing 0 := ⟨⟨W0_in (tp_8 (List.mem_of_getElem? (i := 101) (by decide +kernel))) rfl, W0_in (tp_6 (List.mem_of_getElem? (i := 166) (by decide +kernel))) rfl, W0_in (tp_6 (List.mem_of_getElem? (i := 167) (by decide +kernel))) rfl, W0_in (tp_1 (List.mem_of_getElem? (i := 7) (by decide +kernel))) rfl, kcw_X5_anyGoing⟩, ⟨by decide, by decide, by decide +kernel⟩, by decide, by decide⟩
theorem kcv_X2_176 : gMv RX2 176 zk_X0_work 4 := ⟨⟨W0_in (tp_8 (List.mem_of_getElem? (i := 83) (by decide +kernel))) rfl, W0_in (tp_5 (List.mem_of_getElem? (i := 161) (by decide +kernel))) rfl, W0_in (tp_5 (List.mem_of_getElem? (i := 162) (by decide +kernel))) rfl, W0_in (tp_1 (List.mem_of_getElem? (i := 4) (by decide +kernel))) rfl, kcw_X0_work⟩, ⟨by decide, by decide, by decide +kernel⟩, by decide, by decide⟩
theorem kcv_X2_192 : gMv RX2 192 zk_X2_inspectAct 1 := ⟨⟨W0_in (tp_8 (List.mem_of_getElem? (i := 56) (by decide +kernel))) rfl, W0_in (tp_8 (List.mem_of_getElem? (i := 58) (by decide +kernel))) rfl, W0_in (List.mem_of_getElem? (i := 105) (by decide +kernel)) rfl, W0_in (tp_1 (List.mem_of_getElem? (i := 26) (by decide +kernel))) rfl, kcw_X2_inspectAct⟩, ⟨by decide, by decide, by decide +kernel⟩, by decide, by decide⟩
theorem kcv_X2_195 : gMv RX2 195 zk_X5_isGoing 1 := ⟨⟨W0_in (tp_8 (List.mem_of_getElem? (i := 74) (by decide +kernel))) rfl, W0_in (tp_5 (List.mem_of_getElem? (i := 145) (by decide +kernel))) rfl, W0_in (tp_5 (List.mem_of_getElem? (i := 146) (by decide +kernel))) rfl, W0_in (tp_1 (List.mem_of_getElem? (i := 7) (by decide +kernel))) rfl, kcw_X5_isGoing⟩, ⟨by decide, by decide, by decide +kernel⟩, by decide, by decide⟩
theorem kcv_X2_201 : gMv RX2 201 zk_X5_sortOf 1 := ⟨⟨W0_in (tp_8 (List.mem_of_getElem? (i := 60) (by decide +kernel))) rfl, W0_in (tp_5 (List.mem_of_getElem? (i := 189) (by decide +kernel))) rfl, W0_in (tp_5 (List.mem_of_getElem? (i := 190) (by decide +kernel))) rfl, W0_in (tp_1 (List.mem_of_getElem? (i := 7) (by decide +kernel))) rfl, kcw_X5_sortOf⟩, ⟨by decide, by decide, by decide +kernel⟩, by decide, by decide⟩
theorem kcv_X2_205 : gMv RX2 205 zk_X5_objectOf 1 := ⟨⟨W0_in (tp_8 (List.mem_of_getElem? (i := 61) (by decide +kernel))) rfl, W0_in (tp_6 (List.mem_of_getElem? (i := 10) (by decide +kernel))) rfl, W0_in (tp_6 (List.mem_of_getElem? (i := 11) (by decide +kernel))) rfl, W0_in (tp_1 (List.mem_of_getElem? (i := 7) (by decide +kernel))) rfl, kcw_X5_objectOf⟩, ⟨by decide, by decide, by decide +kernel⟩, by decide, by decide⟩
theorem kcv_X2_208 : gMv RX2 208 zk_X5_heldBy 1 := ⟨⟨W0_in (tp_8 (List.mem_of_getElem? (i := 62) (by decide +kernel))) rfl, W0_in (tp_8 (List.mem_of_getElem? (i := 63) (by decide +kernel))) rfl, W0_in (tp_8 (List.mem_of_getElem? (i := 64) (by decide +kernel))) rfl, W0_in (tp_1 (List.mem_of_getElem? (i := 7) (by decide +kernel))) rfl, kcw_X5_heldBy⟩, ⟨by decide, by decide, by decide +kernel⟩, by decide, by decide⟩
theorem kcv_X2_211 : gMv RX2 211 zk_X10_addTake 2 := ⟨⟨W0_in (tp_8 (List.mem_of_getElem? (i := 66) (by decide +kernel))) rfl, W0_in (tp_8 (List.mem_of_getElem? (i := 67) (by decide +kernel))) rfl, W0_in (tp_8 (List.mem_of_getElem? (i := 68) (by decide +kernel))) rfl, W0_in (tp_1 (List.mem_of_getElem? (i := 27) (by decide +kernel))) rfl, kcw_X10_addTake⟩, ⟨by decide, by decide, by decide +kernel⟩, by decide, by decide⟩
theorem kcv_X2_221 : gMv RX2 221 zk_X5_accessFails 1 := ⟨⟨W0_in (tp_8 (List.mem_of_getElem? (i := 70) (by decide +kernel))) rfl, W0_in (tp_8 (List.mem_of_getElem? (i := 71) (by decide +kernel))) rfl, W0_in (tp_8 (List.mem_of_getElem? (i := 72) (by decide +kernel))) rfl, W0_in (tp_1 (List.mem_of_getElem? (i := 7) (by decide +kernel))) rfl, kcw_X5_accessFails⟩, ⟨by decide, by decide, by decide +kernel⟩, by decide, by decide⟩
theorem kcs_X2_224 : gMs RX2 224 zk_X4_sortsRace 2 := ⟨⟨W0_in (tp_8 (List.mem_of_getElem? (i := 110) (by decide +kernel))) rfl, W0_in (tp_6 (List.mem_of_getElem? (i := 131) (by decide +kernel))) rfl, W0_in (tp_1 (List.mem_of_getElem? (i := 9) (by decide +kernel))) rfl, kcw_X4_sortsRace⟩, ⟨by decide, by decide, by decide +kernel⟩, by decide, by decide⟩
theorem kcv_X3_76 : gMv RX3 76 zk_X3_beginCall 3 := ⟨⟨W0_in (tp_7 (List.mem_of_getElem? (i := 79) (by decide +kernel))) rfl, W0_in (tp_7 (List.mem_of_getElem? (i := 81) (by decide +kernel))) rfl, W0_in (List.mem_of_getElem? (i := 91) (by decide +kernel)) rfl, W0_in (tp_1 (List.mem_of_getElem? (i := 24) (by decide +kernel))) rfl, kcw_X3_beginCall⟩, ⟨by decide, by decide, by decide +kernel⟩, by decide, by decide⟩
theorem kcv_X3_80 : gMv RX3 80 zk_X3_endCall 2 := ⟨⟨W0_in (tp_7 (List.mem_of_getElem? (i := 84) (by decide +kernel))) rfl, W0_in (tp_7 (List.mem_of_getElem? (i := 86) (by decide +kernel))) rfl, W0_in (List.mem_of_getElem? (i := 92) (by decide +kernel)) rfl, W0_in (tp_1 (List.mem_of_getElem? (i := 24) (by decide +kernel))) rfl, kcw_X3_endCall⟩, ⟨by decide, by decide, by decide +kernel⟩, by decide, by decide⟩
theorem kcv_X3_88 : gMv RX3 88 zk_X3_isLinear 1 := ⟨⟨W0_in (tp_7 (List.mem_of_getElem? (i := 92) (by decide +kernel))) rfl, W0_in (tp_7 (List.mem_of_getElem? (i := 94) (by decide +kernel))) rfl, W0_in (List.mem_of_getElem? (i := 93) (by decide +kernel)) rfl, W0_in (tp_1 (List.mem_of_getElem? (i := 24) (by decide +kernel))) rfl, kcw_X3_isLinear⟩, ⟨by decide, by decide, by decide +kernel⟩, by decide, by decide⟩
theorem kcv_X3_98 : gMv RX3 98 zk_X3_canGoOn 2 := ⟨⟨W0_in (tp_7 (List.mem_of_getElem? (i := 96) (by decide +kernel))) rfl, W0_in (tp_7 (List.mem_of_getElem? (i := 98) (by decide +kernel))) rfl, W0_in (List.mem_of_getElem? (i := 94) (by decide +kernel)) rfl, W0_in (tp_1 (List.mem_of_getElem? (i := 24) (by decide +kernel))) rfl, kcw_X3_canGoOn⟩, ⟨by decide, by decide, by decide +kernel⟩, by decide, by decide⟩
theorem kcv_X3_108 : gMv RX3 108 zk_X3_serve 3 := ⟨⟨W0_in (tp_7 (List.mem_of_getElem? (i := 103) (by decide +kernel))) rfl, W0_in (tp_7 (List.mem_of_getElem? (i := 105) (by decide +kernel))) rfl, W0_in (List.mem_of_getElem? (i := 95) (by decide +kernel)) rfl, W0_in (tp_1 (List.mem_of_getElem? (i := 24) (by decide +kernel))) rfl, kcw_X3_serve⟩, ⟨by decide, by decide, by decide +kernel⟩, by decide, by decide⟩
theorem kcs_X3_112 : gMs RX3 112 zk_X3_serveCell 3 := ⟨⟨W0_in (tp_7 (List.mem_of_getElem? (i := 107) (by decide +kernel))) rfl, W0_in (tp_7 (List.mem_of_getElem? (i := 108) (by decide +kernel))) rfl, W0_in (tp_1 (List.mem_of_getElem? (i := 24) (by decide +kernel))) rfl, kcw_X3_serveCell⟩, ⟨by decide, by decide, by decide +kernel⟩, by decide, by decide⟩
theorem kcs_X3_115 : gMs RX3 115 zk_X3_serveSet 3 := ⟨⟨W0_in (tp_7 (List.mem_of_getElem? (i := 110) (by decide +kernel))) rfl, W0_in (tp_7 (List.mem_of_getElem? (i := 111) (by decide +kernel))) rfl, W0_in (tp_1 (List.mem_of_getElem? (i := 24) (by decide +kernel))) rfl, kcw_X3_serveSet⟩, ⟨by decide, by decide, by decide +kernel⟩, by decide, by decide⟩
theorem kcv_X3_118 : gMv RX3 118 zk_X3_serveRow 3 := ⟨⟨W0_in (tp_7 (List.mem_of_getElem? (i := 122) (by decide +kernel))) rfl, W0_in (tp_7 (List.mem_of_getElem? (i := 124) (by decide +kernel))) rfl, W0_in (List.mem_of_getElem? (i := 96) (by decide +kernel)) rfl, W0_in (tp_1 (List.mem_of_getElem? (i := 24) (by decide +kernel))) rfl, kcw_X3_serveRow⟩, ⟨by decide, by decide, by decide +kernel⟩, by decide, by decide⟩
theorem kcs_X3_121 : gMs RX3 121 zk_X3_append 2 := ⟨⟨W0_in (tp_7 (List.mem_of_getElem? (i := 116) (by decide +kernel))) rfl, W0_in (tp_7 (List.mem_of_getElem? (i := 117) (by decide +kernel))) rfl, W0_in (tp_1 (List.mem_of_getElem? (i := 24) (by decide +kernel))) rfl, kcw_X3_append⟩, ⟨by decide, by decide, by decide +kernel⟩, by decide, by decide⟩
theorem kcs_X3_124 : gMs RX3 124 zk_X3_removeAt 2 := ⟨⟨W0_in (tp_7 (List.mem_of_getElem? (i := 119) (by decide +kernel))) rfl, W0_in (tp_7 (List.mem_of_getElem? (i := 120) (by decide +kernel))) rfl, W0_in (tp_1 (List.mem_of_getElem? (i := 24) (by decide +kernel))) rfl, kcw_X3_removeAt⟩, ⟨by decide, by decide, by decide +kernel⟩, by decide, by decide⟩
theorem kcs_X3_128 : gMs RX3 128 zk_X3_find 2 := ⟨⟨W0_in (tp_7 (List.mem_of_getElem? (i := 113) (by decide +kernel))) rfl, W0_in (tp_7 (List.mem_of_getElem? (i := 114) (by decide +kernel))) rfl, W0_in (tp_1 (List.mem_of_getElem? (i := 24) (by decide +kernel))) rfl, kcw_X3_find⟩, ⟨by decide, by decide, by decide +kernel⟩, by decide, by decide⟩
theorem kcv_X4_94 : gMv RX4 94 zk_X4_setClock 1 := ⟨⟨W0_in (tp_6 (List.mem_of_getElem? (i := 102) (by decide +kernel))) rfl, W0_in (tp_6 (List.mem_of_getElem? (i := 104) (by decide +kernel))) rfl, W0_in (List.mem_of_getElem? (i := 85) (by decide +kernel)) rfl, W0_in (tp_1 (List.mem_of_getElem? (i := 9) (by decide +kernel))) rfl, kcw_X4_setClock⟩, ⟨by decide, by decide, by decide +kernel⟩, by decide, by decide⟩
theorem kcv_X4_101 : gMv RX4 101 zk_X4_handOn 2 := ⟨⟨W0_in (tp_6 (List.mem_of_getElem? (i := 114) (by decide +kernel))) rfl, W0_in (tp_6 (List.mem_of_getElem? (i := 116) (by decide +kernel))) rfl, W0_in (List.mem_of_getElem? (i := 87) (by decide +kernel)) rfl, W0_in (tp_1 (List.mem_of_getElem? (i := 9) (by decide +kernel))) rfl, kcw_X4_handOn⟩, ⟨by decide, by decide, by decide +kernel⟩, by decide, by decide⟩
theorem kcv_X4_105 : gMv RX4 105 zk_X4_racesOf 1 := ⟨⟨W0_in (tp_6 (List.mem_of_getElem? (i := 118) (by decide +kernel))) rfl, W0_in (tp_6 (List.mem_of_getElem? (i := 120) (by decide +kernel))) rfl, W0_in (List.mem_of_getElem? (i := 88) (by decide +kernel)) rfl, W0_in (tp_1 (List.mem_of_getElem? (i := 9) (by decide +kernel))) rfl, kcw_X4_racesOf⟩, ⟨by decide, by decide, by decide +kernel⟩, by decide, by decide⟩
theorem kcs_X4_109 : gMs RX4 109 zk_X4_join 4 := ⟨⟨W0_in (tp_6 (List.mem_of_getElem? (i := 106) (by decide +kernel))) rfl, W0_in (tp_6 (List.mem_of_getElem? (i := 107) (by decide +kernel))) rfl, W0_in (tp_1 (List.mem_of_getElem? (i := 9) (by decide +kernel))) rfl, kcw_X4_join⟩, ⟨by decide, by decide, by decide +kernel⟩, by decide, by decide⟩
theorem kcv_X4_113 : gMv RX4 113 zk_X4_takeOver 1 := ⟨⟨W0_in (tp_6 (List.mem_of_getElem? (i := 110) (by decide +kernel))) rfl, W0_in (tp_6 (List.mem_of_getElem? (i := 112) (by decide +kernel))) rfl, W0_in (List.mem_of_getElem? (i := 86) (by decide +kernel)) rfl, W0_in (tp_1 (List.mem_of_getElem? (i := 9) (by decide +kernel))) rfl, kcw_X4_takeOver⟩, ⟨by decide, by decide, by decide +kernel⟩, by decide, by decide⟩
theorem kcv_X4_125 : gMv RX4 125 zk_X4_isRace 2 := ⟨⟨W0_in (tp_6 (List.mem_of_getElem? (i := 126) (by decide +kernel))) rfl, W0_in (tp_6 (List.mem_of_getElem? (i := 128) (by decide +kernel))) rfl, W0_in (List.mem_of_getElem? (i := 90) (by decide +kernel)) rfl, W0_in (tp_1 (List.mem_of_getElem? (i := 9) (by decide +kernel))) rfl, kcw_X4_isRace⟩, ⟨by decide, by decide, by decide +kernel⟩, by decide, by decide⟩
theorem kcv_X4_129 : gMv RX4 129 zk_X4_mayRace 1 := ⟨⟨W0_in (tp_6 (List.mem_of_getElem? (i := 122) (by decide +kernel))) rfl, W0_in (tp_6 (List.mem_of_getElem? (i := 124) (by decide +kernel))) rfl, W0_in (List.mem_of_getElem? (i := 89) (by decide +kernel)) rfl, W0_in (tp_1 (List.mem_of_getElem? (i := 9) (by decide +kernel))) rfl, kcw_X4_mayRace⟩, ⟨by decide, by decide, by decide +kernel⟩, by decide, by decide⟩
theorem kcs_X4_133 : gMs RX4 133 zk_X4_sortsRace 2 := ⟨⟨W0_in (tp_6 (List.mem_of_getElem? (i := 130) (by decide +kernel))) rfl, W0_in (tp_6 (List.mem_of_getElem? (i := 131) (by decide +kernel))) rfl, W0_in (tp_1 (List.mem_of_getElem? (i := 9) (by decide +kernel))) rfl, kcw_X4_sortsRace⟩, ⟨by decide, by decide, by decide +kernel⟩, by decide, by decide⟩
theorem kcv_X4_136 : gMv RX4 136 zk_X4_isBefore 2 := ⟨⟨W0_in (tp_6 (List.mem_of_getElem? (i := 133) (by decide +kernel))) rfl, W0_in (tp_6 (List.mem_of_getElem? (i := 134) (by decide +kernel))) rfl, W0_in (tp_6 (List.mem_of_getElem? (i := 135) (by decide +kernel))) rfl, W0_in (tp_1 (List.mem_of_getElem? (i := 9) (by decide +kernel))) rfl, kcw_X4_isBefore⟩, ⟨by decide, by decide, by decide +kernel⟩, by decide, by decide⟩
theorem kcv_X5_86 : gMv RX5 86 zk_X5_rouse 1 := ⟨⟨W0_in (tp_5 (List.mem_of_getElem? (i := 131) (by decide +kernel))) rfl, W0_in (tp_5 (List.mem_of_getElem? (i := 133) (by decide +kernel))) rfl, W0_in (List.mem_of_getElem? (i := 57) (by decide +kernel)) rfl, W0_in (tp_1 (List.mem_of_getElem? (i := 7) (by decide +kernel))) rfl, kcw_X5_rouse⟩, ⟨by decide, by decide, by decide +kernel⟩, by decide, by decide⟩
theorem kcv_X5_90 : gMv RX5 90 zk_X5_get 2 := ⟨⟨W0_in (tp_5 (List.mem_of_getElem? (i := 148) (by decide +kernel))) rfl, W0_in (tp_5 (List.mem_of_getElem? (i := 149) (by decide +kernel))) rfl, W0_in (tp_5 (List.mem_of_getElem? (i := 150) (by decide +kernel))) rfl, W0_in (tp_1 (List.mem_of_getElem? (i := 7) (by decide +kernel))) rfl, kcw_X5_get⟩, ⟨by decide, by decide, by decide +kernel⟩, by decide, by decide⟩
theorem kcv_X5_94 : gMv RX5 94 zk_X5_isGoing 1 := ⟨⟨W0_in (tp_5 (List.mem_of_getElem? (i := 144) (by decide +kernel))) rfl, W0_in (tp_5 (List.mem_of_getElem? (i := 145) (by decide +kernel))) rfl, W0_in (tp_5 (List.mem_of_getElem? (i := 146) (by decide +kernel))) rfl, W0_in (tp_1 (List.mem_of_getElem? (i := 7) (by decide +kernel))) rfl, kcw_X5_isGoing⟩, ⟨by decide, by decide, by decide +kernel⟩, by decide, by decide⟩
theorem kcv_X5_101 : gMv RX5 101 zk_X5_anyGoing 0 := ⟨⟨W0_in (tp_6 (List.mem_of_getElem? (i := 165) (by decide +kernel))) rfl, W0_in (tp_6 (List.mem_of_getElem? (i := 166) (by decide +kernel))) rfl, W0_in (tp_6 (List.mem_of_getElem? (i := 167) (by decide +kernel))) rfl, W0_in (tp_1 (List.mem_of_getElem? (i := 7) (by decide +kernel))) rfl, kcw_X5_anyGoing⟩, ⟨by decide, by decide, by decide +kernel⟩, by decide, by decide⟩
theorem kcv_X5_113 : gMv RX5 113 zk_X5_holder 1 := ⟨⟨W0_in (tp_5 (List.mem_of_getElem? (i := 196) (by decide +kernel))) rfl, W0_in (tp_5 (List.mem_of_getElem? (i := 197) (by decide +kernel))) rfl, W0_in (tp_5 (List.mem_of_getElem? (i := 198) (by decide +kernel))) rfl, W0_in (tp_1 (List.mem_of_getElem? (i := 7) (by decide +kernel))) rfl, kcw_X5_holder⟩, ⟨by decide, by decide, by decide +kernel⟩, by decide, by decide⟩
theorem kcv_X5_117 : gMv RX5 117 zk_X5_set 3 := ⟨⟨W0_in (tp_5 (List.mem_of_getElem? (i := 135) (by decide +kernel))) rfl, W0_in (tp_5 (List.mem_of_getElem? (i := 137) (by decide +kernel))) rfl, W0_in (List.mem_of_getElem? (i := 58) (by decide +kernel)) rfl, W0_in (tp_1 (List.mem_of_getElem? (i := 7) (by decide +kernel))) rfl, kcw_X5_set⟩, ⟨by decide, by decide, by decide +kernel⟩, by decide, by decide⟩
theorem kcv_X5_121 : gMv RX5 121 zk_X5_lateCell 2 := ⟨⟨W0_in (tp_5 (List.mem_of_getElem? (i := 216) (by decide +kernel))) rfl, W0_in (tp_5 (List.mem_of_getElem? (i := 217) (by decide +kernel))) rfl, W0_in (tp_5 (List.mem_of_getElem? (i := 218) (by decide +kernel))) rfl, W0_in (tp_1 (List.mem_of_getElem? (i := 7) (by decide +kernel))) rfl, kcw_X5_lateCell⟩, ⟨by decide, by decide, by decide +kernel⟩, by decide, by decide⟩
theorem kcv_X5_124 : gMv RX5 124 zk_X5_lateValue 2 := ⟨⟨W0_in (tp_6 (List.mem_of_getElem? (i := 42) (by decide +kernel))) rfl, W0_in (tp_6 (List.mem_of_getElem? (i := 44) (by decide +kernel))) rfl, W0_in (List.mem_of_getElem? (i := 73) (by decide +kernel)) rfl, W0_in (tp_1 (List.mem_of_getElem? (i := 7) (by decide +kernel))) rfl, kcw_X5_lateValue⟩, ⟨by decide, by decide, by decide +kernel⟩, by decide, by decide⟩
theorem kcv_X5_130 : gMv RX5 130 zk_X5_sortOf 1 := ⟨⟨W0_in (tp_5 (List.mem_of_getElem? (i := 188) (by decide +kernel))) rfl, W0_in (tp_5 (List.mem_of_getElem? (i := 189) (by decide +kernel))) rfl, W0_in (tp_5 (List.mem_of_getElem? (i := 190) (by decide +kernel))) rfl, W0_in (tp_1 (List.mem_of_getElem? (i := 7) (by decide +kernel))) rfl, kcw_X5_sortOf⟩, ⟨by decide, by decide, by decide +kernel⟩, by decide, by decide⟩
theorem kcv_X5_133 : gMv RX5 133 zk_X5_placeOf 1 := ⟨⟨W0_in (tp_6 (List.mem_of_getElem? (i := 13) (by decide +kernel))) rfl, W0_in (tp_6 (List.mem_of_getElem? (i := 14) (by decide +kernel))) rfl, W0_in (tp_6 (List.mem_of_getElem? (i := 15) (by decide +kernel))) rfl, W0_in (tp_1 (List.mem_of_getElem? (i := 7) (by decide +kernel))) rfl, kcw_X5_placeOf⟩, ⟨by decide, by decide, by decide +kernel⟩, by decide, by decide⟩
theorem kcv_X5_142 : gMv RX5 142 zk_X5_localsAt 1 := ⟨⟨W0_in (tp_5 (List.mem_of_getElem? (i := 156) (by decide +kernel))) rfl, W0_in (tp_5 (List.mem_of_getElem? (i := 158) (by decide +kernel))) rfl, W0_in (List.mem_of_getElem? (i := 61) (by decide +kernel)) rfl, W0_in (tp_1 (List.mem_of_getElem? (i := 7) (by decide +kernel))) rfl, kcw_X5_localsAt⟩, ⟨by decide, by decide, by decide +kernel⟩, by decide, by decide⟩
theorem kcv_X5_145 : gMv RX5 145 zk_X0_work 4 := ⟨⟨W0_in (tp_5 (List.mem_of_getElem? (i := 160) (by decide +kernel))) rfl, W0_in (tp_5 (List.mem_of_getElem? (i := 161) (by decide +kernel))) rfl, W0_in (tp_5 (List.mem_of_getElem? (i := 162) (by decide +kernel))) rfl, W0_in (tp_1 (List.mem_of_getElem? (i := 4) (by decide +kernel))) rfl, kcw_X0_work⟩, ⟨by decide, by decide, by decide +kernel⟩, by decide, by decide⟩
theorem kcv_X5_166 : gMv RX5 166 zk_X5_goesLate 1 := ⟨⟨W0_in (tp_5 (List.mem_of_getElem? (i := 192) (by decide +kernel))) rfl, W0_in (tp_5 (List.mem_of_getElem? (i := 194) (by decide +kernel))) rfl, W0_in (List.mem_of_getElem? (i := 66) (by decide +kernel)) rfl, W0_in (tp_1 (List.mem_of_getElem? (i := 7) (by decide +kernel))) rfl, kcw_X5_goesLate⟩, ⟨by decide, by decide, by decide +kernel⟩, by decide, by decide⟩
theorem kcv_X5_169 : gMv RX5 169 zk_X5_canAct 1 := ⟨⟨W0_in (tp_5 (List.mem_of_getElem? (i := 184) (by decide +kernel))) rfl, W0_in (tp_5 (List.mem_of_getElem? (i := 186) (by decide +kernel))) rfl, W0_in (List.mem_of_getElem? (i := 65) (by decide +kernel)) rfl, W0_in (tp_1 (List.mem_of_getElem? (i := 7) (by decide +kernel))) rfl, kcw_X5_canAct⟩, ⟨by decide, by decide, by decide +kernel⟩, by decide, by decide⟩
theorem kcv_X5_172 : gMv RX5 172 zk_X5_listAct 1 := ⟨⟨W0_in (tp_5 (List.mem_of_getElem? (i := 200) (by decide +kernel))) rfl, W0_in (tp_5 (List.mem_of_getElem? (i := 202) (by decide +kernel))) rfl, W0_in (List.mem_of_getElem? (i := 67) (by decide +kernel)) rfl, W0_in (tp_1 (List.mem_of_getElem? (i := 7) (by decide +kernel))) rfl, kcw_X5_listAct⟩, ⟨by decide, by decide, by decide +kernel⟩, by decide, by decide⟩
theorem kcv_X5_175 : gMv RX5 175 zk_X5_isFirstOfCell 2 := ⟨⟨W0_in (tp_5 (List.mem_of_getElem? (i := 212) (by decide +kernel))) rfl, W0_in (tp_5 (List.mem_of_getElem? (i := 214) (by decide +kernel))) rfl, W0_in (List.mem_of_getElem? (i := 69) (by decide +kernel)) rfl, W0_in (tp_1 (List.mem_of_getElem? (i := 7) (by decide +kernel))) rfl, kcw_X5_isFirstOfCell⟩, ⟨by decide, by decide, by decide +kernel⟩, by decide, by decide⟩
theorem kcv_X5_179 : gMv RX5 179 zk_X5_list 3 := ⟨⟨W0_in (tp_5 (List.mem_of_getElem? (i := 208) (by decide +kernel))) rfl, W0_in (tp_5 (List.mem_of_getElem? (i := 210) (by decide +kernel))) rfl, W0_in (List.mem_of_getElem? (i := 68) (by decide +kernel)) rfl, W0_in (tp_1 (List.mem_of_getElem? (i := 7) (by decide +kernel))) rfl, kcw_X5_list⟩, ⟨by decide, by decide, by decide +kernel⟩, by decide, by decide⟩
theorem kcv_X5_185 : gMv RX5 185 zk_X5_waiters 1 := ⟨⟨W0_in (tp_5 (List.mem_of_getElem? (i := 204) (by decide +kernel))) rfl, W0_in (tp_5 (List.mem_of_getElem? (i := 205) (by decide +kernel))) rfl, W0_in (tp_5 (List.mem_of_getElem? (i := 206) (by decide +kernel))) rfl, W0_in (tp_1 (List.mem_of_getElem? (i := 7) (by decide +kernel))) rfl, kcw_X5_waiters⟩, ⟨by decide, by decide, by decide +kernel⟩, by decide, by decide⟩
theorem kcv_X5_188 : gMv RX5 188 zk_X1_clear 3 := ⟨⟨W0_in (tp_6 (List.mem_of_getElem? (i := 34) (by decide +kernel))) rfl, W0_in (tp_6 (List.mem_of_getElem? (i := 35) (by decide +kernel))) rfl, W0_in (tp_6 (List.mem_of_getElem? (i := 36) (by decide +kernel))) rfl, W0_in (tp_1 (List.mem_of_getElem? (i := 8) (by decide +kernel))) rfl, kcw_X1_clear⟩, ⟨by decide, by decide, by decide +kernel⟩, by decide, by decide⟩
theorem kcv_X5_191 : gMv RX5 191 zk_X5_bringLate 2 := ⟨⟨W0_in (tp_6 (List.mem_of_getElem? (i := 38) (by decide +kernel))) rfl, W0_in (tp_6 (List.mem_of_getElem? (i := 40) (by decide +kernel))) rfl, W0_in (List.mem_of_getElem? (i := 72) (by decide +kernel)) rfl, W0_in (tp_1 (List.mem_of_getElem? (i := 7) (by decide +kernel))) rfl, kcw_X5_bringLate⟩, ⟨by decide, by decide, by decide +kernel⟩, by decide, by decide⟩
theorem kcv_X5_195 : gMv RX5 195 zk_X5_actFailure 4 := ⟨⟨W0_in (tp_6 (List.mem_of_getElem? (i := 50) (by decide +kernel))) rfl, W0_in (tp_6 (List.mem_of_getElem? (i := 52) (by decide +kernel))) rfl, W0_in (List.mem_of_getElem? (i := 75) (by decide +kernel)) rfl, W0_in (tp_1 (List.mem_of_getElem? (i := 7) (by decide +kernel))) rfl, kcw_X5_actFailure⟩, ⟨by decide, by decide, by decide +kernel⟩, by decide, by decide⟩
theorem kcv_X5_202 : gMv RX5 202 zk_X5_fail 2 := ⟨⟨W0_in (tp_5 (List.mem_of_getElem? (i := 168) (by decide +kernel))) rfl, W0_in (tp_5 (List.mem_of_getElem? (i := 170) (by decide +kernel))) rfl, W0_in (List.mem_of_getElem? (i := 63) (by decide +kernel)) rfl, W0_in (tp_1 (List.mem_of_getElem? (i := 7) (by decide +kernel))) rfl, kcw_X5_fail⟩, ⟨by decide, by decide, by decide +kernel⟩, by decide, by decide⟩
theorem kcv_X5_205 : gMv RX5 205 zk_X5_settle 1 := ⟨⟨W0_in (tp_5 (List.mem_of_getElem? (i := 139) (by decide +kernel))) rfl, W0_in (tp_5 (List.mem_of_getElem? (i := 141) (by decide +kernel))) rfl, W0_in (List.mem_of_getElem? (i := 59) (by decide +kernel)) rfl, W0_in (tp_1 (List.mem_of_getElem? (i := 7) (by decide +kernel))) rfl, kcw_X5_settle⟩, ⟨by decide, by decide, by decide +kernel⟩, by decide, by decide⟩
theorem kcv_X5_208 : gMv RX5 208 zk_X5_setLate 4 := ⟨⟨W0_in (tp_6 (List.mem_of_getElem? (i := 46) (by decide +kernel))) rfl, W0_in (tp_6 (List.mem_of_getElem? (i := 48) (by decide +kernel))) rfl, W0_in (List.mem_of_getElem? (i := 74) (by decide +kernel)) rfl, W0_in (tp_1 (List.mem_of_getElem? (i := 7) (by decide +kernel))) rfl, kcw_X5_setLate⟩, ⟨by decide, by decide, by decide +kernel⟩, by decide, by decide⟩
theorem kcv_X5_212 : gMv RX5 212 zk_X5_doAccess 3 := ⟨⟨W0_in (tp_6 (List.mem_of_getElem? (i := 54) (by decide +kernel))) rfl, W0_in (tp_6 (List.mem_of_getElem? (i := 56) (by decide +kernel))) rfl, W0_in (List.mem_of_getElem? (i := 76) (by decide +kernel)) rfl, W0_in (tp_1 (List.mem_of_getElem? (i := 7) (by decide +kernel))) rfl, kcw_X5_doAccess⟩, ⟨by decide, by decide, by decide +kernel⟩, by decide, by decide⟩
theorem kcv_X5_216 : gMv RX5 216 zk_X5_often 1 := ⟨⟨W0_in (tp_6 (List.mem_of_getElem? (i := 70) (by decide +kernel))) rfl, W0_in (tp_6 (List.mem_of_getElem? (i := 71) (by decide +kernel))) rfl, W0_in (tp_6 (List.mem_of_getElem? (i := 72) (by decide +kernel))) rfl, W0_in (tp_1 (List.mem_of_getElem? (i := 7) (by decide +kernel))) rfl, kcw_X5_often⟩, ⟨by decide, by decide, by decide +kernel⟩, by decide, by decide⟩
theorem kcv_X5_219 : gMv RX5 219 zk_X5_setLock 3 := ⟨⟨W0_in (tp_6 (List.mem_of_getElem? (i := 74) (by decide +kernel))) rfl, W0_in (tp_6 (List.mem_of_getElem? (i := 76) (by decide +kernel))) rfl, W0_in (List.mem_of_getElem? (i := 79) (by decide +kernel)) rfl, W0_in (tp_1 (List.mem_of_getElem? (i := 7) (by decide +kernel))) rfl, kcw_X5_setLock⟩, ⟨by decide, by decide, by decide +kernel⟩, by decide, by decide⟩
theorem kcv_X5_222 : gMv RX5 222 zk_X5_doGive 2 := ⟨⟨W0_in (tp_6 (List.mem_of_getElem? (i := 78) (by decide +kernel))) rfl, W0_in (tp_6 (List.mem_of_getElem? (i := 80) (by decide +kernel))) rfl, W0_in (List.mem_of_getElem? (i := 80) (by decide +kernel)) rfl, W0_in (tp_1 (List.mem_of_getElem? (i := 7) (by decide +kernel))) rfl, kcw_X5_doGive⟩, ⟨by decide, by decide, by decide +kernel⟩, by decide, by decide⟩
theorem kcv_X5_225 : gMv RX5 225 zk_X5_doWait 2 := ⟨⟨W0_in (tp_6 (List.mem_of_getElem? (i := 82) (by decide +kernel))) rfl, W0_in (tp_6 (List.mem_of_getElem? (i := 84) (by decide +kernel))) rfl, W0_in (List.mem_of_getElem? (i := 81) (by decide +kernel)) rfl, W0_in (tp_1 (List.mem_of_getElem? (i := 7) (by decide +kernel))) rfl, kcw_X5_doWait⟩, ⟨by decide, by decide, by decide +kernel⟩, by decide, by decide⟩
theorem kcv_X5_228 : gMv RX5 228 zk_X5_doRetake 2 := ⟨⟨W0_in (tp_6 (List.mem_of_getElem? (i := 86) (by decide +kernel))) rfl, W0_in (tp_6 (List.mem_of_getElem? (i := 88) (by decide +kernel))) rfl, W0_in (List.mem_of_getElem? (i := 82) (by decide +kernel)) rfl, W0_in (tp_1 (List.mem_of_getElem? (i := 7) (by decide +kernel))) rfl, kcw_X5_doRetake⟩, ⟨by decide, by decide, by decide +kernel⟩, by decide, by decide⟩
theorem kcv_X5_231 : gMv RX5 231 zk_X5_doWake 4 := ⟨⟨W0_in (tp_6 (List.mem_of_getElem? (i := 90) (by decide +kernel))) rfl, W0_in (tp_6 (List.mem_of_getElem? (i := 92) (by decide +kernel))) rfl, W0_in (List.mem_of_getElem? (i := 83) (by decide +kernel)) rfl, W0_in (tp_1 (List.mem_of_getElem? (i := 7) (by decide +kernel))) rfl, kcw_X5_doWake⟩, ⟨by decide, by decide, by decide +kernel⟩, by decide, by decide⟩
theorem kcv_X5_235 : gMv RX5 235 zk_X5_doCallOrBack 3 := ⟨⟨W0_in (tp_6 (List.mem_of_getElem? (i := 94) (by decide +kernel))) rfl, W0_in (tp_6 (List.mem_of_getElem? (i := 96) (by decide +kernel))) rfl, W0_in (List.mem_of_getElem? (i := 84) (by decide +kernel)) rfl, W0_in (tp_1 (List.mem_of_getElem? (i := 7) (by decide +kernel))) rfl, kcw_X5_doCallOrBack⟩, ⟨by decide, by decide, by decide +kernel⟩, by decide, by decide⟩
theorem kcv_X5_240 : gMv RX5 240 zk_X5_seenBy 2 := ⟨⟨W0_in (tp_6 (List.mem_of_getElem? (i := 58) (by decide +kernel))) rfl, W0_in (tp_6 (List.mem_of_getElem? (i := 59) (by decide +kernel))) rfl, W0_in (tp_6 (List.mem_of_getElem? (i := 60) (by decide +kernel))) rfl, W0_in (tp_1 (List.mem_of_getElem? (i := 7) (by decide +kernel))) rfl, kcw_X5_seenBy⟩, ⟨by decide, by decide, by decide +kernel⟩, by decide, by decide⟩
theorem kcv_X5_246 : gMv RX5 246 zk_X5_doWrite 4 := ⟨⟨W0_in (tp_6 (List.mem_of_getElem? (i := 62) (by decide +kernel))) rfl, W0_in (tp_6 (List.mem_of_getElem? (i := 64) (by decide +kernel))) rfl, W0_in (List.mem_of_getElem? (i := 77) (by decide +kernel)) rfl, W0_in (tp_1 (List.mem_of_getElem? (i := 7) (by decide +kernel))) rfl, kcw_X5_doWrite⟩, ⟨by decide, by decide, by decide +kernel⟩, by decide, by decide⟩
theorem kcv_X5_249 : gMv RX5 249 zk_X5_doExchange 4 := ⟨⟨W0_in (tp_6 (List.mem_of_getElem? (i := 66) (by decide +kernel))) rfl, W0_in (tp_6 (List.mem_of_getElem? (i := 68) (by decide +kernel))) rfl, W0_in (List.mem_of_getElem? (i := 78) (by decide +kernel)) rfl, W0_in (tp_1 (List.mem_of_getElem? (i := 7) (by decide +kernel))) rfl, kcw_X5_doExchange⟩, ⟨by decide, by decide, by decide +kernel⟩, by decide, by decide⟩
theorem kcv_X5_262 : gMv RX5 262 zk_X5_ownFailure 3 := ⟨⟨W0_in (tp_5 (List.mem_of_getElem? (i := 152) (by decide +kernel))) rfl, W0_in (tp_5 (List.mem_of_getElem? (i := 154) (by decide +kernel))) rfl, W0_in (List.mem_of_getElem? (i := 60) (by decide +kernel)) rfl, W0_in (tp_1 (List.mem_of_getElem? (i := 7) (by decide +kernel))) rfl, kcw_X5_ownFailure⟩, ⟨by decide, by decide, by decide +kernel⟩, by decide, by decide⟩
theorem kcv_X5_265 : gMv RX5 265 zk_X5_blankUnknown 1 := ⟨⟨W0_in (tp_5 (List.mem_of_getElem? (i := 172) (by decide +kernel))) rfl, W0_in (tp_5 (List.mem_of_getElem? (i := 174) (by decide +kernel))) rfl, W0_in (List.mem_of_getElem? (i := 64) (by decide +kernel)) rfl, W0_in (tp_1 (List.mem_of_getElem? (i := 7) (by decide +kernel))) rfl, kcw_X5_blankUnknown⟩, ⟨by decide, by decide, by decide +kernel⟩, by decide, by decide⟩
theorem kcv_X5_268 : gMv RX5 268 zk_X5_mixPart 3 := ⟨⟨W0_in (tp_8 (List.mem_of_getElem? (i := 21) (by decide +kernel))) rfl, W0_in (tp_8 (List.mem_of_getElem? (i := 23) (by decide +kernel))) rfl, W0_in (List.mem_of_getElem? (i := 99) (by decide +kernel)) rfl, W0_in (tp_1 (List.mem_of_getElem? (i := 7) (by decide +kernel))) rfl, kcw_X5_mixPart⟩, ⟨by decide, by decide, by decide +kernel⟩, by decide, by decide⟩
theorem kcv_X5_271 : gMv RX5 271 zk_X5_usedOf 1 := ⟨⟨W0_in (tp_8 (List.mem_of_getElem? (i := 26) (by decide +kernel))) rfl, W0_in (tp_8 (List.mem_of_getElem? (i := 28) (by decide +kernel))) rfl, W0_in (List.mem_of_getElem? (i := 100) (by decide +kernel)) rfl, W0_in (tp_1 (List.mem_of_getElem? (i := 7) (by decide +kernel))) rfl, kcw_X5_usedOf⟩, ⟨by decide, by decide, by decide +kernel⟩, by decide, by decide⟩
theorem kcv_X5_275 : gMv RX5 275 zk_X5_isSamePart 3 := ⟨⟨W0_in (tp_8 (List.mem_of_getElem? (i := 34) (by decide +kernel))) rfl, W0_in (tp_8 (List.mem_of_getElem? (i := 36) (by decide +kernel))) rfl, W0_in (List.mem_of_getElem? (i := 101) (by decide +kernel)) rfl, W0_in (tp_1 (List.mem_of_getElem? (i := 7) (by decide +kernel))) rfl, kcw_X5_isSamePart⟩, ⟨by decide, by decide, by decide +kernel⟩, by decide, by decide⟩
theorem kcv_X5_279 : gMv RX5 279 zk_X5_known 1 := ⟨⟨W0_in (tp_5 (List.mem_of_getElem? (i := 176) (by decide +kernel))) rfl, W0_in (tp_5 (List.mem_of_getElem? (i := 177) (by decide +kernel))) rfl, W0_in (tp_5 (List.mem_of_getElem? (i := 178) (by decide +kernel))) rfl, W0_in (tp_1 (List.mem_of_getElem? (i := 7) (by decide +kernel))) rfl, kcw_X5_known⟩, ⟨by decide, by decide, by decide +kernel⟩, by decide, by decide⟩
theorem kcv_X6_58 : gMv RX6 58 zk_X6_faultOf 1 := ⟨⟨W0_in (tp_4 (List.mem_of_getElem? (i := 232) (by decide +kernel))) rfl, W0_in (tp_4 (List.mem_of_getElem? (i := 234) (by decide +kernel))) rfl, W0_in (List.mem_of_getElem? (i := 48) (by decide +kernel)) rfl, W0_in (tp_1 (List.mem_of_getElem? (i := 3) (by decide +kernel))) rfl, kcw_X6_faultOf⟩, ⟨by decide, by decide, by decide +kernel⟩, by decide, by decide⟩
theorem kcv_X6_65 : gMv RX6 65 zk_X6_isToldBefore 1 := ⟨⟨W0_in (tp_4 (List.mem_of_getElem? (i := 236) (by decide +kernel))) rfl, W0_in (tp_4 (List.mem_of_getElem? (i := 238) (by decide +kernel))) rfl, W0_in (List.mem_of_getElem? (i := 49) (by decide +kernel)) rfl, W0_in (tp_1 (List.mem_of_getElem? (i := 3) (by decide +kernel))) rfl, kcw_X6_isToldBefore⟩, ⟨by decide, by decide, by decide +kernel⟩, by decide, by decide⟩
theorem kcv_X6_69 : gMv RX6 69 zk_X6_numberOf 3 := ⟨⟨W0_in (tp_5 (List.mem_of_getElem? (i := 5) (by decide +kernel))) rfl, W0_in (tp_5 (List.mem_of_getElem? (i := 7) (by decide +kernel))) rfl, W0_in (List.mem_of_getElem? (i := 51) (by decide +kernel)) rfl, W0_in (tp_1 (List.mem_of_getElem? (i := 3) (by decide +kernel))) rfl, kcw_X6_numberOf⟩, ⟨by decide, by decide, by decide +kernel⟩, by decide, by decide⟩
theorem kcs_X6_76 : gMs RX6 76 zk_X6_isRowSize 1 := ⟨⟨W0_in (tp_5 (List.mem_of_getElem? (i := 9) (by decide +kernel))) rfl, W0_in (tp_4 (List.mem_of_getElem? (i := 66) (by decide +kernel))) rfl, W0_in (tp_1 (List.mem_of_getElem? (i := 3) (by decide +kernel))) rfl, kcw_X6_isRowSize⟩, ⟨by decide, by decide, by decide +kernel⟩, by decide, by decide⟩
theorem kcv_X6_79 : gMv RX6 79 zk_X6_faultOfCell 1 := ⟨⟨W0_in (tp_5 (List.mem_of_getElem? (i := 10) (by decide +kernel))) rfl, W0_in (tp_5 (List.mem_of_getElem? (i := 12) (by decide +kernel))) rfl, W0_in (List.mem_of_getElem? (i := 52) (by decide +kernel)) rfl, W0_in (tp_1 (List.mem_of_getElem? (i := 3) (by decide +kernel))) rfl, kcw_X6_faultOfCell⟩, ⟨by decide, by decide, by decide +kernel⟩, by decide, by decide⟩
theorem kcv_X6_82 : gMv RX6 82 zk_X6_cellOf 2 := ⟨⟨W0_in (tp_5 (List.mem_of_getElem? (i := 14) (by decide +kernel))) rfl, W0_in (tp_5 (List.mem_of_getElem? (i := 16) (by decide +kernel))) rfl, W0_in (List.mem_of_getElem? (i := 53) (by decide +kernel)) rfl, W0_in (tp_1 (List.mem_of_getElem? (i := 3) (by decide +kernel))) rfl, kcw_X6_cellOf⟩, ⟨by decide, by decide, by decide +kernel⟩, by decide, by decide⟩
theorem kcv_X6_86 : gMv RX6 86 zk_X6_isAmong 3 := ⟨⟨W0_in (tp_5 (List.mem_of_getElem? (i := 0) (by decide +kernel))) rfl, W0_in (tp_5 (List.mem_of_getElem? (i := 2) (by decide +kernel))) rfl, W0_in (List.mem_of_getElem? (i := 50) (by decide +kernel)) rfl, W0_in (tp_1 (List.mem_of_getElem? (i := 3) (by decide +kernel))) rfl, kcw_X6_isAmong⟩, ⟨by decide, by decide, by decide +kernel⟩, by decide, by decide⟩
theorem kcv_X6_90 : gMv RX6 90 zk_X9_sameName 2 := ⟨⟨W0_in (tp_5 (List.mem_of_getElem? (i := 4) (by decide +kernel))) rfl, W0_in (tp_4 (List.mem_of_getElem? (i := 152) (by decide +kernel))) rfl, W0_in (tp_4 (List.mem_of_getElem? (i := 153) (by decide +kernel))) rfl, W0_in (tp_1 (List.mem_of_getElem? (i := 2) (by decide +kernel))) rfl, kcw_X9_sameName⟩, ⟨by decide, by decide, by decide +kernel⟩, by decide, by decide⟩
theorem kcv_X7_56 : gMv RX7 56 zk_X6_clear 0 := ⟨⟨W0_in (tp_3 (List.mem_of_getElem? (i := 195) (by decide +kernel))) rfl, W0_in (tp_3 (List.mem_of_getElem? (i := 196) (by decide +kernel))) rfl, W0_in (tp_3 (List.mem_of_getElem? (i := 197) (by decide +kernel))) rfl, W0_in (tp_1 (List.mem_of_getElem? (i := 3) (by decide +kernel))) rfl, kcw_X6_clear⟩, ⟨by decide, by decide, by decide +kernel⟩, by decide, by decide⟩
theorem kcv_X7_61 : gMv RX7 61 zk_X0_clear 0 := ⟨⟨W0_in (tp_3 (List.mem_of_getElem? (i := 202) (by decide +kernel))) rfl, W0_in (tp_3 (List.mem_of_getElem? (i := 203) (by decide +kernel))) rfl, W0_in (tp_3 (List.mem_of_getElem? (i := 204) (by decide +kernel))) rfl, W0_in (tp_1 (List.mem_of_getElem? (i := 4) (by decide +kernel))) rfl, kcw_X0_clear⟩, ⟨by decide, by decide, by decide +kernel⟩, by decide, by decide⟩
theorem kcv_X7_71 : gMv RX7 71 zk_X7_sort 0 := ⟨⟨W0_in (tp_3 (List.mem_of_getElem? (i := 206) (by decide +kernel))) rfl, W0_in (tp_3 (List.mem_of_getElem? (i := 208) (by decide +kernel))) rfl, W0_in (List.mem_of_getElem? (i := 9) (by decide +kernel)) rfl, W0_in (tp_1 (List.mem_of_getElem? (i := 6) (by decide +kernel))) rfl, kcw_X7_sort⟩, ⟨by decide, by decide, by decide +kernel⟩, by decide, by decide⟩
theorem kcv_X7_75 : gMv RX7 75 zk_X7_definition 0 := ⟨⟨W0_in (tp_3 (List.mem_of_getElem? (i := 210) (by decide +kernel))) rfl, W0_in (tp_3 (List.mem_of_getElem? (i := 212) (by decide +kernel))) rfl, W0_in (List.mem_of_getElem? (i := 10) (by decide +kernel)) rfl, W0_in (tp_1 (List.mem_of_getElem? (i := 6) (by decide +kernel))) rfl, kcw_X7_definition⟩, ⟨by decide, by decide, by decide +kernel⟩, by decide, by decide⟩
theorem kcv_X7_78 : gMv RX7 78 zk_X7_closeBlock 0 := ⟨⟨W0_in (tp_4 (List.mem_of_getElem? (i := 162) (by decide +kernel))) rfl, W0_in (tp_4 (List.mem_of_getElem? (i := 164) (by decide +kernel))) rfl, W0_in (List.mem_of_getElem? (i := 34) (by decide +kernel)) rfl, W0_in (tp_1 (List.mem_of_getElem? (i := 6) (by decide +kernel))) rfl, kcw_X7_closeBlock⟩, ⟨by decide, by decide, by decide +kernel⟩, by decide, by decide⟩
theorem kcv_X7_81 : gMv RX7 81 zk_X7_statement 0 := ⟨⟨W0_in (tp_4 (List.mem_of_getElem? (i := 182) (by decide +kernel))) rfl, W0_in (tp_4 (List.mem_of_getElem? (i := 184) (by decide +kernel))) rfl, W0_in (List.mem_of_getElem? (i := 38) (by decide +kernel)) rfl, W0_in (tp_1 (List.mem_of_getElem? (i := 6) (by decide +kernel))) rfl, kcw_X7_statement⟩, ⟨by decide, by decide, by decide +kernel⟩, by decide, by decide⟩
theorem kcv_X7_84 : gMv RX7 84 zk_X7_cellDefinition 0 := ⟨⟨W0_in (tp_3 (List.mem_of_getElem? (i := 214) (by decide +kernel))) rfl, W0_in (tp_3 (List.mem_of_getElem? (i := 216) (by decide +kernel))) rfl, W0_in (List.mem_of_getElem? (i := 11) (by decide +kernel)) rfl, W0_in (tp_1 (List.mem_of_getElem? (i := 6) (by decide +kernel))) rfl, kcw_X7_cellDefinition⟩, ⟨by decide, by decide, by decide +kernel⟩, by decide, by decide⟩
theorem kcv_X7_87 : gMv RX7 87 zk_X7_lockDefinition 0 := ⟨⟨W0_in (tp_4 (List.mem_of_getElem? (i := 87) (by decide +kernel))) rfl, W0_in (tp_4 (List.mem_of_getElem? (i := 89) (by decide +kernel))) rfl, W0_in (List.mem_of_getElem? (i := 20) (by decide +kernel)) rfl, W0_in (tp_1 (List.mem_of_getElem? (i := 6) (by decide +kernel))) rfl, kcw_X7_lockDefinition⟩, ⟨by decide, by decide, by decide +kernel⟩, by decide, by decide⟩
theorem kcv_X7_90 : gMv RX7 90 zk_X7_beginThread 0 := ⟨⟨W0_in (tp_4 (List.mem_of_getElem? (i := 95) (by decide +kernel))) rfl, W0_in (tp_4 (List.mem_of_getElem? (i := 97) (by decide +kernel))) rfl, W0_in (List.mem_of_getElem? (i := 21) (by decide +kernel)) rfl, W0_in (tp_1 (List.mem_of_getElem? (i := 6) (by decide +kernel))) rfl, kcw_X7_beginThread⟩, ⟨by decide, by decide, by decide +kernel⟩, by decide, by decide⟩
theorem kcv_X7_93 : gMv RX7 93 zk_X7_claim 0 := ⟨⟨W0_in (tp_4 (List.mem_of_getElem? (i := 111) (by decide +kernel))) rfl, W0_in (tp_4 (List.mem_of_getElem? (i := 113) (by decide +kernel))) rfl, W0_in (List.mem_of_getElem? (i := 24) (by decide +kernel)) rfl, W0_in (tp_1 (List.mem_of_getElem? (i := 6) (by decide +kernel))) rfl, kcw_X7_claim⟩, ⟨by decide, by decide, by decide +kernel⟩, by decide, by decide⟩
theorem kcv_X7_96 : gMv RX7 96 zk_X7_refuse 1 := ⟨⟨W0_in (tp_3 (List.mem_of_getElem? (i := 222) (by decide +kernel))) rfl, W0_in (tp_3 (List.mem_of_getElem? (i := 224) (by decide +kernel))) rfl, W0_in (List.mem_of_getElem? (i := 13) (by decide +kernel)) rfl, W0_in (tp_1 (List.mem_of_getElem? (i := 6) (by decide +kernel))) rfl, kcw_X7_refuse⟩, ⟨by decide, by decide, by decide +kernel⟩, by decide, by decide⟩
theorem kcv_X7_112 : gMv RX7 112 zk_X7_pass 0 := ⟨⟨W0_in (tp_3 (List.mem_of_getElem? (i := 218) (by decide +kernel))) rfl, W0_in (tp_3 (List.mem_of_getElem? (i := 220) (by decide +kernel))) rfl, W0_in (List.mem_of_getElem? (i := 12) (by decide +kernel)) rfl, W0_in (tp_1 (List.mem_of_getElem? (i := 6) (by decide +kernel))) rfl, kcw_X7_pass⟩, ⟨by decide, by decide, by decide +kernel⟩, by decide, by decide⟩
theorem kcv_X7_115 : gMv RX7 115 zk_X7_need 1 := ⟨⟨W0_in (tp_4 (List.mem_of_getElem? (i := 53) (by decide +kernel))) rfl, W0_in (tp_4 (List.mem_of_getElem? (i := 55) (by decide +kernel))) rfl, W0_in (List.mem_of_getElem? (i := 15) (by decide +kernel)) rfl, W0_in (tp_1 (List.mem_of_getElem? (i := 6) (by decide +kernel))) rfl, kcw_X7_need⟩, ⟨by decide, by decide, by decide +kernel⟩, by decide, by decide⟩
theorem kcv_X7_118 : gMv RX7 118 zk_X7_rowAhead 0 := ⟨⟨W0_in (tp_4 (List.mem_of_getElem? (i := 57) (by decide +kernel))) rfl, W0_in (tp_4 (List.mem_of_getElem? (i := 59) (by decide +kernel))) rfl, W0_in (List.mem_of_getElem? (i := 16) (by decide +kernel)) rfl, W0_in (tp_1 (List.mem_of_getElem? (i := 6) (by decide +kernel))) rfl, kcw_X7_rowAhead⟩, ⟨by decide, by decide, by decide +kernel⟩, by decide, by decide⟩
theorem kcv_X7_130 : gMv RX7 130 zk_X7_needFor 2 := ⟨⟨W0_in (tp_4 (List.mem_of_getElem? (i := 71) (by decide +kernel))) rfl, W0_in (tp_4 (List.mem_of_getElem? (i := 73) (by decide +kernel))) rfl, W0_in (List.mem_of_getElem? (i := 18) (by decide +kernel)) rfl, W0_in (tp_1 (List.mem_of_getElem? (i := 6) (by decide +kernel))) rfl, kcw_X7_needFor⟩, ⟨by decide, by decide, by decide +kernel⟩, by decide, by decide⟩
theorem kcv_X7_133 : gMv RX7 133 zk_X7_startValue 0 := ⟨⟨W0_in (tp_4 (List.mem_of_getElem? (i := 75) (by decide +kernel))) rfl, W0_in (tp_4 (List.mem_of_getElem? (i := 77) (by decide +kernel))) rfl, W0_in (List.mem_of_getElem? (i := 19) (by decide +kernel)) rfl, W0_in (tp_1 (List.mem_of_getElem? (i := 6) (by decide +kernel))) rfl, kcw_X7_startValue⟩, ⟨by decide, by decide, by decide +kernel⟩, by decide, by decide⟩
theorem kcv_X7_136 : gMv RX7 136 zk_X6_tellCell 3 := ⟨⟨W0_in (tp_4 (List.mem_of_getElem? (i := 79) (by decide +kernel))) rfl, W0_in (tp_4 (List.mem_of_getElem? (i := 80) (by decide +kernel))) rfl, W0_in (tp_4 (List.mem_of_getElem? (i := 81) (by decide +kernel))) rfl, W0_in (tp_1 (List.mem_of_getElem? (i := 3) (by decide +kernel))) rfl, kcw_X6_tellCell⟩, ⟨by decide, by decide, by decide +kernel⟩, by decide, by decide⟩
theorem kcv_X7_140 : gMv RX7 140 zk_X0_addCells 3 := ⟨⟨W0_in (tp_4 (List.mem_of_getElem? (i := 83) (by decide +kernel))) rfl, W0_in (tp_4 (List.mem_of_getElem? (i := 84) (by decide +kernel))) rfl, W0_in (tp_4 (List.mem_of_getElem? (i := 85) (by decide +kernel))) rfl, W0_in (tp_1 (List.mem_of_getElem? (i := 4) (by decide +kernel))) rfl, kcw_X0_addCells⟩, ⟨by decide, by decide, by decide +kernel⟩, by decide, by decide⟩
theorem kcv_X7_144 : gMv RX7 144 zk_X7_sortBehind 0 := ⟨⟨W0_in (tp_4 (List.mem_of_getElem? (i := 61) (by decide +kernel))) rfl, W0_in (tp_4 (List.mem_of_getElem? (i := 63) (by decide +kernel))) rfl, W0_in (List.mem_of_getElem? (i := 17) (by decide +kernel)) rfl, W0_in (tp_1 (List.mem_of_getElem? (i := 6) (by decide +kernel))) rfl, kcw_X7_sortBehind⟩, ⟨by decide, by decide, by decide +kernel⟩, by decide, by decide⟩
theorem kcs_X7_150 : gMs RX7 150 zk_X6_isRowSize 1 := ⟨⟨W0_in (tp_4 (List.mem_of_getElem? (i := 65) (by decide +kernel))) rfl, W0_in (tp_4 (List.mem_of_getElem? (i := 66) (by decide +kernel))) rfl, W0_in (tp_1 (List.mem_of_getElem? (i := 3) (by decide +kernel))) rfl, kcw_X6_isRowSize⟩, ⟨by decide, by decide, by decide +kernel⟩, by decide, by decide⟩
theorem kcv_X7_157 : gMv RX7 157 zk_X6_tellLock 1 := ⟨⟨W0_in (tp_4 (List.mem_of_getElem? (i := 91) (by decide +kernel))) rfl, W0_in (tp_4 (List.mem_of_getElem? (i := 92) (by decide +kernel))) rfl, W0_in (tp_4 (List.mem_of_getElem? (i := 93) (by decide +kernel))) rfl, W0_in (tp_1 (List.mem_of_getElem? (i := 3) (by decide +kernel))) rfl, kcw_X6_tellLock⟩, ⟨by decide, by decide, by decide +kernel⟩, by decide, by decide⟩
theorem kcv_X7_163 : gMv RX7 163 zk_X6_tellThread 1 := ⟨⟨W0_in (tp_4 (List.mem_of_getElem? (i := 99) (by decide +kernel))) rfl, W0_in (tp_4 (List.mem_of_getElem? (i := 100) (by decide +kernel))) rfl, W0_in (tp_4 (List.mem_of_getElem? (i := 101) (by decide +kernel))) rfl, W0_in (tp_1 (List.mem_of_getElem? (i := 3) (by decide +kernel))) rfl, kcw_X6_tellThread⟩, ⟨by decide, by decide, by decide +kernel⟩, by decide, by decide⟩
theorem kcv_X7_187 : gMv RX7 187 zk_X7_openBlock 2 := ⟨⟨W0_in (tp_4 (List.mem_of_getElem? (i := 103) (by decide +kernel))) rfl, W0_in (tp_4 (List.mem_of_getElem? (i := 105) (by decide +kernel))) rfl, W0_in (List.mem_of_getElem? (i := 22) (by decide +kernel)) rfl, W0_in (tp_1 (List.mem_of_getElem? (i := 6) (by decide +kernel))) rfl, kcw_X7_openBlock⟩, ⟨by decide, by decide, by decide +kernel⟩, by decide, by decide⟩
theorem kcv_X7_191 : gMv RX7 191 zk_X8_add 3 := ⟨⟨W0_in (tp_4 (List.mem_of_getElem? (i := 166) (by decide +kernel))) rfl, W0_in (tp_4 (List.mem_of_getElem? (i := 167) (by decide +kernel))) rfl, W0_in (tp_4 (List.mem_of_getElem? (i := 168) (by decide +kernel))) rfl, W0_in (tp_1 (List.mem_of_getElem? (i := 5) (by decide +kernel))) rfl, kcw_X8_add⟩, ⟨by decide, by decide, by decide +kernel⟩, by decide, by decide⟩
theorem kcv_X7_201 : gMv RX7 201 zk_X7_sum 1 := ⟨⟨W0_in (tp_4 (List.mem_of_getElem? (i := 115) (by decide +kernel))) rfl, W0_in (tp_4 (List.mem_of_getElem? (i := 117) (by decide +kernel))) rfl, W0_in (List.mem_of_getElem? (i := 25) (by decide +kernel)) rfl, W0_in (tp_1 (List.mem_of_getElem? (i := 6) (by decide +kernel))) rfl, kcw_X7_sum⟩, ⟨by decide, by decide, by decide +kernel⟩, by decide, by decide⟩
theorem kcv_X7_211 : gMv RX7 211 zk_X7_enter 2 := ⟨⟨W0_in (tp_4 (List.mem_of_getElem? (i := 107) (by decide +kernel))) rfl, W0_in (tp_4 (List.mem_of_getElem? (i := 109) (by decide +kernel))) rfl, W0_in (List.mem_of_getElem? (i := 23) (by decide +kernel)) rfl, W0_in (tp_1 (List.mem_of_getElem? (i := 6) (by decide +kernel))) rfl, kcw_X7_enter⟩, ⟨by decide, by decide, by decide +kernel⟩, by decide, by decide⟩
theorem kcv_X7_223 : gMv RX7 223 zk_X7_openElse 1 := ⟨⟨W0_in (tp_4 (List.mem_of_getElem? (i := 170) (by decide +kernel))) rfl, W0_in (tp_4 (List.mem_of_getElem? (i := 172) (by decide +kernel))) rfl, W0_in (List.mem_of_getElem? (i := 35) (by decide +kernel)) rfl, W0_in (tp_1 (List.mem_of_getElem? (i := 6) (by decide +kernel))) rfl, kcw_X7_openElse⟩, ⟨by decide, by decide, by decide +kernel⟩, by decide, by decide⟩
theorem kcv_X7_226 : gMv RX7 226 zk_X7_endIf 1 := ⟨⟨W0_in (tp_4 (List.mem_of_getElem? (i := 174) (by decide +kernel))) rfl, W0_in (tp_4 (List.mem_of_getElem? (i := 176) (by decide +kernel))) rfl, W0_in (List.mem_of_getElem? (i := 36) (by decide +kernel)) rfl, W0_in (tp_1 (List.mem_of_getElem? (i := 6) (by decide +kernel))) rfl, kcw_X7_endIf⟩, ⟨by decide, by decide, by decide +kernel⟩, by decide, by decide⟩
theorem kcv_X7_229 : gMv RX7 229 zk_X7_endThread 0 := ⟨⟨W0_in (tp_4 (List.mem_of_getElem? (i := 178) (by decide +kernel))) rfl, W0_in (tp_4 (List.mem_of_getElem? (i := 180) (by decide +kernel))) rfl, W0_in (List.mem_of_getElem? (i := 37) (by decide +kernel)) rfl, W0_in (tp_1 (List.mem_of_getElem? (i := 6) (by decide +kernel))) rfl, kcw_X7_endThread⟩, ⟨by decide, by decide, by decide +kernel⟩, by decide, by decide⟩
theorem kcs_X7_236 : gMs RX7 236 zk_X7_opOf 1 := ⟨⟨W0_in (tp_4 (List.mem_of_getElem? (i := 186) (by decide +kernel))) rfl, W0_in (tp_4 (List.mem_of_getElem? (i := 187) (by decide +kernel))) rfl, W0_in (tp_1 (List.mem_of_getElem? (i := 6) (by decide +kernel))) rfl, kcw_X7_opOf⟩, ⟨by decide, by decide, by decide +kernel⟩, by decide, by decide⟩
theorem kcv_X7_239 : gMv RX7 239 zk_X7_newLocal 0 := ⟨⟨W0_in (tp_4 (List.mem_of_getElem? (i := 189) (by decide +kernel))) rfl, W0_in (tp_4 (List.mem_of_getElem? (i := 191) (by decide +kernel))) rfl, W0_in (List.mem_of_getElem? (i := 39) (by decide +kernel)) rfl, W0_in (tp_1 (List.mem_of_getElem? (i := 6) (by decide +kernel))) rfl, kcw_X7_newLocal⟩, ⟨by decide, by decide, by decide +kernel⟩, by decide, by decide⟩
theorem kcv_X7_242 : gMv RX7 242 zk_X7_source 3 := ⟨⟨W0_in (tp_4 (List.mem_of_getElem? (i := 193) (by decide +kernel))) rfl, W0_in (tp_4 (List.mem_of_getElem? (i := 195) (by decide +kernel))) rfl, W0_in (List.mem_of_getElem? (i := 40) (by decide +kernel)) rfl, W0_in (tp_1 (List.mem_of_getElem? (i := 6) (by decide +kernel))) rfl, kcw_X7_source⟩, ⟨by decide, by decide, by decide +kernel⟩, by decide, by decide⟩
theorem kcv_X7_245 : gMv RX7 245 zk_X7_makeKnown 1 := ⟨⟨W0_in (tp_4 (List.mem_of_getElem? (i := 204) (by decide +kernel))) rfl, W0_in (tp_4 (List.mem_of_getElem? (i := 206) (by decide +kernel))) rfl, W0_in (List.mem_of_getElem? (i := 42) (by decide +kernel)) rfl, W0_in (tp_1 (List.mem_of_getElem? (i := 6) (by decide +kernel))) rfl, kcw_X7_makeKnown⟩, ⟨by decide, by decide, by decide +kernel⟩, by decide, by decide⟩
theorem kcv_X7_248 : gMv RX7 248 zk_X7_rowStatement 1 := ⟨⟨W0_in (tp_4 (List.mem_of_getElem? (i := 208) (by decide +kernel))) rfl, W0_in (tp_4 (List.mem_of_getElem? (i := 210) (by decide +kernel))) rfl, W0_in (List.mem_of_getElem? (i := 43) (by decide +kernel)) rfl, W0_in (tp_1 (List.mem_of_getElem? (i := 6) (by decide +kernel))) rfl, kcw_X7_rowStatement⟩, ⟨by decide, by decide, by decide +kernel⟩, by decide, by decide⟩
theorem kcv_X7_251 : gMv RX7 251 zk_X7_setTarget 0 := ⟨⟨W0_in (tp_4 (List.mem_of_getElem? (i := 212) (by decide +kernel))) rfl, W0_in (tp_4 (List.mem_of_getElem? (i := 214) (by decide +kernel))) rfl, W0_in (List.mem_of_getElem? (i := 44) (by decide +kernel)) rfl, W0_in (tp_1 (List.mem_of_getElem? (i := 6) (by decide +kernel))) rfl, kcw_X7_setTarget⟩, ⟨by decide, by decide, by decide +kernel⟩, by decide, by decide⟩
theorem kcv_X7_257 : gMv RX7 257 zk_X7_testStatement 1 := ⟨⟨W0_in (tp_4 (List.mem_of_getElem? (i := 216) (by decide +kernel))) rfl, W0_in (tp_4 (List.mem_of_getElem? (i := 218) (by decide +kernel))) rfl, W0_in (List.mem_of_getElem? (i := 45) (by decide +kernel)) rfl, W0_in (tp_1 (List.mem_of_getElem? (i := 6) (by decide +kernel))) rfl, kcw_X7_testStatement⟩, ⟨by decide, by decide, by decide +kernel⟩, by decide, by decide⟩
theorem kcv_X7_260 : gMv RX7 260 zk_X7_nameStep 2 := ⟨⟨W0_in (tp_4 (List.mem_of_getElem? (i := 220) (by decide +kernel))) rfl, W0_in (tp_4 (List.mem_of_getElem? (i := 222) (by decide +kernel))) rfl, W0_in (List.mem_of_getElem? (i := 46) (by decide +kernel)) rfl, W0_in (tp_1 (List.mem_of_getElem? (i := 6) (by decide +kernel))) rfl, kcw_X7_nameStep⟩, ⟨by decide, by decide, by decide +kernel⟩, by decide, by decide⟩
theorem kcv_X7_263 : gMv RX7 263 zk_X7_plainStatement 2 := ⟨⟨W0_in (tp_4 (List.mem_of_getElem? (i := 224) (by decide +kernel))) rfl, W0_in (tp_4 (List.mem_of_getElem? (i := 226) (by decide +kernel))) rfl, W0_in (List.mem_of_getElem? (i := 47) (by decide +kernel)) rfl, W0_in (tp_1 (List.mem_of_getElem? (i := 6) (by decide +kernel))) rfl, kcw_X7_plainStatement⟩, ⟨by decide, by decide, by decide +kernel⟩, by decide, by decide⟩
theorem kcv_X7_266 : gMv RX7 266 zk_X7_knownFrom 2 := ⟨⟨W0_in (tp_4 (List.mem_of_getElem? (i := 147) (by decide +kernel))) rfl, W0_in (tp_4 (List.mem_of_getElem? (i := 149) (by decide +kernel))) rfl, W0_in (List.mem_of_getElem? (i := 32) (by decide +kernel)) rfl, W0_in (tp_1 (List.mem_of_getElem? (i := 6) (by decide +kernel))) rfl, kcw_X7_knownFrom⟩, ⟨by decide, by decide, by decide +kernel⟩, by decide, by decide⟩
theorem kcv_X7_272 : gMv RX7 272 zk_X9_sameName 2 := ⟨⟨W0_in (tp_4 (List.mem_of_getElem? (i := 151) (by decide +kernel))) rfl, W0_in (tp_4 (List.mem_of_getElem? (i := 152) (by decide +kernel))) rfl, W0_in (tp_4 (List.mem_of_getElem? (i := 153) (by decide +kernel))) rfl, W0_in (tp_1 (List.mem_of_getElem? (i := 2) (by decide +kernel))) rfl, kcw_X9_sameName⟩, ⟨by decide, by decide, by decide +kernel⟩, by decide, by decide⟩
theorem kcv_X7_279 : gMv RX7 279 zk_X7_sourceOp 0 := ⟨⟨W0_in (tp_4 (List.mem_of_getElem? (i := 197) (by decide +kernel))) rfl, W0_in (tp_4 (List.mem_of_getElem? (i := 199) (by decide +kernel))) rfl, W0_in (List.mem_of_getElem? (i := 41) (by decide +kernel)) rfl, W0_in (tp_1 (List.mem_of_getElem? (i := 6) (by decide +kernel))) rfl, kcw_X7_sourceOp⟩, ⟨by decide, by decide, by decide +kernel⟩, by decide, by decide⟩
theorem kcs_X7_282 : gMs RX7 282 zk_X7_useOfCell 2 := ⟨⟨W0_in (tp_4 (List.mem_of_getElem? (i := 201) (by decide +kernel))) rfl, W0_in (tp_4 (List.mem_of_getElem? (i := 202) (by decide +kernel))) rfl, W0_in (tp_1 (List.mem_of_getElem? (i := 6) (by decide +kernel))) rfl, kcw_X7_useOfCell⟩, ⟨by decide, by decide, by decide +kernel⟩, by decide, by decide⟩
theorem kcv_X7_295 : gMv RX7 295 zk_X7_hold 3 := ⟨⟨W0_in (tp_4 (List.mem_of_getElem? (i := 119) (by decide +kernel))) rfl, W0_in (tp_4 (List.mem_of_getElem? (i := 121) (by decide +kernel))) rfl, W0_in (List.mem_of_getElem? (i := 26) (by decide +kernel)) rfl, W0_in (tp_1 (List.mem_of_getElem? (i := 6) (by decide +kernel))) rfl, kcw_X7_hold⟩, ⟨by decide, by decide, by decide +kernel⟩, by decide, by decide⟩
theorem kcv_X7_298 : gMv RX7 298 zk_X7_openOperand 0 := ⟨⟨W0_in (tp_4 (List.mem_of_getElem? (i := 123) (by decide +kernel))) rfl, W0_in (tp_4 (List.mem_of_getElem? (i := 125) (by decide +kernel))) rfl, W0_in (List.mem_of_getElem? (i := 27) (by decide +kernel)) rfl, W0_in (tp_1 (List.mem_of_getElem? (i := 6) (by decide +kernel))) rfl, kcw_X7_openOperand⟩, ⟨by decide, by decide, by decide +kernel⟩, by decide, by decide⟩
theorem kcv_X7_301 : gMv RX7 301 zk_X7_claimedCell 0 := ⟨⟨W0_in (tp_4 (List.mem_of_getElem? (i := 135) (by decide +kernel))) rfl, W0_in (tp_4 (List.mem_of_getElem? (i := 137) (by decide +kernel))) rfl, W0_in (List.mem_of_getElem? (i := 30) (by decide +kernel)) rfl, W0_in (tp_1 (List.mem_of_getElem? (i := 6) (by decide +kernel))) rfl, kcw_X7_claimedCell⟩, ⟨by decide, by decide, by decide +kernel⟩, by decide, by decide⟩
theorem kcv_X7_304 : gMv RX7 304 zk_X7_readOperand 0 := ⟨⟨W0_in (tp_4 (List.mem_of_getElem? (i := 143) (by decide +kernel))) rfl, W0_in (tp_4 (List.mem_of_getElem? (i := 145) (by decide +kernel))) rfl, W0_in (List.mem_of_getElem? (i := 31) (by decide +kernel)) rfl, W0_in (tp_1 (List.mem_of_getElem? (i := 6) (by decide +kernel))) rfl, kcw_X7_readOperand⟩, ⟨by decide, by decide, by decide +kernel⟩, by decide, by decide⟩
theorem kcv_X7_307 : gMv RX7 307 zk_X7_release 1 := ⟨⟨W0_in (tp_4 (List.mem_of_getElem? (i := 155) (by decide +kernel))) rfl, W0_in (tp_4 (List.mem_of_getElem? (i := 157) (by decide +kernel))) rfl, W0_in (List.mem_of_getElem? (i := 33) (by decide +kernel)) rfl, W0_in (tp_1 (List.mem_of_getElem? (i := 6) (by decide +kernel))) rfl, kcw_X7_release⟩, ⟨by decide, by decide, by decide +kernel⟩, by decide, by decide⟩
theorem kcs_X7_310 : gMs RX7 310 zk_X7_strengthOf 1 := ⟨⟨W0_in (tp_4 (List.mem_of_getElem? (i := 159) (by decide +kernel))) rfl, W0_in (tp_4 (List.mem_of_getElem? (i := 160) (by decide +kernel))) rfl, W0_in (tp_1 (List.mem_of_getElem? (i := 6) (by decide +kernel))) rfl, kcw_X7_strengthOf⟩, ⟨by decide, by decide, by decide +kernel⟩, by decide, by decide⟩
theorem kcv_X7_313 : gMv RX7 313 zk_X7_depthHere 0 := ⟨⟨W0_in (tp_4 (List.mem_of_getElem? (i := 131) (by decide +kernel))) rfl, W0_in (tp_4 (List.mem_of_getElem? (i := 133) (by decide +kernel))) rfl, W0_in (List.mem_of_getElem? (i := 29) (by decide +kernel)) rfl, W0_in (tp_1 (List.mem_of_getElem? (i := 6) (by decide +kernel))) rfl, kcw_X7_depthHere⟩, ⟨by decide, by decide, by decide +kernel⟩, by decide, by decide⟩
theorem kcv_X7_316 : gMv RX7 316 zk_X0_addPart 2 := ⟨⟨W0_in (tp_4 (List.mem_of_getElem? (i := 139) (by decide +kernel))) rfl, W0_in (tp_4 (List.mem_of_getElem? (i := 140) (by decide +kernel))) rfl, W0_in (tp_4 (List.mem_of_getElem? (i := 141) (by decide +kernel))) rfl, W0_in (tp_1 (List.mem_of_getElem? (i := 4) (by decide +kernel))) rfl, kcw_X0_addPart⟩, ⟨by decide, by decide, by decide +kernel⟩, by decide, by decide⟩
theorem kcv_X7_319 : gMv RX7 319 zk_X7_beginsSum 1 := ⟨⟨W0_in (tp_4 (List.mem_of_getElem? (i := 127) (by decide +kernel))) rfl, W0_in (tp_4 (List.mem_of_getElem? (i := 129) (by decide +kernel))) rfl, W0_in (List.mem_of_getElem? (i := 28) (by decide +kernel)) rfl, W0_in (tp_1 (List.mem_of_getElem? (i := 6) (by decide +kernel))) rfl, kcw_X7_beginsSum⟩, ⟨by decide, by decide, by decide +kernel⟩, by decide, by decide⟩
theorem kcv_X9_44 : gMv RX9 44 zk_X9_skipBlanks 0 := ⟨⟨W0_in (tp_3 (List.mem_of_getElem? (i := 109) (by decide +kernel))) rfl, W0_in (tp_3 (List.mem_of_getElem? (i := 111) (by decide +kernel))) rfl, W0_in (List.mem_of_getElem? (i := 1) (by decide +kernel)) rfl, W0_in (tp_1 (List.mem_of_getElem? (i := 2) (by decide +kernel))) rfl, kcw_X9_skipBlanks⟩, ⟨by decide, by decide, by decide +kernel⟩, by decide, by decide⟩
theorem kcv_X9_47 : gMv RX9 47 zk_X9_cutOne 0 := ⟨⟨W0_in (tp_3 (List.mem_of_getElem? (i := 117) (by decide +kernel))) rfl, W0_in (tp_3 (List.mem_of_getElem? (i := 119) (by decide +kernel))) rfl, W0_in (List.mem_of_getElem? (i := 3) (by decide +kernel)) rfl, W0_in (tp_1 (List.mem_of_getElem? (i := 2) (by decide +kernel))) rfl, kcw_X9_cutOne⟩, ⟨by decide, by decide, by decide +kernel⟩, by decide, by decide⟩
theorem kcv_X9_51 : gMv RX9 51 zk_X9_byteAt 1 := ⟨⟨W0_in (tp_3 (List.mem_of_getElem? (i := 113) (by decide +kernel))) rfl, W0_in (tp_3 (List.mem_of_getElem? (i := 115) (by decide +kernel))) rfl, W0_in (List.mem_of_getElem? (i := 2) (by decide +kernel)) rfl, W0_in (tp_1 (List.mem_of_getElem? (i := 2) (by decide +kernel))) rfl, kcw_X9_byteAt⟩, ⟨by decide, by decide, by decide +kernel⟩, by decide, by decide⟩
theorem kcs_X9_55 : gMs RX9 55 zk_X9_isLetter 1 := ⟨⟨W0_in (tp_3 (List.mem_of_getElem? (i := 121) (by decide +kernel))) rfl, W0_in (tp_3 (List.mem_of_getElem? (i := 122) (by decide +kernel))) rfl, W0_in (tp_1 (List.mem_of_getElem? (i := 2) (by decide +kernel))) rfl, kcw_X9_isLetter⟩, ⟨by decide, by decide, by decide +kernel⟩, by decide, by decide⟩
theorem kcv_X9_59 : gMv RX9 59 zk_X9_passLettersAndDigits 0 := ⟨⟨W0_in (tp_3 (List.mem_of_getElem? (i := 124) (by decide +kernel))) rfl, W0_in (tp_3 (List.mem_of_getElem? (i := 126) (by decide +kernel))) rfl, W0_in (List.mem_of_getElem? (i := 4) (by decide +kernel)) rfl, W0_in (tp_1 (List.mem_of_getElem? (i := 2) (by decide +kernel))) rfl, kcw_X9_passLettersAndDigits⟩, ⟨by decide, by decide, by decide +kernel⟩, by decide, by decide⟩
theorem kcv_X9_62 : gMv RX9 62 zk_X9_nameOrWord 1 := ⟨⟨W0_in (tp_3 (List.mem_of_getElem? (i := 131) (by decide +kernel))) rfl, W0_in (tp_3 (List.mem_of_getElem? (i := 133) (by decide +kernel))) rfl, W0_in (List.mem_of_getElem? (i := 5) (by decide +kernel)) rfl, W0_in (tp_1 (List.mem_of_getElem? (i := 2) (by decide +kernel))) rfl, kcw_X9_nameOrWord⟩, ⟨by decide, by decide, by decide +kernel⟩, by decide, by decide⟩
theorem kcs_X9_65 : gMs RX9 65 zk_X9_isDigit 1 := ⟨⟨W0_in (tp_3 (List.mem_of_getElem? (i := 128) (by decide +kernel))) rfl, W0_in (tp_3 (List.mem_of_getElem? (i := 129) (by decide +kernel))) rfl, W0_in (tp_1 (List.mem_of_getElem? (i := 2) (by decide +kernel))) rfl, kcw_X9_isDigit⟩, ⟨by decide, by decide, by decide +kernel⟩, by decide, by decide⟩
theorem kcv_X9_68 : gMv RX9 68 zk_X9_wholeOrBad 1 := ⟨⟨W0_in (tp_3 (List.mem_of_getElem? (i := 180) (by decide +kernel))) rfl, W0_in (tp_3 (List.mem_of_getElem? (i := 182) (by decide +kernel))) rfl, W0_in (List.mem_of_getElem? (i := 7) (by decide +kernel)) rfl, W0_in (tp_1 (List.mem_of_getElem? (i := 2) (by decide +kernel))) rfl, kcw_X9_wholeOrBad⟩, ⟨by decide, by decide, by decide +kernel⟩, by decide, by decide⟩
theorem kcv_X9_71 : gMv RX9 71 zk_X9_sign 2 := ⟨⟨W0_in (tp_3 (List.mem_of_getElem? (i := 184) (by decide +kernel))) rfl, W0_in (tp_3 (List.mem_of_getElem? (i := 186) (by decide +kernel))) rfl, W0_in (List.mem_of_getElem? (i := 8) (by decide +kernel)) rfl, W0_in (tp_1 (List.mem_of_getElem? (i := 2) (by decide +kernel))) rfl, kcw_X9_sign⟩, ⟨by decide, by decide, by decide +kernel⟩, by decide, by decide⟩
theorem kcv_X9_75 : gMv RX9 75 zk_X9_isWord 3 := ⟨⟨W0_in (tp_3 (List.mem_of_getElem? (i := 135) (by decide +kernel))) rfl, W0_in (tp_3 (List.mem_of_getElem? (i := 137) (by decide +kernel))) rfl, W0_in (List.mem_of_getElem? (i := 6) (by decide +kernel)) rfl, W0_in (tp_1 (List.mem_of_getElem? (i := 2) (by decide +kernel))) rfl, kcw_X9_isWord⟩, ⟨by decide, by decide, by decide +kernel⟩, by decide, by decide⟩
theorem kcs_X9_87 : gMs RX9 87 zk_X9_singleSign 1 := ⟨⟨W0_in (tp_3 (List.mem_of_getElem? (i := 188) (by decide +kernel))) rfl, W0_in (tp_3 (List.mem_of_getElem? (i := 189) (by decide +kernel))) rfl, W0_in (tp_1 (List.mem_of_getElem? (i := 2) (by decide +kernel))) rfl, kcw_X9_singleSign⟩, ⟨by decide, by decide, by decide +kernel⟩, by decide, by decide⟩
theorem kcv_X10_66 : gMv RX10 66 zk_X10_ringFrom 1 := ⟨⟨W0_in (tp_8 (List.mem_of_getElem? (i := 175) (by decide +kernel))) rfl, W0_in (tp_8 (List.mem_of_getElem? (i := 177) (by decide +kernel))) rfl, W0_in (List.mem_of_getElem? (i := 112) (by decide +kernel)) rfl, W0_in (tp_1 (List.mem_of_getElem? (i := 27) (by decide +kernel))) rfl, kcw_X10_ringFrom⟩, ⟨by decide, by decide, by decide +kernel⟩, by decide, by decide⟩
theorem kcs_X10_70 : gMs RX10 70 zk_X10_order 3 := ⟨⟨W0_in (tp_5 (List.mem_of_getElem? (i := 38) (by decide +kernel))) rfl, W0_in (tp_5 (List.mem_of_getElem? (i := 39) (by decide +kernel))) rfl, W0_in (tp_1 (List.mem_of_getElem? (i := 27) (by decide +kernel))) rfl, kcw_X10_order⟩, ⟨by decide, by decide, by decide +kernel⟩, by decide, by decide⟩
theorem kcv_X10_74 : gMv RX10 74 zk_X10_insertOutcome 3 := ⟨⟨W0_in (tp_8 (List.mem_of_getElem? (i := 96) (by decide +kernel))) rfl, W0_in (tp_8 (List.mem_of_getElem? (i := 98) (by decide +kernel))) rfl, W0_in (List.mem_of_getElem? (i := 109) (by decide +kernel)) rfl, W0_in (tp_1 (List.mem_of_getElem? (i := 27) (by decide +kernel))) rfl, kcw_X10_insertOutcome⟩, ⟨by decide, by decide, by decide +kernel⟩, by decide, by decide⟩
theorem kcv_X11_82 : gMv RX11 82 zk_X9_addByte 1 := ⟨⟨W0_in (tp_5 (List.mem_of_getElem? (i := 66) (by decide +kernel))) rfl, W0_in (tp_5 (List.mem_of_getElem? (i := 67) (by decide +kernel))) rfl, W0_in (tp_5 (List.mem_of_getElem? (i := 68) (by decide +kernel))) rfl, W0_in (tp_1 (List.mem_of_getElem? (i := 2) (by decide +kernel))) rfl, kcw_X9_addByte⟩, ⟨by decide, by decide, by decide +kernel⟩, by decide, by decide⟩
theorem kcv_X11_86 : gMv RX11 86 zk_X11_forgetAll 0 := ⟨⟨W0_in (tp_3 (List.mem_of_getElem? (i := 96) (by decide +kernel))) rfl, W0_in (tp_3 (List.mem_of_getElem? (i := 98) (by decide +kernel))) rfl, W0_in (List.mem_of_getElem? (i := 0) (by decide +kernel)) rfl, W0_in (tp_1 (List.mem_of_getElem? (i := 1) (by decide +kernel))) rfl, kcw_X11_forgetAll⟩, ⟨by decide, by decide, by decide +kernel⟩, by decide, by decide⟩
theorem kcv_X11_89 : gMv RX11 89 zk_X9_cut 0 := ⟨⟨W0_in (tp_3 (List.mem_of_getElem? (i := 105) (by decide +kernel))) rfl, W0_in (tp_3 (List.mem_of_getElem? (i := 106) (by decide +kernel))) rfl, W0_in (tp_3 (List.mem_of_getElem? (i := 107) (by decide +kernel))) rfl, W0_in (tp_1 (List.mem_of_getElem? (i := 2) (by decide +kernel))) rfl, kcw_X9_cut⟩, ⟨by decide, by decide, by decide +kernel⟩, by decide, by decide⟩
theorem kcv_X11_92 : gMv RX11 92 zk_X7_readAll 0 := ⟨⟨W0_in (tp_3 (List.mem_of_getElem? (i := 191) (by decide +kernel))) rfl, W0_in (tp_3 (List.mem_of_getElem? (i := 192) (by decide +kernel))) rfl, W0_in (tp_3 (List.mem_of_getElem? (i := 193) (by decide +kernel))) rfl, W0_in (tp_1 (List.mem_of_getElem? (i := 6) (by decide +kernel))) rfl, kcw_X7_readAll⟩, ⟨by decide, by decide, by decide +kernel⟩, by decide, by decide⟩
theorem kcv_X11_95 : gMv RX11 95 zk_X6_judge 0 := ⟨⟨W0_in (tp_4 (List.mem_of_getElem? (i := 228) (by decide +kernel))) rfl, W0_in (tp_4 (List.mem_of_getElem? (i := 229) (by decide +kernel))) rfl, W0_in (tp_4 (List.mem_of_getElem? (i := 230) (by decide +kernel))) rfl, W0_in (tp_1 (List.mem_of_getElem? (i := 3) (by decide +kernel))) rfl, kcw_X6_judge⟩, ⟨by decide, by decide, by decide +kernel⟩, by decide, by decide⟩
theorem kcv_X11_107 : gMv RX11 107 zk_X7_tokenHere 0 := ⟨⟨W0_in (tp_5 (List.mem_of_getElem? (i := 18) (by decide +kernel))) rfl, W0_in (tp_5 (List.mem_of_getElem? (i := 19) (by decide +kernel))) rfl, W0_in (tp_5 (List.mem_of_getElem? (i := 20) (by decide +kernel))) rfl, W0_in (tp_1 (List.mem_of_getElem? (i := 6) (by decide +kernel))) rfl, kcw_X7_tokenHere⟩, ⟨by decide, by decide, by decide +kernel⟩, by decide, by decide⟩
theorem kcv_X11_121 : gMv RX11 121 zk_X7_link 0 := ⟨⟨W0_in (tp_5 (List.mem_of_getElem? (i := 22) (by decide +kernel))) rfl, W0_in (tp_5 (List.mem_of_getElem? (i := 23) (by decide +kernel))) rfl, W0_in (tp_5 (List.mem_of_getElem? (i := 24) (by decide +kernel))) rfl, W0_in (tp_1 (List.mem_of_getElem? (i := 6) (by decide +kernel))) rfl, kcw_X7_link⟩, ⟨by decide, by decide, by decide +kernel⟩, by decide, by decide⟩
theorem kcs_X11_132 : gMs RX11 132 zk_X11_needWhat 2 := ⟨⟨W0_in (tp_5 (List.mem_of_getElem? (i := 101) (by decide +kernel))) rfl, W0_in (tp_5 (List.mem_of_getElem? (i := 102) (by decide +kernel))) rfl, W0_in (tp_1 (List.mem_of_getElem? (i := 1) (by decide +kernel))) rfl, kcw_X11_needWhat⟩, ⟨by decide, by decide, by decide +kernel⟩, by decide, by decide⟩
theorem kcv_X11_148 : gMv RX11 148 zk_X11_needCompiled 0 := ⟨⟨W0_in (tp_5 (List.mem_of_getElem? (i := 112) (by decide +kernel))) rfl, W0_in (tp_5 (List.mem_of_getElem? (i := 114) (by decide +kernel))) rfl, W0_in (List.mem_of_getElem? (i := 55) (by decide +kernel)) rfl, W0_in (tp_1 (List.mem_of_getElem? (i := 1) (by decide +kernel))) rfl, kcw_X11_needCompiled⟩, ⟨by decide, by decide, by decide +kernel⟩, by decide, by decide⟩
theorem kcs_X11_151 : gMs RX11 151 zk_X11_needWay 1 := ⟨⟨W0_in (tp_5 (List.mem_of_getElem? (i := 118) (by decide +kernel))) rfl, W0_in (tp_5 (List.mem_of_getElem? (i := 119) (by decide +kernel))) rfl, W0_in (tp_1 (List.mem_of_getElem? (i := 1) (by decide +kernel))) rfl, kcw_X11_needWay⟩, ⟨by decide, by decide, by decide +kernel⟩, by decide, by decide⟩
theorem kcv_X11_154 : gMv RX11 154 zk_X11_beginRun 1 := ⟨⟨W0_in (tp_5 (List.mem_of_getElem? (i := 122) (by decide +kernel))) rfl, W0_in (tp_5 (List.mem_of_getElem? (i := 124) (by decide +kernel))) rfl, W0_in (List.mem_of_getElem? (i := 56) (by decide +kernel)) rfl, W0_in (tp_1 (List.mem_of_getElem? (i := 1) (by decide +kernel))) rfl, kcw_X11_beginRun⟩, ⟨by decide, by decide, by decide +kernel⟩, by decide, by decide⟩
theorem kcv_X11_160 : gMv RX11 160 zk_X11_needRun 0 := ⟨⟨W0_in (tp_5 (List.mem_of_getElem? (i := 232) (by decide +kernel))) rfl, W0_in (tp_5 (List.mem_of_getElem? (i := 234) (by decide +kernel))) rfl, W0_in (List.mem_of_getElem? (i := 70) (by decide +kernel)) rfl, W0_in (tp_1 (List.mem_of_getElem? (i := 1) (by decide +kernel))) rfl, kcw_X11_needRun⟩, ⟨by decide, by decide, by decide +kernel⟩, by decide, by decide⟩
theorem kcs_X11_163 : gMs RX11 163 zk_X11_needIndex 2 := ⟨⟨W0_in (tp_6 (List.mem_of_getElem? (i := 4) (by decide +kernel))) rfl, W0_in (tp_6 (List.mem_of_getElem? (i := 5) (by decide +kernel))) rfl, W0_in (tp_1 (List.mem_of_getElem? (i := 1) (by decide +kernel))) rfl, kcw_X11_needIndex⟩, ⟨by decide, by decide, by decide +kernel⟩, by decide, by decide⟩
theorem kcv_X11_172 : gMv RX11 172 zk_X5_sortOf 1 := ⟨⟨W0_in (tp_6 (List.mem_of_getElem? (i := 8) (by decide +kernel))) rfl, W0_in (tp_5 (List.mem_of_getElem? (i := 189) (by decide +kernel))) rfl, W0_in (tp_5 (List.mem_of_getElem? (i := 190) (by decide +kernel))) rfl, W0_in (tp_1 (List.mem_of_getElem? (i := 7) (by decide +kernel))) rfl, kcw_X5_sortOf⟩, ⟨by decide, by decide, by decide +kernel⟩, by decide, by decide⟩
theorem kcv_X11_176 : gMv RX11 176 zk_X5_objectOf 1 := ⟨⟨W0_in (tp_6 (List.mem_of_getElem? (i := 9) (by decide +kernel))) rfl, W0_in (tp_6 (List.mem_of_getElem? (i := 10) (by decide +kernel))) rfl, W0_in (tp_6 (List.mem_of_getElem? (i := 11) (by decide +kernel))) rfl, W0_in (tp_1 (List.mem_of_getElem? (i := 7) (by decide +kernel))) rfl, kcw_X5_objectOf⟩, ⟨by decide, by decide, by decide +kernel⟩, by decide, by decide⟩
theorem kcv_X11_179 : gMv RX11 179 zk_X5_lateCell 2 := ⟨⟨W0_in (tp_6 (List.mem_of_getElem? (i := 17) (by decide +kernel))) rfl, W0_in (tp_5 (List.mem_of_getElem? (i := 217) (by decide +kernel))) rfl, W0_in (tp_5 (List.mem_of_getElem? (i := 218) (by decide +kernel))) rfl, W0_in (tp_1 (List.mem_of_getElem? (i := 7) (by decide +kernel))) rfl, kcw_X5_lateCell⟩, ⟨by decide, by decide, by decide +kernel⟩, by decide, by decide⟩
theorem kcv_X11_192 : gMv RX11 192 zk_X11_doChoice 1 := ⟨⟨W0_in (tp_6 (List.mem_of_getElem? (i := 26) (by decide +kernel))) rfl, W0_in (tp_6 (List.mem_of_getElem? (i := 28) (by decide +kernel))) rfl, W0_in (List.mem_of_getElem? (i := 71) (by decide +kernel)) rfl, W0_in (tp_1 (List.mem_of_getElem? (i := 1) (by decide +kernel))) rfl, kcw_X11_doChoice⟩, ⟨by decide, by decide, by decide +kernel⟩, by decide, by decide⟩
theorem kcv_X11_209 : gMv RX11 209 zk_X5_isStuck 0 := ⟨⟨W0_in (tp_6 (List.mem_of_getElem? (i := 161) (by decide +kernel))) rfl, W0_in (tp_6 (List.mem_of_getElem? (i := 162) (by decide +kernel))) rfl, W0_in (tp_6 (List.mem_of_getElem? (i := 163) (by decide +kernel))) rfl, W0_in (tp_1 (List.mem_of_getElem? (i := 7) (by decide +kernel))) rfl, kcw_X5_isStuck⟩, ⟨by decide, by decide, by decide +kernel⟩, by decide, by decide⟩
theorem kcv_X11_213 : gMv RX11 213 zk_X4_races 0 := ⟨⟨W0_in (tp_6 (List.mem_of_getElem? (i := 169) (by decide +kernel))) rfl, W0_in (tp_6 (List.mem_of_getElem? (i := 170) (by decide +kernel))) rfl, W0_in (tp_6 (List.mem_of_getElem? (i := 171) (by decide +kernel))) rfl, W0_in (tp_1 (List.mem_of_getElem? (i := 9) (by decide +kernel))) rfl, kcw_X4_races⟩, ⟨by decide, by decide, by decide +kernel⟩, by decide, by decide⟩
theorem kcv_X11_219 : gMv RX11 219 zk_X5_allLate 0 := ⟨⟨W0_in (tp_6 (List.mem_of_getElem? (i := 173) (by decide +kernel))) rfl, W0_in (tp_6 (List.mem_of_getElem? (i := 174) (by decide +kernel))) rfl, W0_in (tp_6 (List.mem_of_getElem? (i := 175) (by decide +kernel))) rfl, W0_in (tp_1 (List.mem_of_getElem? (i := 7) (by decide +kernel))) rfl, kcw_X5_allLate⟩, ⟨by decide, by decide, by decide +kernel⟩, by decide, by decide⟩
theorem kcv_X11_225 : gMv RX11 225 zk_X5_seenBy 2 := ⟨⟨W0_in (tp_6 (List.mem_of_getElem? (i := 191) (by decide +kernel))) rfl, W0_in (tp_6 (List.mem_of_getElem? (i := 59) (by decide +kernel))) rfl, W0_in (tp_6 (List.mem_of_getElem? (i := 60) (by decide +kernel))) rfl, W0_in (tp_1 (List.mem_of_getElem? (i := 7) (by decide +kernel))) rfl, kcw_X5_seenBy⟩, ⟨by decide, by decide, by decide +kernel⟩, by decide, by decide⟩
theorem kcv_X11_228 : gMv RX11 228 zk_X5_holder 1 := ⟨⟨W0_in (tp_6 (List.mem_of_getElem? (i := 199) (by decide +kernel))) rfl, W0_in (tp_5 (List.mem_of_getElem? (i := 197) (by decide +kernel))) rfl, W0_in (tp_5 (List.mem_of_getElem? (i := 198) (by decide +kernel))) rfl, W0_in (tp_1 (List.mem_of_getElem? (i := 7) (by decide +kernel))) rfl, kcw_X5_holder⟩, ⟨by decide, by decide, by decide +kernel⟩, by decide, by decide⟩
theorem kcv_X11_231 : gMv RX11 231 zk_X5_often 1 := ⟨⟨W0_in (tp_6 (List.mem_of_getElem? (i := 200) (by decide +kernel))) rfl, W0_in (tp_6 (List.mem_of_getElem? (i := 71) (by decide +kernel))) rfl, W0_in (tp_6 (List.mem_of_getElem? (i := 72) (by decide +kernel))) rfl, W0_in (tp_1 (List.mem_of_getElem? (i := 7) (by decide +kernel))) rfl, kcw_X5_often⟩, ⟨by decide, by decide, by decide +kernel⟩, by decide, by decide⟩
theorem kcv_X11_234 : gMv RX11 234 zk_X5_waiters 1 := ⟨⟨W0_in (tp_6 (List.mem_of_getElem? (i := 201) (by decide +kernel))) rfl, W0_in (tp_5 (List.mem_of_getElem? (i := 205) (by decide +kernel))) rfl, W0_in (tp_5 (List.mem_of_getElem? (i := 206) (by decide +kernel))) rfl, W0_in (tp_1 (List.mem_of_getElem? (i := 7) (by decide +kernel))) rfl, kcw_X5_waiters⟩, ⟨by decide, by decide, by decide +kernel⟩, by decide, by decide⟩
theorem kcv_X11_242 : gMv RX11 242 zk_X5_get 2 := ⟨⟨W0_in (tp_6 (List.mem_of_getElem? (i := 215) (by decide +kernel))) rfl, W0_in (tp_5 (List.mem_of_getElem? (i := 149) (by decide +kernel))) rfl, W0_in (tp_5 (List.mem_of_getElem? (i := 150) (by decide +kernel))) rfl, W0_in (tp_1 (List.mem_of_getElem? (i := 7) (by decide +kernel))) rfl, kcw_X5_get⟩, ⟨by decide, by decide, by decide +kernel⟩, by decide, by decide⟩
theorem kcv_X11_245 : gMv RX11 245 zk_X5_known 1 := ⟨⟨W0_in (tp_6 (List.mem_of_getElem? (i := 216) (by decide +kernel))) rfl, W0_in (tp_5 (List.mem_of_getElem? (i := 177) (by decide +kernel))) rfl, W0_in (tp_5 (List.mem_of_getElem? (i := 178) (by decide +kernel))) rfl, W0_in (tp_1 (List.mem_of_getElem? (i := 7) (by decide +kernel))) rfl, kcw_X5_known⟩, ⟨by decide, by decide, by decide +kernel⟩, by decide, by decide⟩
theorem kcv_X11_248 : gMv RX11 248 zk_X5_lineOf 1 := ⟨⟨W0_in (tp_6 (List.mem_of_getElem? (i := 217) (by decide +kernel))) rfl, W0_in (tp_6 (List.mem_of_getElem? (i := 218) (by decide +kernel))) rfl, W0_in (tp_6 (List.mem_of_getElem? (i := 219) (by decide +kernel))) rfl, W0_in (tp_1 (List.mem_of_getElem? (i := 7) (by decide +kernel))) rfl, kcw_X5_lineOf⟩, ⟨by decide, by decide, by decide +kernel⟩, by decide, by decide⟩
theorem kcv_X11_266 : gMv RX11 266 zk_X4_isBefore 2 := ⟨⟨W0_in (tp_7 (List.mem_of_getElem? (i := 2) (by decide +kernel))) rfl, W0_in (tp_6 (List.mem_of_getElem? (i := 134) (by decide +kernel))) rfl, W0_in (tp_6 (List.mem_of_getElem? (i := 135) (by decide +kernel))) rfl, W0_in (tp_1 (List.mem_of_getElem? (i := 9) (by decide +kernel))) rfl, kcw_X4_isBefore⟩, ⟨by decide, by decide, by decide +kernel⟩, by decide, by decide⟩
theorem kcv_X11_270 : gMv RX11 270 zk_X4_laterOfRace 1 := ⟨⟨W0_in (tp_7 (List.mem_of_getElem? (i := 10) (by decide +kernel))) rfl, W0_in (tp_7 (List.mem_of_getElem? (i := 11) (by decide +kernel))) rfl, W0_in (tp_7 (List.mem_of_getElem? (i := 12) (by decide +kernel))) rfl, W0_in (tp_1 (List.mem_of_getElem? (i := 9) (by decide +kernel))) rfl, kcw_X4_laterOfRace⟩, ⟨by decide, by decide, by decide +kernel⟩, by decide, by decide⟩
theorem kcv_X11_273 : gMv RX11 273 zk_X4_earlierOfRace 2 := ⟨⟨W0_in (tp_7 (List.mem_of_getElem? (i := 14) (by decide +kernel))) rfl, W0_in (tp_7 (List.mem_of_getElem? (i := 15) (by decide +kernel))) rfl, W0_in (tp_7 (List.mem_of_getElem? (i := 16) (by decide +kernel))) rfl, W0_in (tp_1 (List.mem_of_getElem? (i := 9) (by decide +kernel))) rfl, kcw_X4_earlierOfRace⟩, ⟨by decide, by decide, by decide +kernel⟩, by decide, by decide⟩
theorem kcv_X11_285 : gMv RX11 285 zk_X3_take 1 := ⟨⟨W0_in (tp_7 (List.mem_of_getElem? (i := 74) (by decide +kernel))) rfl, W0_in (tp_7 (List.mem_of_getElem? (i := 75) (by decide +kernel))) rfl, W0_in (tp_7 (List.mem_of_getElem? (i := 76) (by decide +kernel))) rfl, W0_in (tp_1 (List.mem_of_getElem? (i := 24) (by decide +kernel))) rfl, kcw_X3_take⟩, ⟨by decide, by decide, by decide +kernel⟩, by decide, by decide⟩
theorem kcv_X11_289 : gMv RX11 289 zk_X3_fewestThatFail 1 := ⟨⟨W0_in (tp_7 (List.mem_of_getElem? (i := 88) (by decide +kernel))) rfl, W0_in (tp_7 (List.mem_of_getElem? (i := 89) (by decide +kernel))) rfl, W0_in (tp_7 (List.mem_of_getElem? (i := 90) (by decide +kernel))) rfl, W0_in (tp_1 (List.mem_of_getElem? (i := 24) (by decide +kernel))) rfl, kcw_X3_fewestThatFail⟩, ⟨by decide, by decide, by decide +kernel⟩, by decide, by decide⟩
theorem kcv_X11_302 : gMv RX11 302 zk_X2_explore 3 := ⟨⟨W0_in (tp_7 (List.mem_of_getElem? (i := 238) (by decide +kernel))) rfl, W0_in (tp_7 (List.mem_of_getElem? (i := 239) (by decide +kernel))) rfl, W0_in (tp_8 (List.mem_of_getElem? (i := 0) (by decide +kernel))) rfl, W0_in (tp_1 (List.mem_of_getElem? (i := 26) (by decide +kernel))) rfl, kcw_X2_explore⟩, ⟨by decide, by decide, by decide +kernel⟩, by decide, by decide⟩
theorem kcv_X11_309 : gMv RX11 309 zk_X11_wasTried 1 := ⟨⟨W0_in (tp_5 (List.mem_of_getElem? (i := 30) (by decide +kernel))) rfl, W0_in (tp_5 (List.mem_of_getElem? (i := 32) (by decide +kernel))) rfl, W0_in (List.mem_of_getElem? (i := 54) (by decide +kernel)) rfl, W0_in (tp_1 (List.mem_of_getElem? (i := 1) (by decide +kernel))) rfl, kcw_X11_wasTried⟩, ⟨by decide, by decide, by decide +kernel⟩, by decide, by decide⟩
theorem kcv_X11_328 : gMv RX11 328 zk_X10_valueOf 2 := ⟨⟨W0_in (tp_8 (List.mem_of_getElem? (i := 126) (by decide +kernel))) rfl, W0_in (tp_8 (List.mem_of_getElem? (i := 127) (by decide +kernel))) rfl, W0_in (tp_8 (List.mem_of_getElem? (i := 128) (by decide +kernel))) rfl, W0_in (tp_1 (List.mem_of_getElem? (i := 27) (by decide +kernel))) rfl, kcw_X10_valueOf⟩, ⟨by decide, by decide, by decide +kernel⟩, by decide, by decide⟩
theorem kcs_X11_331 : gMs RX11 331 zk_X11_needFinding 1 := ⟨⟨W0_in (tp_8 (List.mem_of_getElem? (i := 137) (by decide +kernel))) rfl, W0_in (tp_8 (List.mem_of_getElem? (i := 138) (by decide +kernel))) rfl, W0_in (tp_1 (List.mem_of_getElem? (i := 1) (by decide +kernel))) rfl, kcw_X11_needFinding⟩, ⟨by decide, by decide, by decide +kernel⟩, by decide, by decide⟩
theorem kcv_X11_334 : gMv RX11 334 zk_X11_firstState 2 := ⟨⟨W0_in (tp_8 (List.mem_of_getElem? (i := 141) (by decide +kernel))) rfl, W0_in (tp_8 (List.mem_of_getElem? (i := 143) (by decide +kernel))) rfl, W0_in (List.mem_of_getElem? (i := 111) (by decide +kernel)) rfl, W0_in (tp_1 (List.mem_of_getElem? (i := 1) (by decide +kernel))) rfl, kcw_X11_firstState⟩, ⟨by decide, by decide, by decide +kernel⟩, by decide, by decide⟩
theorem kcv_X11_344 : gMv RX11 344 zk_X10_pathTo 2 := ⟨⟨W0_in (tp_8 (List.mem_of_getElem? (i := 153) (by decide +kernel))) rfl, W0_in (tp_8 (List.mem_of_getElem? (i := 154) (by decide +kernel))) rfl, W0_in (tp_8 (List.mem_of_getElem? (i := 155) (by decide +kernel))) rfl, W0_in (tp_1 (List.mem_of_getElem? (i := 27) (by decide +kernel))) rfl, kcw_X10_pathTo⟩, ⟨by decide, by decide, by decide +kernel⟩, by decide, by decide⟩
theorem kcv_X11_351 : gMv RX11 351 zk_X10_shortestRing 0 := ⟨⟨W0_in (tp_8 (List.mem_of_getElem? (i := 171) (by decide +kernel))) rfl, W0_in (tp_8 (List.mem_of_getElem? (i := 172) (by decide +kernel))) rfl, W0_in (tp_8 (List.mem_of_getElem? (i := 173) (by decide +kernel))) rfl, W0_in (tp_1 (List.mem_of_getElem? (i := 27) (by decide +kernel))) rfl, kcw_X10_shortestRing⟩, ⟨by decide, by decide, by decide +kernel⟩, by decide, by decide⟩
theorem kcv_X11_354 : gMv RX11 354 zk_X10_sameOutcomes 2 := ⟨⟨W0_in (tp_5 (List.mem_of_getElem? (i := 34) (by decide +kernel))) rfl, W0_in (tp_5 (List.mem_of_getElem? (i := 35) (by decide +kernel))) rfl, W0_in (tp_5 (List.mem_of_getElem? (i := 36) (by decide +kernel))) rfl, W0_in (tp_1 (List.mem_of_getElem? (i := 27) (by decide +kernel))) rfl, kcw_X10_sameOutcomes⟩, ⟨by decide, by decide, by decide +kernel⟩, by decide, by decide⟩
theorem kcv_X11_361 : gMv RX11 361 zk_X5_reset 1 := ⟨⟨W0_in (tp_5 (List.mem_of_getElem? (i := 126) (by decide +kernel))) rfl, W0_in (tp_5 (List.mem_of_getElem? (i := 127) (by decide +kernel))) rfl, W0_in (tp_5 (List.mem_of_getElem? (i := 128) (by decide +kernel))) rfl, W0_in (tp_1 (List.mem_of_getElem? (i := 7) (by decide +kernel))) rfl, kcw_X5_reset⟩, ⟨by decide, by decide, by decide +kernel⟩, by decide, by decide⟩
theorem kcv_X11_364 : gMv RX11 364 zk_X5_listChoices 0 := ⟨⟨W0_in (tp_5 (List.mem_of_getElem? (i := 180) (by decide +kernel))) rfl, W0_in (tp_5 (List.mem_of_getElem? (i := 181) (by decide +kernel))) rfl, W0_in (tp_5 (List.mem_of_getElem? (i := 182) (by decide +kernel))) rfl, W0_in (tp_1 (List.mem_of_getElem? (i := 7) (by decide +kernel))) rfl, kcw_X5_listChoices⟩, ⟨by decide, by decide, by decide +kernel⟩, by decide, by decide⟩
theorem kcv_X11_367 : gMv RX11 367 zk_X4_clear 0 := ⟨⟨W0_in (tp_5 (List.mem_of_getElem? (i := 220) (by decide +kernel))) rfl, W0_in (tp_5 (List.mem_of_getElem? (i := 221) (by decide +kernel))) rfl, W0_in (tp_5 (List.mem_of_getElem? (i := 222) (by decide +kernel))) rfl, W0_in (tp_1 (List.mem_of_getElem? (i := 9) (by decide +kernel))) rfl, kcw_X4_clear⟩, ⟨by decide, by decide, by decide +kernel⟩, by decide, by decide⟩
theorem kcv_X11_370 : gMv RX11 370 zk_X5_perform 1 := ⟨⟨W0_in (tp_6 (List.mem_of_getElem? (i := 30) (by decide +kernel))) rfl, W0_in (tp_6 (List.mem_of_getElem? (i := 31) (by decide +kernel))) rfl, W0_in (tp_6 (List.mem_of_getElem? (i := 32) (by decide +kernel))) rfl, W0_in (tp_1 (List.mem_of_getElem? (i := 7) (by decide +kernel))) rfl, kcw_X5_perform⟩, ⟨by decide, by decide, by decide +kernel⟩, by decide, by decide⟩
theorem kcv_X11_377 : gMv RX11 377 zk_X4_note 2 := ⟨⟨W0_in (tp_6 (List.mem_of_getElem? (i := 98) (by decide +kernel))) rfl, W0_in (tp_6 (List.mem_of_getElem? (i := 99) (by decide +kernel))) rfl, W0_in (tp_6 (List.mem_of_getElem? (i := 100) (by decide +kernel))) rfl, W0_in (tp_1 (List.mem_of_getElem? (i := 9) (by decide +kernel))) rfl, kcw_X4_note⟩, ⟨by decide, by decide, by decide +kernel⟩, by decide, by decide⟩
theorem kkc_X11_197 : Cond.constant RX11 197 (1103515245) ∈ W0 := W0_in (tp_6 (List.mem_of_getElem? (i := 145) (by decide +kernel))) rfl
theorem kkc_X3_84 : Cond.constant RX3 84 (1000000) ∈ W0 := W0_in (tp_7 (List.mem_of_getElem? (i := 83) (by decide +kernel))) rfl
theorem kkc_X5_261 : Cond.constant RX5 261 (1000000) ∈ W0 := W0_in (tp_5 (List.mem_of_getElem? (i := 143) (by decide +kernel))) rfl
theorem kkc_X5_274 : Cond.constant RX5 274 (16777619) ∈ W0 := W0_in (tp_8 (List.mem_of_getElem? (i := 25) (by decide +kernel))) rfl
