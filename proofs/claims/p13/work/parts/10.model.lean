def msl : List Bool := [false, true, false, false, true, true, true, true, false, false, false, false, false, false, true, true, true, true, true, true, false, false, false, false, false, false, false, false, false, true, true, true, true, true, true, true, true, true, true, true, true, false, false, false, true, true, true, false, false, false, true, true, false, true, true, true, true, true, true, true, true, true, true, true, true, true, false, false, false, true, true, true, true, true, true, true, true, true, true, true, true, true, false, true, false, true, true, true, false, false, false, false, false, false, false, true, false, true, true, true, true, true, true, true, true, true, true, false, true, true, true, true, true, true, true, true, false, true, true, true, true, true, true, true, true, true, true, true, true, true, true, true, true, true, true, true, false, true, true]
def mKa : List (FieldType × Nat) := [(.int, 0), (.byte, 3000), (.int, 0), (.int, 0), (.int, 710), (.int, 710), (.int, 710), (.int, 710), (.int, 0), (.int, 0), (.int, 0), (.int, 0), (.int, 0), (.int, 0), (.int, 3000), (.int, 3000), (.int, 3000), (.int, 3000), (.int, 3000), (.int, 3000), (.int, 0), (.int, 0), (.int, 0), (.int, 0), (.int, 0), (.int, 0), (.int, 0), (.int, 0), (.int, 0), (.int, 40), (.int, 40), (.int, 40), (.int, 40), (.boolean, 40), (.int, 40), (.int, 24), (.boolean, 24), (.boolean, 6), (.int, 6), (.int, 4), (.int, 4), (.int, 0), (.int, 0), (.int, 0), (.int, 40), (.int, 40), (.int, 40), (.int, 0), (.int, 0), (.int, 0), (.int, 6000), (.int, 6000), (.int, 0), (.int, 1500), (.int, 1500), (.int, 1500), (.int, 1500), (.int, 1500), (.int, 1500), (.int, 1500), (.int, 1500), (.int, 1500), (.int, 1500), (.int, 6), (.int, 4), (.int, 4), (.int, 0), (.int, 0), (.int, 0), (.int, 24), (.int, 6), (.int, 6), (.int, 6), (.int, 6), (.int, 6), (.int, 48), (.int, 6), (.int, 6), (.int, 6), (.int, 6), (.int, 60), (.int, 60), (.int, 0), (.int, 60), (.int, 0), (.int, 200), (.int, 200), (.int, 200), (.int, 0), (.int, 0), (.int, 0), (.int, 0), (.int, 0), (.int, 0), (.int, 0), (.int, 400), (.int, 0), (.int, 400), (.int, 400), (.int, 400), (.int, 400), (.int, 400), (.boolean, 400), (.int, 400), (.long, 2800), (.int, 6), (.int, 6), (.int, 0), (.int, 14), (.int, 14), (.int, 14), (.int, 14), (.int, 14), (.int, 14), (.int, 14), (.int, 14), (.int, 0), (.int, 6), (.boolean, 2), (.int, 2), (.boolean, 2), (.int, 2), (.int, 2), (.int, 2), (.int, 2), (.int, 22), (.int, 48), (.boolean, 72), (.int, 144000), (.int, 6000), (.int, 6000), (.int, 6000), (.int, 720480), (.int, 3001), (.int, 4096), (.int, 240), (.int, 0), (.int, 400), (.int, 6)]
def mK (c : Nat) : gk := if c = 0 then .inl (12, msl) else .inr (mKa.getD (c - 1) (.int, 0))
def mR (c k : Nat) : Option Nat := if c = 0 then (if msl.getD k false = true then some (k + 1) else none) else none
def mL : List Nat := [0, 2, 5, 6, 7, 8, 15, 16, 17, 18, 19, 20, 30, 31, 32, 33, 34, 35, 36, 37, 38, 39, 40, 41, 45, 46, 47, 51, 52, 54, 55, 56, 57, 58, 59, 60, 61, 62, 63, 64, 65, 66, 70, 71, 72, 73, 74, 75, 76, 77, 78, 79, 80, 81, 82, 84, 86, 87, 88, 96, 98, 99, 100, 101, 102, 103, 104, 105, 106, 107, 109, 110, 111, 112, 113, 114, 115, 116, 118, 119, 120, 121, 122, 123, 124, 125, 126, 127, 128, 129, 130, 131, 132, 133, 134, 135, 136, 138, 139]
theorem ml_0 : 0 ∈ mL := by decide
theorem ml_2 : 2 ∈ mL := by decide
theorem mk_2 : mK 2 = .inr (.byte, 3000) := rfl
theorem ml_5 : 5 ∈ mL := by decide
theorem mk_5 : mK 5 = .inr (.int, 710) := rfl
theorem ml_6 : 6 ∈ mL := by decide
theorem mk_6 : mK 6 = .inr (.int, 710) := rfl
theorem ml_7 : 7 ∈ mL := by decide
theorem mk_7 : mK 7 = .inr (.int, 710) := rfl
theorem ml_8 : 8 ∈ mL := by decide
theorem mk_8 : mK 8 = .inr (.int, 710) := rfl
theorem ml_15 : 15 ∈ mL := by decide
theorem mk_15 : mK 15 = .inr (.int, 3000) := rfl
theorem ml_16 : 16 ∈ mL := by decide
theorem mk_16 : mK 16 = .inr (.int, 3000) := rfl
theorem ml_17 : 17 ∈ mL := by decide
theorem mk_17 : mK 17 = .inr (.int, 3000) := rfl
theorem ml_18 : 18 ∈ mL := by decide
theorem mk_18 : mK 18 = .inr (.int, 3000) := rfl
theorem ml_19 : 19 ∈ mL := by decide
theorem mk_19 : mK 19 = .inr (.int, 3000) := rfl
theorem ml_20 : 20 ∈ mL := by decide
theorem mk_20 : mK 20 = .inr (.int, 3000) := rfl
theorem ml_30 : 30 ∈ mL := by decide
theorem mk_30 : mK 30 = .inr (.int, 40) := rfl
theorem ml_31 : 31 ∈ mL := by decide
theorem mk_31 : mK 31 = .inr (.int, 40) := rfl
theorem ml_32 : 32 ∈ mL := by decide
theorem mk_32 : mK 32 = .inr (.int, 40) := rfl
theorem ml_33 : 33 ∈ mL := by decide
theorem mk_33 : mK 33 = .inr (.int, 40) := rfl
theorem ml_34 : 34 ∈ mL := by decide
theorem mk_34 : mK 34 = .inr (.boolean, 40) := rfl
theorem ml_35 : 35 ∈ mL := by decide
theorem mk_35 : mK 35 = .inr (.int, 40) := rfl
theorem ml_36 : 36 ∈ mL := by decide
theorem mk_36 : mK 36 = .inr (.int, 24) := rfl
theorem ml_37 : 37 ∈ mL := by decide
theorem mk_37 : mK 37 = .inr (.boolean, 24) := rfl
theorem ml_38 : 38 ∈ mL := by decide
theorem mk_38 : mK 38 = .inr (.boolean, 6) := rfl
theorem ml_39 : 39 ∈ mL := by decide
theorem mk_39 : mK 39 = .inr (.int, 6) := rfl
theorem ml_40 : 40 ∈ mL := by decide
theorem mk_40 : mK 40 = .inr (.int, 4) := rfl
theorem ml_41 : 41 ∈ mL := by decide
theorem mk_41 : mK 41 = .inr (.int, 4) := rfl
theorem ml_45 : 45 ∈ mL := by decide
theorem mk_45 : mK 45 = .inr (.int, 40) := rfl
theorem ml_46 : 46 ∈ mL := by decide
theorem mk_46 : mK 46 = .inr (.int, 40) := rfl
theorem ml_47 : 47 ∈ mL := by decide
theorem mk_47 : mK 47 = .inr (.int, 40) := rfl
theorem ml_51 : 51 ∈ mL := by decide
theorem mk_51 : mK 51 = .inr (.int, 6000) := rfl
theorem ml_52 : 52 ∈ mL := by decide
theorem mk_52 : mK 52 = .inr (.int, 6000) := rfl
theorem ml_54 : 54 ∈ mL := by decide
theorem mk_54 : mK 54 = .inr (.int, 1500) := rfl
theorem ml_55 : 55 ∈ mL := by decide
theorem mk_55 : mK 55 = .inr (.int, 1500) := rfl
theorem ml_56 : 56 ∈ mL := by decide
theorem mk_56 : mK 56 = .inr (.int, 1500) := rfl
theorem ml_57 : 57 ∈ mL := by decide
theorem mk_57 : mK 57 = .inr (.int, 1500) := rfl
theorem ml_58 : 58 ∈ mL := by decide
theorem mk_58 : mK 58 = .inr (.int, 1500) := rfl
theorem ml_59 : 59 ∈ mL := by decide
theorem mk_59 : mK 59 = .inr (.int, 1500) := rfl
theorem ml_60 : 60 ∈ mL := by decide
theorem mk_60 : mK 60 = .inr (.int, 1500) := rfl
theorem ml_61 : 61 ∈ mL := by decide
theorem mk_61 : mK 61 = .inr (.int, 1500) := rfl
theorem ml_62 : 62 ∈ mL := by decide
theorem mk_62 : mK 62 = .inr (.int, 1500) := rfl
theorem ml_63 : 63 ∈ mL := by decide
theorem mk_63 : mK 63 = .inr (.int, 1500) := rfl
theorem ml_64 : 64 ∈ mL := by decide
theorem mk_64 : mK 64 = .inr (.int, 6) := rfl
theorem ml_65 : 65 ∈ mL := by decide
theorem mk_65 : mK 65 = .inr (.int, 4) := rfl
theorem ml_66 : 66 ∈ mL := by decide
theorem mk_66 : mK 66 = .inr (.int, 4) := rfl
theorem ml_70 : 70 ∈ mL := by decide
theorem mk_70 : mK 70 = .inr (.int, 24) := rfl
theorem ml_71 : 71 ∈ mL := by decide
theorem mk_71 : mK 71 = .inr (.int, 6) := rfl
theorem ml_72 : 72 ∈ mL := by decide
theorem mk_72 : mK 72 = .inr (.int, 6) := rfl
theorem ml_73 : 73 ∈ mL := by decide
theorem mk_73 : mK 73 = .inr (.int, 6) := rfl
theorem ml_74 : 74 ∈ mL := by decide
theorem mk_74 : mK 74 = .inr (.int, 6) := rfl
theorem ml_75 : 75 ∈ mL := by decide
theorem mk_75 : mK 75 = .inr (.int, 6) := rfl
theorem ml_76 : 76 ∈ mL := by decide
theorem mk_76 : mK 76 = .inr (.int, 48) := rfl
theorem ml_77 : 77 ∈ mL := by decide
theorem mk_77 : mK 77 = .inr (.int, 6) := rfl
theorem ml_78 : 78 ∈ mL := by decide
theorem mk_78 : mK 78 = .inr (.int, 6) := rfl
theorem ml_79 : 79 ∈ mL := by decide
theorem mk_79 : mK 79 = .inr (.int, 6) := rfl
theorem ml_80 : 80 ∈ mL := by decide
theorem mk_80 : mK 80 = .inr (.int, 6) := rfl
theorem ml_81 : 81 ∈ mL := by decide
theorem mk_81 : mK 81 = .inr (.int, 60) := rfl
theorem ml_82 : 82 ∈ mL := by decide
theorem mk_82 : mK 82 = .inr (.int, 60) := rfl
theorem ml_84 : 84 ∈ mL := by decide
theorem mk_84 : mK 84 = .inr (.int, 60) := rfl
theorem ml_86 : 86 ∈ mL := by decide
theorem mk_86 : mK 86 = .inr (.int, 200) := rfl
theorem ml_87 : 87 ∈ mL := by decide
theorem mk_87 : mK 87 = .inr (.int, 200) := rfl
theorem ml_88 : 88 ∈ mL := by decide
theorem mk_88 : mK 88 = .inr (.int, 200) := rfl
theorem ml_96 : 96 ∈ mL := by decide
theorem mk_96 : mK 96 = .inr (.int, 400) := rfl
theorem ml_98 : 98 ∈ mL := by decide
theorem mk_98 : mK 98 = .inr (.int, 400) := rfl
theorem ml_99 : 99 ∈ mL := by decide
theorem mk_99 : mK 99 = .inr (.int, 400) := rfl
theorem ml_100 : 100 ∈ mL := by decide
theorem mk_100 : mK 100 = .inr (.int, 400) := rfl
theorem ml_101 : 101 ∈ mL := by decide
theorem mk_101 : mK 101 = .inr (.int, 400) := rfl
theorem ml_102 : 102 ∈ mL := by decide
theorem mk_102 : mK 102 = .inr (.int, 400) := rfl
theorem ml_103 : 103 ∈ mL := by decide
theorem mk_103 : mK 103 = .inr (.boolean, 400) := rfl
theorem ml_104 : 104 ∈ mL := by decide
theorem mk_104 : mK 104 = .inr (.int, 400) := rfl
theorem ml_105 : 105 ∈ mL := by decide
theorem mk_105 : mK 105 = .inr (.long, 2800) := rfl
theorem ml_106 : 106 ∈ mL := by decide
theorem mk_106 : mK 106 = .inr (.int, 6) := rfl
theorem ml_107 : 107 ∈ mL := by decide
theorem mk_107 : mK 107 = .inr (.int, 6) := rfl
theorem ml_109 : 109 ∈ mL := by decide
theorem mk_109 : mK 109 = .inr (.int, 14) := rfl
theorem ml_110 : 110 ∈ mL := by decide
theorem mk_110 : mK 110 = .inr (.int, 14) := rfl
theorem ml_111 : 111 ∈ mL := by decide
theorem mk_111 : mK 111 = .inr (.int, 14) := rfl
theorem ml_112 : 112 ∈ mL := by decide
theorem mk_112 : mK 112 = .inr (.int, 14) := rfl
theorem ml_113 : 113 ∈ mL := by decide
theorem mk_113 : mK 113 = .inr (.int, 14) := rfl
theorem ml_114 : 114 ∈ mL := by decide
theorem mk_114 : mK 114 = .inr (.int, 14) := rfl
theorem ml_115 : 115 ∈ mL := by decide
theorem mk_115 : mK 115 = .inr (.int, 14) := rfl
theorem ml_116 : 116 ∈ mL := by decide
theorem mk_116 : mK 116 = .inr (.int, 14) := rfl
theorem ml_118 : 118 ∈ mL := by decide
theorem mk_118 : mK 118 = .inr (.int, 6) := rfl
theorem ml_119 : 119 ∈ mL := by decide
theorem mk_119 : mK 119 = .inr (.boolean, 2) := rfl
theorem ml_120 : 120 ∈ mL := by decide
theorem mk_120 : mK 120 = .inr (.int, 2) := rfl
theorem ml_121 : 121 ∈ mL := by decide
theorem mk_121 : mK 121 = .inr (.boolean, 2) := rfl
theorem ml_122 : 122 ∈ mL := by decide
theorem mk_122 : mK 122 = .inr (.int, 2) := rfl
theorem ml_123 : 123 ∈ mL := by decide
theorem mk_123 : mK 123 = .inr (.int, 2) := rfl
theorem ml_124 : 124 ∈ mL := by decide
theorem mk_124 : mK 124 = .inr (.int, 2) := rfl
theorem ml_125 : 125 ∈ mL := by decide
theorem mk_125 : mK 125 = .inr (.int, 2) := rfl
theorem ml_126 : 126 ∈ mL := by decide
theorem mk_126 : mK 126 = .inr (.int, 22) := rfl
theorem ml_127 : 127 ∈ mL := by decide
theorem mk_127 : mK 127 = .inr (.int, 48) := rfl
theorem ml_128 : 128 ∈ mL := by decide
theorem mk_128 : mK 128 = .inr (.boolean, 72) := rfl
theorem ml_129 : 129 ∈ mL := by decide
theorem mk_129 : mK 129 = .inr (.int, 144000) := rfl
theorem ml_130 : 130 ∈ mL := by decide
theorem mk_130 : mK 130 = .inr (.int, 6000) := rfl
theorem ml_131 : 131 ∈ mL := by decide
theorem mk_131 : mK 131 = .inr (.int, 6000) := rfl
theorem ml_132 : 132 ∈ mL := by decide
theorem mk_132 : mK 132 = .inr (.int, 6000) := rfl
theorem ml_133 : 133 ∈ mL := by decide
theorem mk_133 : mK 133 = .inr (.int, 720480) := rfl
theorem ml_134 : 134 ∈ mL := by decide
theorem mk_134 : mK 134 = .inr (.int, 3001) := rfl
theorem ml_135 : 135 ∈ mL := by decide
theorem mk_135 : mK 135 = .inr (.int, 4096) := rfl
theorem ml_136 : 136 ∈ mL := by decide
theorem mk_136 : mK 136 = .inr (.int, 240) := rfl
theorem ml_138 : 138 ∈ mL := by decide
theorem mk_138 : mK 138 = .inr (.int, 400) := rfl
theorem ml_139 : 139 ∈ mL := by decide
theorem mk_139 : mK 139 = .inr (.int, 6) := rfl
theorem mk_0 : mK 0 = .inl (12, msl) := rfl
abbrev z_thrown : gy := (yX12_thrown, cX12_thrown, 1, (some .int), [])
abbrev z_in : gy := (yX12_in, cX12_in, 3, (some .boolean), [])
abbrev z_refuses : gy := (yX12_refuses, cX12_refuses, 3, (some .boolean), [])
abbrev z_byteAt : gy := (yX12_byteAt, cX12_byteAt, 2, (some .int), [])
abbrev z_isLetter : gy := (yX12_isLetter, cX12_isLetter, 1, (some .boolean), [])
abbrev z_isDigit : gy := (yX12_isDigit, cX12_isDigit, 1, (some .boolean), [])
abbrev z_wordOf : gy := (yX12_wordOf, cX12_wordOf, 9, (some .int), [])
abbrev z_signOf : gy := (yX12_signOf, cX12_signOf, 3, (some .int), [])
abbrev z_put : gy := (yX12_put, cX12_put, 5, none, [])
abbrev z_readTokens : gy := (yX12_readTokens, cX12_readTokens, 7, none, [])
abbrev z_lineOf : gy := (yX12_lineOf, cX12_lineOf, 4, (some .int), [])
abbrev z_isSameName : gy := (yX12_isSameName, cX12_isSameName, 5, (some .boolean), [])
abbrev z_node : gy := (yX12_node, cX12_node, 6, (some .int), [])
abbrev z_fault : gy := (yX12_fault, cX12_fault, 3, none, [])
abbrev z_here : gy := (yX12_here, cX12_here, 1, (some .int), [])
abbrev z_step : gy := (yX12_step, cX12_step, 1, none, [])
abbrev z_pass : gy := (yX12_pass, cX12_pass, 2, none, [])
abbrev z_take : gy := (yX12_take, cX12_take, 2, (some .boolean), [])
abbrev z_passName : gy := (yX12_passName, cX12_passName, 2, (some .int), [])
abbrev z_deeper : gy := (yX12_deeper, cX12_deeper, 1, (some .boolean), [])
abbrev z_beginsE : gy := (yX12_beginsE, cX12_beginsE, 3, (some .boolean), [])
abbrev z_strength : gy := (yX12_strength, cX12_strength, 1, (some .int), [])
abbrev z_readE : gy := (yX12_readE, cX12_readE, 7, (some .int), [])
abbrev z_readOperand : gy := (yX12_readOperand, cX12_readOperand, 5, (some .int), [])
abbrev z_readPlace : gy := (yX12_readPlace, cX12_readPlace, 3, (some .int), [])
abbrev z_readR : gy := (yX12_readR, cX12_readR, 6, (some .int), [])
abbrev z_beginsS : gy := (yX12_beginsS, cX12_beginsS, 2, (some .boolean), [])
abbrev z_readBlock : gy := (yX12_readBlock, cX12_readBlock, 5, (some .int), [])
abbrev z_readS : gy := (yX12_readS, cX12_readS, 2, (some .int), [])
abbrev z_readOneS : gy := (yX12_readOneS, cX12_readOneS, 13, (some .int), [])
abbrev z_readIf : gy := (yX12_readIf, cX12_readIf, 5, (some .int), [])
abbrev z_tell : gy := (yX12_tell, cX12_tell, 7, none, [])
abbrev z_readCell : gy := (yX12_readCell, cX12_readCell, 8, none, [])
abbrev z_readDef : gy := (yX12_readDef, cX12_readDef, 6, none, [])
abbrev z_wrongAt : gy := (yX12_wrongAt, cX12_wrongAt, 3, none, [])
abbrev z_toldOf : gy := (yX12_toldOf, cX12_toldOf, 3, (some .int), [])
abbrev z_meant : gy := (yX12_meant, cX12_meant, 4, (some .int), [])
abbrev z_slotOf : gy := (yX12_slotOf, cX12_slotOf, 3, (some .int), [])
abbrev z_knownMask : gy := (yX12_knownMask, cX12_knownMask, 3, (some .int), [])
abbrev z_lay : gy := (yX12_lay, cX12_lay, 3, none, [])
abbrev z_layE : gy := (yX12_layE, cX12_layE, 9, none, [])
abbrev z_workOf : gy := (yX12_workOf, cX12_workOf, 4, (some .int), [])
abbrev z_layStep : gy := (yX12_layStep, cX12_layStep, 3, (some .int), [])
abbrev z_layAct : gy := (yX12_layAct, cX12_layAct, 5, (some .int), [])
abbrev z_cellOf : gy := (yX12_cellOf, cX12_cellOf, 4, (some .int), [])
abbrev z_numberOf : gy := (yX12_numberOf, cX12_numberOf, 4, (some .int), [])
abbrev z_isCellAlone : gy := (yX12_isCellAlone, cX12_isCellAlone, 2, (some .boolean), [])
abbrev z_layR : gy := (yX12_layR, cX12_layR, 11, none, [])
abbrev z_layBlock : gy := (yX12_layBlock, cX12_layBlock, 5, none, [])
abbrev z_layS : gy := (yX12_layS, cX12_layS, 17, none, [])
abbrev z_layWord : gy := (yX12_layWord, cX12_layWord, 7, none, [])
abbrev z_laySet : gy := (yX12_laySet, cX12_laySet, 7, none, [])
abbrev z_isCellName : gy := (yX12_isCellName, cX12_isCellName, 3, (some .boolean), [])
abbrev z_judge : gy := (yX12_judge, cX12_judge, 3, none, [])
abbrev z_feed : gy := (yX12_feed, cX12_feed, 5, (some .int), [])
abbrev z_wipe : gy := (yX12_wipe, cX12_wipe, 2, (some .int), [])
abbrev z_forget : gy := (yX12_forget, cX12_forget, 1, none, [])
abbrev z_compile : gy := (yX12_compile, cX12_compile, 1, (some .int), [])
abbrev z_fault_ : gy := (yX12_fault_, cX12_fault_, 2, (some .int), [])
abbrev z_count : gy := (yX12_count, cX12_count, 2, (some .int), [])
abbrev z_worked : gy := (yX12_worked, cX12_worked, 6, (some .int), [])
abbrev z_one : gy := (yX12_one, cX12_one, 1, (some .int), [])
abbrev z_reckon : gy := (yX12_reckon, cX12_reckon, 4, (some .int), [])
abbrev z_failThread : gy := (yX12_failThread, cX12_failThread, 3, none, [])
abbrev z_clean : gy := (yX12_clean, cX12_clean, 4, none, [])
abbrev z_own : gy := (yX12_own, cX12_own, 6, none, [])
abbrev z_setFirst : gy := (yX12_setFirst, cX12_setFirst, 3, none, [])
abbrev z_isAtomic : gy := (yX12_isAtomic, cX12_isAtomic, 2, (some .boolean), [])
abbrev z_isAccess : gy := (yX12_isAccess, cX12_isAccess, 2, (some .boolean), [])
abbrev z_sortOf : gy := (yX12_sortOf, cX12_sortOf, 2, (some .int), [])
abbrev z_hasAct : gy := (yX12_hasAct, cX12_hasAct, 8, (some .boolean), [])
abbrev z_choose : gy := (yX12_choose, cX12_choose, 4, none, [])
abbrev z_findChoices : gy := (yX12_findChoices, cX12_findChoices, 5, none, [])
abbrev z_see : gy := (yX12_see, cX12_see, 5, (some .int), [])
abbrev z_lookAt : gy := (yX12_lookAt, cX12_lookAt, 5, none, [])
abbrev z_doAct : gy := (yX12_doAct, cX12_doAct, 10, none, [])
abbrev z_doLate : gy := (yX12_doLate, cX12_doLate, 4, none, [])
abbrev z_isStuck : gy := (yX12_isStuck, cX12_isStuck, 3, (some .boolean), [])
abbrev z_startRun : gy := (yX12_startRun, cX12_startRun, 3, none, [])
abbrev z_isSooner : gy := (yX12_isSooner, cX12_isSooner, 3, (some .boolean), [])
abbrev z_after : gy := (yX12_after, cX12_after, 4, none, [])
abbrev z_order : gy := (yX12_order, cX12_order, 8, none, [])
abbrev z_doChoice : gy := (yX12_doChoice, cX12_doChoice, 9, none, [])
abbrev z_mayRace : gy := (yX12_mayRace, cX12_mayRace, 3, (some .boolean), [])
abbrev z_isRace : gy := (yX12_isRace, cX12_isRace, 3, (some .boolean), [])
abbrev z_noRun : gy := (yX12_noRun, cX12_noRun, 1, (some .boolean), [])
abbrev z_begin : gy := (yX12_begin, cX12_begin, 2, (some .int), [])
abbrev z_choices : gy := (yX12_choices, cX12_choices, 1, (some .int), [])
abbrev z_choice : gy := (yX12_choice, cX12_choice, 5, (some .int), [])
abbrev z_go : gy := (yX12_go, cX12_go, 2, (some .int), [])
abbrev z_draw : gy := (yX12_draw, cX12_draw, 5, (some .int), [])
abbrev z_again : gy := (yX12_again, cX12_again, 3, (some .int), [])
abbrev z_run : gy := (yX12_run, cX12_run, 5, (some .int), [])
abbrev z_cell : gy := (yX12_cell, cX12_cell, 2, (some .int), [])
abbrev z_seen : gy := (yX12_seen, cX12_seen, 3, (some .int), [])
abbrev z_lock : gy := (yX12_lock, cX12_lock, 5, (some .int), [])
abbrev z_knownOf : gy := (yX12_knownOf, cX12_knownOf, 2, (some .int), [])
abbrev z_ones : gy := (yX12_ones, cX12_ones, 3, (some .int), [])
abbrev z_thread : gy := (yX12_thread, cX12_thread, 3, (some .int), [])
abbrev z_local : gy := (yX12_local, cX12_local, 6, (some .int), [])
abbrev z_act : gy := (yX12_act, cX12_act, 3, (some .int), [])
abbrev z_before : gy := (yX12_before, cX12_before, 3, (some .boolean), [])
abbrev z_race : gy := (yX12_race, cX12_race, 6, (some .int), [])
abbrev z_takeCalls : gy := (yX12_takeCalls, cX12_takeCalls, 5, (some .int), [])
abbrev z_answer : gy := (yX12_answer, cX12_answer, 7, (some .int), [])
abbrev z_fits : gy := (yX12_fits, cX12_fits, 7, (some .boolean), [])
abbrev z_mayCome : gy := (yX12_mayCome, cX12_mayCome, 4, (some .boolean), [])
abbrev z_isLinear : gy := (yX12_isLinear, cX12_isLinear, 7, (some .boolean), [])
abbrev z_linear : gy := (yX12_linear, cX12_linear, 5, (some .int), [])
abbrev z_pack : gy := (yX12_pack, cX12_pack, 6, none, [])
abbrev z_unpack : gy := (yX12_unpack, cX12_unpack, 6, none, [])
abbrev z_seek : gy := (yX12_seek, cX12_seek, 7, (some .int), [])
abbrev z_find : gy := (yX12_find, cX12_find, 4, none, [])
abbrev z_locksOf : gy := (yX12_locksOf, cX12_locksOf, 4, (some .int), [])
abbrev z_addOutcome : gy := (yX12_addOutcome, cX12_addOutcome, 5, none, [])
abbrev z_look : gy := (yX12_look, cX12_look, 12, none, [])
abbrev z_isLess : gy := (yX12_isLess, cX12_isLess, 4, (some .boolean), [])
abbrev z_sortOutcomes : gy := (yX12_sortOutcomes, cX12_sortOutcomes, 7, none, [])
abbrev z_forgetTrying : gy := (yX12_forgetTrying, cX12_forgetTrying, 3, none, [])
abbrev z_tryAll : gy := (yX12_tryAll, cX12_tryAll, 7, none, [])
abbrev z_attempt : gy := (yX12_attempt, cX12_attempt, 4, (some .int), [])
abbrev z_tried : gy := (yX12_tried, cX12_tried, 3, (some .int), [])
abbrev z_outcome : gy := (yX12_outcome, cX12_outcome, 4, (some .int), [])
abbrev z_finding : gy := (yX12_finding, cX12_finding, 4, (some .int), [])
abbrev z_show : gy := (yX12_show, cX12_show, 6, (some .int), [])
abbrev z_common : gy := (yX12_common, cX12_common, 3, (some .int), [])
abbrev z_ring : gy := (yX12_ring, cX12_ring, 8, (some .int), [])
abbrev z_alike : gy := (yX12_alike, cX12_alike, 2, (some .int), [])
theorem tw0_X12 : ∀ w ∈ wsX120, w ∈ W0 := fun w h => W0_in (tw_X12 w h) (by obtain ⟨k, hk, e⟩ := List.mem_map.mp h; rw [← e]; unfold u_lay; split <;> rfl)
theorem fl_7 : gFl RX12 7 12 1 (.array .byte) false 139 := ⟨RX12, TX12, rfl, tw0_X12, by decide, W0_in (tp_8 (List.mem_of_getElem? (i := 188) (by decide +kernel))) rfl, rfl, rfl, ⟨tyX12, tyX12_ok⟩, nmX12⟩
theorem fl_13 : gFl RX12 13 12 4 (.array .int) false 139 := ⟨RX12, TX12, rfl, tw0_X12, by decide, W0_in (tp_8 (List.mem_of_getElem? (i := 191) (by decide +kernel))) rfl, rfl, rfl, ⟨tyX12, tyX12_ok⟩, nmX12⟩
theorem fl_17 : gFl RX12 17 12 5 (.array .int) false 139 := ⟨RX12, TX12, rfl, tw0_X12, by decide, W0_in (tp_8 (List.mem_of_getElem? (i := 192) (by decide +kernel))) rfl, rfl, rfl, ⟨tyX12, tyX12_ok⟩, nmX12⟩
theorem fl_20 : gFl RX12 20 12 6 (.array .int) false 139 := ⟨RX12, TX12, rfl, tw0_X12, by decide, W0_in (tp_8 (List.mem_of_getElem? (i := 193) (by decide +kernel))) rfl, rfl, rfl, ⟨tyX12, tyX12_ok⟩, nmX12⟩
theorem fl_23 : gFl RX12 23 12 7 (.array .int) false 139 := ⟨RX12, TX12, rfl, tw0_X12, by decide, W0_in (tp_8 (List.mem_of_getElem? (i := 194) (by decide +kernel))) rfl, rfl, rfl, ⟨tyX12, tyX12_ok⟩, nmX12⟩
theorem fl_26 : gFl RX12 26 12 11 (.int) false 139 := ⟨RX12, TX12, rfl, tw0_X12, by decide, W0_in (tp_8 (List.mem_of_getElem? (i := 198) (by decide +kernel))) rfl, rfl, rfl, ⟨tyX12, tyX12_ok⟩, nmX12⟩
theorem fl_30 : gFl RX12 30 12 12 (.int) false 139 := ⟨RX12, TX12, rfl, tw0_X12, by decide, W0_in (tp_8 (List.mem_of_getElem? (i := 199) (by decide +kernel))) rfl, rfl, rfl, ⟨tyX12, tyX12_ok⟩, nmX12⟩
theorem fl_33 : gFl RX12 33 12 14 (.array .int) false 139 := ⟨RX12, TX12, rfl, tw0_X12, by decide, W0_in (tp_8 (List.mem_of_getElem? (i := 201) (by decide +kernel))) rfl, rfl, rfl, ⟨tyX12, tyX12_ok⟩, nmX12⟩
theorem fl_36 : gFl RX12 36 12 15 (.array .int) false 139 := ⟨RX12, TX12, rfl, tw0_X12, by decide, W0_in (tp_8 (List.mem_of_getElem? (i := 202) (by decide +kernel))) rfl, rfl, rfl, ⟨tyX12, tyX12_ok⟩, nmX12⟩
theorem fl_39 : gFl RX12 39 12 16 (.array .int) false 139 := ⟨RX12, TX12, rfl, tw0_X12, by decide, W0_in (tp_8 (List.mem_of_getElem? (i := 203) (by decide +kernel))) rfl, rfl, rfl, ⟨tyX12, tyX12_ok⟩, nmX12⟩
theorem fl_42 : gFl RX12 42 12 17 (.array .int) false 139 := ⟨RX12, TX12, rfl, tw0_X12, by decide, W0_in (tp_8 (List.mem_of_getElem? (i := 204) (by decide +kernel))) rfl, rfl, rfl, ⟨tyX12, tyX12_ok⟩, nmX12⟩
theorem fl_45 : gFl RX12 45 12 18 (.array .int) false 139 := ⟨RX12, TX12, rfl, tw0_X12, by decide, W0_in (tp_8 (List.mem_of_getElem? (i := 205) (by decide +kernel))) rfl, rfl, rfl, ⟨tyX12, tyX12_ok⟩, nmX12⟩
theorem fl_48 : gFl RX12 48 12 19 (.array .int) false 139 := ⟨RX12, TX12, rfl, tw0_X12, by decide, W0_in (tp_8 (List.mem_of_getElem? (i := 206) (by decide +kernel))) rfl, rfl, rfl, ⟨tyX12, tyX12_ok⟩, nmX12⟩
theorem fl_51 : gFl RX12 51 12 29 (.array .int) false 139 := ⟨RX12, TX12, rfl, tw0_X12, by decide, W0_in (tp_8 (List.mem_of_getElem? (i := 215) (by decide +kernel))) rfl, rfl, rfl, ⟨tyX12, tyX12_ok⟩, nmX12⟩
theorem fl_54 : gFl RX12 54 12 30 (.array .int) false 139 := ⟨RX12, TX12, rfl, tw0_X12, by decide, W0_in (tp_8 (List.mem_of_getElem? (i := 216) (by decide +kernel))) rfl, rfl, rfl, ⟨tyX12, tyX12_ok⟩, nmX12⟩
theorem fl_57 : gFl RX12 57 12 31 (.array .int) false 139 := ⟨RX12, TX12, rfl, tw0_X12, by decide, W0_in (tp_8 (List.mem_of_getElem? (i := 217) (by decide +kernel))) rfl, rfl, rfl, ⟨tyX12, tyX12_ok⟩, nmX12⟩
theorem fl_60 : gFl RX12 60 12 32 (.array .int) false 139 := ⟨RX12, TX12, rfl, tw0_X12, by decide, W0_in (tp_8 (List.mem_of_getElem? (i := 218) (by decide +kernel))) rfl, rfl, rfl, ⟨tyX12, tyX12_ok⟩, nmX12⟩
theorem fl_63 : gFl RX12 63 12 33 (.array .boolean) false 139 := ⟨RX12, TX12, rfl, tw0_X12, by decide, W0_in (tp_8 (List.mem_of_getElem? (i := 219) (by decide +kernel))) rfl, rfl, rfl, ⟨tyX12, tyX12_ok⟩, nmX12⟩
theorem fl_67 : gFl RX12 67 12 34 (.array .int) false 139 := ⟨RX12, TX12, rfl, tw0_X12, by decide, W0_in (tp_8 (List.mem_of_getElem? (i := 220) (by decide +kernel))) rfl, rfl, rfl, ⟨tyX12, tyX12_ok⟩, nmX12⟩
theorem fl_70 : gFl RX12 70 12 35 (.array .int) false 139 := ⟨RX12, TX12, rfl, tw0_X12, by decide, W0_in (tp_8 (List.mem_of_getElem? (i := 221) (by decide +kernel))) rfl, rfl, rfl, ⟨tyX12, tyX12_ok⟩, nmX12⟩
theorem fl_73 : gFl RX12 73 12 36 (.array .boolean) false 139 := ⟨RX12, TX12, rfl, tw0_X12, by decide, W0_in (tp_8 (List.mem_of_getElem? (i := 222) (by decide +kernel))) rfl, rfl, rfl, ⟨tyX12, tyX12_ok⟩, nmX12⟩
theorem fl_76 : gFl RX12 76 12 37 (.array .boolean) false 139 := ⟨RX12, TX12, rfl, tw0_X12, by decide, W0_in (tp_8 (List.mem_of_getElem? (i := 223) (by decide +kernel))) rfl, rfl, rfl, ⟨tyX12, tyX12_ok⟩, nmX12⟩
theorem fl_79 : gFl RX12 79 12 38 (.array .int) false 139 := ⟨RX12, TX12, rfl, tw0_X12, by decide, W0_in (tp_8 (List.mem_of_getElem? (i := 224) (by decide +kernel))) rfl, rfl, rfl, ⟨tyX12, tyX12_ok⟩, nmX12⟩
theorem fl_82 : gFl RX12 82 12 39 (.array .int) false 139 := ⟨RX12, TX12, rfl, tw0_X12, by decide, W0_in (tp_8 (List.mem_of_getElem? (i := 225) (by decide +kernel))) rfl, rfl, rfl, ⟨tyX12, tyX12_ok⟩, nmX12⟩
theorem fl_85 : gFl RX12 85 12 40 (.array .int) false 139 := ⟨RX12, TX12, rfl, tw0_X12, by decide, W0_in (tp_8 (List.mem_of_getElem? (i := 226) (by decide +kernel))) rfl, rfl, rfl, ⟨tyX12, tyX12_ok⟩, nmX12⟩
theorem fl_88 : gFl RX12 88 12 44 (.array .int) false 139 := ⟨RX12, TX12, rfl, tw0_X12, by decide, W0_in (tp_8 (List.mem_of_getElem? (i := 230) (by decide +kernel))) rfl, rfl, rfl, ⟨tyX12, tyX12_ok⟩, nmX12⟩
theorem fl_91 : gFl RX12 91 12 45 (.array .int) false 139 := ⟨RX12, TX12, rfl, tw0_X12, by decide, W0_in (tp_8 (List.mem_of_getElem? (i := 231) (by decide +kernel))) rfl, rfl, rfl, ⟨tyX12, tyX12_ok⟩, nmX12⟩
theorem fl_94 : gFl RX12 94 12 46 (.array .int) false 139 := ⟨RX12, TX12, rfl, tw0_X12, by decide, W0_in (tp_8 (List.mem_of_getElem? (i := 232) (by decide +kernel))) rfl, rfl, rfl, ⟨tyX12, tyX12_ok⟩, nmX12⟩
theorem fl_97 : gFl RX12 97 12 50 (.array .int) false 139 := ⟨RX12, TX12, rfl, tw0_X12, by decide, W0_in (tp_8 (List.mem_of_getElem? (i := 236) (by decide +kernel))) rfl, rfl, rfl, ⟨tyX12, tyX12_ok⟩, nmX12⟩
theorem fl_100 : gFl RX12 100 12 51 (.array .int) false 139 := ⟨RX12, TX12, rfl, tw0_X12, by decide, W0_in (tp_8 (List.mem_of_getElem? (i := 237) (by decide +kernel))) rfl, rfl, rfl, ⟨tyX12, tyX12_ok⟩, nmX12⟩
theorem fl_103 : gFl RX12 103 12 53 (.array .int) false 139 := ⟨RX12, TX12, rfl, tw0_X12, by decide, W0_in (tp_8 (List.mem_of_getElem? (i := 239) (by decide +kernel))) rfl, rfl, rfl, ⟨tyX12, tyX12_ok⟩, nmX12⟩
theorem fl_106 : gFl RX12 106 12 54 (.array .int) false 139 := ⟨RX12, TX12, rfl, tw0_X12, by decide, W0_in (tp_9 (List.mem_of_getElem? (i := 0) (by decide +kernel))) rfl, rfl, rfl, ⟨tyX12, tyX12_ok⟩, nmX12⟩
theorem fl_109 : gFl RX12 109 12 55 (.array .int) false 139 := ⟨RX12, TX12, rfl, tw0_X12, by decide, W0_in (tp_9 (List.mem_of_getElem? (i := 1) (by decide +kernel))) rfl, rfl, rfl, ⟨tyX12, tyX12_ok⟩, nmX12⟩
theorem fl_112 : gFl RX12 112 12 56 (.array .int) false 139 := ⟨RX12, TX12, rfl, tw0_X12, by decide, W0_in (tp_9 (List.mem_of_getElem? (i := 2) (by decide +kernel))) rfl, rfl, rfl, ⟨tyX12, tyX12_ok⟩, nmX12⟩
theorem fl_115 : gFl RX12 115 12 57 (.array .int) false 139 := ⟨RX12, TX12, rfl, tw0_X12, by decide, W0_in (tp_9 (List.mem_of_getElem? (i := 3) (by decide +kernel))) rfl, rfl, rfl, ⟨tyX12, tyX12_ok⟩, nmX12⟩
theorem fl_118 : gFl RX12 118 12 58 (.array .int) false 139 := ⟨RX12, TX12, rfl, tw0_X12, by decide, W0_in (tp_9 (List.mem_of_getElem? (i := 4) (by decide +kernel))) rfl, rfl, rfl, ⟨tyX12, tyX12_ok⟩, nmX12⟩
theorem fl_121 : gFl RX12 121 12 59 (.array .int) false 139 := ⟨RX12, TX12, rfl, tw0_X12, by decide, W0_in (tp_9 (List.mem_of_getElem? (i := 5) (by decide +kernel))) rfl, rfl, rfl, ⟨tyX12, tyX12_ok⟩, nmX12⟩
theorem fl_124 : gFl RX12 124 12 60 (.array .int) false 139 := ⟨RX12, TX12, rfl, tw0_X12, by decide, W0_in (tp_9 (List.mem_of_getElem? (i := 6) (by decide +kernel))) rfl, rfl, rfl, ⟨tyX12, tyX12_ok⟩, nmX12⟩
theorem fl_127 : gFl RX12 127 12 61 (.array .int) false 139 := ⟨RX12, TX12, rfl, tw0_X12, by decide, W0_in (tp_9 (List.mem_of_getElem? (i := 7) (by decide +kernel))) rfl, rfl, rfl, ⟨tyX12, tyX12_ok⟩, nmX12⟩
theorem fl_130 : gFl RX12 130 12 62 (.array .int) false 139 := ⟨RX12, TX12, rfl, tw0_X12, by decide, W0_in (tp_9 (List.mem_of_getElem? (i := 8) (by decide +kernel))) rfl, rfl, rfl, ⟨tyX12, tyX12_ok⟩, nmX12⟩
theorem fl_133 : gFl RX12 133 12 63 (.array .int) false 139 := ⟨RX12, TX12, rfl, tw0_X12, by decide, W0_in (tp_9 (List.mem_of_getElem? (i := 9) (by decide +kernel))) rfl, rfl, rfl, ⟨tyX12, tyX12_ok⟩, nmX12⟩
theorem fl_136 : gFl RX12 136 12 64 (.array .int) false 139 := ⟨RX12, TX12, rfl, tw0_X12, by decide, W0_in (tp_9 (List.mem_of_getElem? (i := 10) (by decide +kernel))) rfl, rfl, rfl, ⟨tyX12, tyX12_ok⟩, nmX12⟩
theorem fl_139 : gFl RX12 139 12 65 (.array .int) false 139 := ⟨RX12, TX12, rfl, tw0_X12, by decide, W0_in (tp_9 (List.mem_of_getElem? (i := 11) (by decide +kernel))) rfl, rfl, rfl, ⟨tyX12, tyX12_ok⟩, nmX12⟩
theorem fl_142 : gFl RX12 142 12 69 (.array .int) false 139 := ⟨RX12, TX12, rfl, tw0_X12, by decide, W0_in (tp_9 (List.mem_of_getElem? (i := 15) (by decide +kernel))) rfl, rfl, rfl, ⟨tyX12, tyX12_ok⟩, nmX12⟩
theorem fl_145 : gFl RX12 145 12 70 (.array .int) false 139 := ⟨RX12, TX12, rfl, tw0_X12, by decide, W0_in (tp_9 (List.mem_of_getElem? (i := 16) (by decide +kernel))) rfl, rfl, rfl, ⟨tyX12, tyX12_ok⟩, nmX12⟩
theorem fl_148 : gFl RX12 148 12 71 (.array .int) false 139 := ⟨RX12, TX12, rfl, tw0_X12, by decide, W0_in (tp_9 (List.mem_of_getElem? (i := 17) (by decide +kernel))) rfl, rfl, rfl, ⟨tyX12, tyX12_ok⟩, nmX12⟩
theorem fl_151 : gFl RX12 151 12 72 (.array .int) false 139 := ⟨RX12, TX12, rfl, tw0_X12, by decide, W0_in (tp_9 (List.mem_of_getElem? (i := 18) (by decide +kernel))) rfl, rfl, rfl, ⟨tyX12, tyX12_ok⟩, nmX12⟩
theorem fl_154 : gFl RX12 154 12 73 (.array .int) false 139 := ⟨RX12, TX12, rfl, tw0_X12, by decide, W0_in (tp_9 (List.mem_of_getElem? (i := 19) (by decide +kernel))) rfl, rfl, rfl, ⟨tyX12, tyX12_ok⟩, nmX12⟩
theorem fl_157 : gFl RX12 157 12 74 (.array .int) false 139 := ⟨RX12, TX12, rfl, tw0_X12, by decide, W0_in (tp_9 (List.mem_of_getElem? (i := 20) (by decide +kernel))) rfl, rfl, rfl, ⟨tyX12, tyX12_ok⟩, nmX12⟩
theorem fl_160 : gFl RX12 160 12 75 (.array .int) false 139 := ⟨RX12, TX12, rfl, tw0_X12, by decide, W0_in (tp_9 (List.mem_of_getElem? (i := 21) (by decide +kernel))) rfl, rfl, rfl, ⟨tyX12, tyX12_ok⟩, nmX12⟩
theorem fl_163 : gFl RX12 163 12 76 (.array .int) false 139 := ⟨RX12, TX12, rfl, tw0_X12, by decide, W0_in (tp_9 (List.mem_of_getElem? (i := 22) (by decide +kernel))) rfl, rfl, rfl, ⟨tyX12, tyX12_ok⟩, nmX12⟩
theorem fl_166 : gFl RX12 166 12 77 (.array .int) false 139 := ⟨RX12, TX12, rfl, tw0_X12, by decide, W0_in (tp_9 (List.mem_of_getElem? (i := 23) (by decide +kernel))) rfl, rfl, rfl, ⟨tyX12, tyX12_ok⟩, nmX12⟩
theorem fl_169 : gFl RX12 169 12 78 (.array .int) false 139 := ⟨RX12, TX12, rfl, tw0_X12, by decide, W0_in (tp_9 (List.mem_of_getElem? (i := 24) (by decide +kernel))) rfl, rfl, rfl, ⟨tyX12, tyX12_ok⟩, nmX12⟩
theorem fl_172 : gFl RX12 172 12 79 (.array .int) false 139 := ⟨RX12, TX12, rfl, tw0_X12, by decide, W0_in (tp_9 (List.mem_of_getElem? (i := 25) (by decide +kernel))) rfl, rfl, rfl, ⟨tyX12, tyX12_ok⟩, nmX12⟩
theorem fl_175 : gFl RX12 175 12 80 (.array .int) false 139 := ⟨RX12, TX12, rfl, tw0_X12, by decide, W0_in (tp_9 (List.mem_of_getElem? (i := 26) (by decide +kernel))) rfl, rfl, rfl, ⟨tyX12, tyX12_ok⟩, nmX12⟩
theorem fl_178 : gFl RX12 178 12 81 (.array .int) false 139 := ⟨RX12, TX12, rfl, tw0_X12, by decide, W0_in (tp_9 (List.mem_of_getElem? (i := 27) (by decide +kernel))) rfl, rfl, rfl, ⟨tyX12, tyX12_ok⟩, nmX12⟩
theorem fl_181 : gFl RX12 181 12 83 (.array .int) false 139 := ⟨RX12, TX12, rfl, tw0_X12, by decide, W0_in (tp_9 (List.mem_of_getElem? (i := 29) (by decide +kernel))) rfl, rfl, rfl, ⟨tyX12, tyX12_ok⟩, nmX12⟩
theorem fl_184 : gFl RX12 184 12 85 (.array .int) false 139 := ⟨RX12, TX12, rfl, tw0_X12, by decide, W0_in (tp_9 (List.mem_of_getElem? (i := 31) (by decide +kernel))) rfl, rfl, rfl, ⟨tyX12, tyX12_ok⟩, nmX12⟩
theorem fl_187 : gFl RX12 187 12 86 (.array .int) false 139 := ⟨RX12, TX12, rfl, tw0_X12, by decide, W0_in (tp_9 (List.mem_of_getElem? (i := 32) (by decide +kernel))) rfl, rfl, rfl, ⟨tyX12, tyX12_ok⟩, nmX12⟩
theorem fl_190 : gFl RX12 190 12 87 (.array .int) false 139 := ⟨RX12, TX12, rfl, tw0_X12, by decide, W0_in (tp_9 (List.mem_of_getElem? (i := 33) (by decide +kernel))) rfl, rfl, rfl, ⟨tyX12, tyX12_ok⟩, nmX12⟩
theorem fl_193 : gFl RX12 193 12 95 (.array .int) false 139 := ⟨RX12, TX12, rfl, tw0_X12, by decide, W0_in (tp_9 (List.mem_of_getElem? (i := 41) (by decide +kernel))) rfl, rfl, rfl, ⟨tyX12, tyX12_ok⟩, nmX12⟩
theorem fl_196 : gFl RX12 196 12 97 (.array .int) false 139 := ⟨RX12, TX12, rfl, tw0_X12, by decide, W0_in (tp_9 (List.mem_of_getElem? (i := 43) (by decide +kernel))) rfl, rfl, rfl, ⟨tyX12, tyX12_ok⟩, nmX12⟩
theorem fl_199 : gFl RX12 199 12 98 (.array .int) false 139 := ⟨RX12, TX12, rfl, tw0_X12, by decide, W0_in (tp_9 (List.mem_of_getElem? (i := 44) (by decide +kernel))) rfl, rfl, rfl, ⟨tyX12, tyX12_ok⟩, nmX12⟩
theorem fl_202 : gFl RX12 202 12 99 (.array .int) false 139 := ⟨RX12, TX12, rfl, tw0_X12, by decide, W0_in (tp_9 (List.mem_of_getElem? (i := 45) (by decide +kernel))) rfl, rfl, rfl, ⟨tyX12, tyX12_ok⟩, nmX12⟩
theorem fl_205 : gFl RX12 205 12 100 (.array .int) false 139 := ⟨RX12, TX12, rfl, tw0_X12, by decide, W0_in (tp_9 (List.mem_of_getElem? (i := 46) (by decide +kernel))) rfl, rfl, rfl, ⟨tyX12, tyX12_ok⟩, nmX12⟩
theorem fl_208 : gFl RX12 208 12 101 (.array .int) false 139 := ⟨RX12, TX12, rfl, tw0_X12, by decide, W0_in (tp_9 (List.mem_of_getElem? (i := 47) (by decide +kernel))) rfl, rfl, rfl, ⟨tyX12, tyX12_ok⟩, nmX12⟩
theorem fl_211 : gFl RX12 211 12 102 (.array .boolean) false 139 := ⟨RX12, TX12, rfl, tw0_X12, by decide, W0_in (tp_9 (List.mem_of_getElem? (i := 48) (by decide +kernel))) rfl, rfl, rfl, ⟨tyX12, tyX12_ok⟩, nmX12⟩
theorem fl_214 : gFl RX12 214 12 103 (.array .int) false 139 := ⟨RX12, TX12, rfl, tw0_X12, by decide, W0_in (tp_9 (List.mem_of_getElem? (i := 49) (by decide +kernel))) rfl, rfl, rfl, ⟨tyX12, tyX12_ok⟩, nmX12⟩
theorem fl_217 : gFl RX12 217 12 104 (.array .long) false 139 := ⟨RX12, TX12, rfl, tw0_X12, by decide, W0_in (tp_9 (List.mem_of_getElem? (i := 50) (by decide +kernel))) rfl, rfl, rfl, ⟨tyX12, tyX12_ok⟩, nmX12⟩
theorem fl_221 : gFl RX12 221 12 105 (.array .int) false 139 := ⟨RX12, TX12, rfl, tw0_X12, by decide, W0_in (tp_9 (List.mem_of_getElem? (i := 51) (by decide +kernel))) rfl, rfl, rfl, ⟨tyX12, tyX12_ok⟩, nmX12⟩
theorem fl_224 : gFl RX12 224 12 106 (.array .int) false 139 := ⟨RX12, TX12, rfl, tw0_X12, by decide, W0_in (tp_9 (List.mem_of_getElem? (i := 52) (by decide +kernel))) rfl, rfl, rfl, ⟨tyX12, tyX12_ok⟩, nmX12⟩
theorem fl_227 : gFl RX12 227 12 108 (.array .int) false 139 := ⟨RX12, TX12, rfl, tw0_X12, by decide, W0_in (tp_9 (List.mem_of_getElem? (i := 54) (by decide +kernel))) rfl, rfl, rfl, ⟨tyX12, tyX12_ok⟩, nmX12⟩
theorem fl_230 : gFl RX12 230 12 109 (.array .int) false 139 := ⟨RX12, TX12, rfl, tw0_X12, by decide, W0_in (tp_9 (List.mem_of_getElem? (i := 55) (by decide +kernel))) rfl, rfl, rfl, ⟨tyX12, tyX12_ok⟩, nmX12⟩
theorem fl_233 : gFl RX12 233 12 110 (.array .int) false 139 := ⟨RX12, TX12, rfl, tw0_X12, by decide, W0_in (tp_9 (List.mem_of_getElem? (i := 56) (by decide +kernel))) rfl, rfl, rfl, ⟨tyX12, tyX12_ok⟩, nmX12⟩
theorem fl_236 : gFl RX12 236 12 111 (.array .int) false 139 := ⟨RX12, TX12, rfl, tw0_X12, by decide, W0_in (tp_9 (List.mem_of_getElem? (i := 57) (by decide +kernel))) rfl, rfl, rfl, ⟨tyX12, tyX12_ok⟩, nmX12⟩
theorem fl_239 : gFl RX12 239 12 112 (.array .int) false 139 := ⟨RX12, TX12, rfl, tw0_X12, by decide, W0_in (tp_9 (List.mem_of_getElem? (i := 58) (by decide +kernel))) rfl, rfl, rfl, ⟨tyX12, tyX12_ok⟩, nmX12⟩
theorem fl_242 : gFl RX12 242 12 113 (.array .int) false 139 := ⟨RX12, TX12, rfl, tw0_X12, by decide, W0_in (tp_9 (List.mem_of_getElem? (i := 59) (by decide +kernel))) rfl, rfl, rfl, ⟨tyX12, tyX12_ok⟩, nmX12⟩
theorem fl_245 : gFl RX12 245 12 114 (.array .int) false 139 := ⟨RX12, TX12, rfl, tw0_X12, by decide, W0_in (tp_9 (List.mem_of_getElem? (i := 60) (by decide +kernel))) rfl, rfl, rfl, ⟨tyX12, tyX12_ok⟩, nmX12⟩
theorem fl_248 : gFl RX12 248 12 115 (.array .int) false 139 := ⟨RX12, TX12, rfl, tw0_X12, by decide, W0_in (tp_9 (List.mem_of_getElem? (i := 61) (by decide +kernel))) rfl, rfl, rfl, ⟨tyX12, tyX12_ok⟩, nmX12⟩
theorem fl_251 : gFl RX12 251 12 117 (.array .int) false 139 := ⟨RX12, TX12, rfl, tw0_X12, by decide, W0_in (tp_9 (List.mem_of_getElem? (i := 63) (by decide +kernel))) rfl, rfl, rfl, ⟨tyX12, tyX12_ok⟩, nmX12⟩
theorem fl_254 : gFl RX12 254 12 118 (.array .boolean) false 139 := ⟨RX12, TX12, rfl, tw0_X12, by decide, W0_in (tp_9 (List.mem_of_getElem? (i := 64) (by decide +kernel))) rfl, rfl, rfl, ⟨tyX12, tyX12_ok⟩, nmX12⟩
theorem fl_257 : gFl RX12 257 12 119 (.array .int) false 139 := ⟨RX12, TX12, rfl, tw0_X12, by decide, W0_in (tp_9 (List.mem_of_getElem? (i := 65) (by decide +kernel))) rfl, rfl, rfl, ⟨tyX12, tyX12_ok⟩, nmX12⟩
theorem fl_260 : gFl RX12 260 12 120 (.array .boolean) false 139 := ⟨RX12, TX12, rfl, tw0_X12, by decide, W0_in (tp_9 (List.mem_of_getElem? (i := 66) (by decide +kernel))) rfl, rfl, rfl, ⟨tyX12, tyX12_ok⟩, nmX12⟩
theorem fl_263 : gFl RX12 263 12 121 (.array .int) false 139 := ⟨RX12, TX12, rfl, tw0_X12, by decide, W0_in (tp_9 (List.mem_of_getElem? (i := 67) (by decide +kernel))) rfl, rfl, rfl, ⟨tyX12, tyX12_ok⟩, nmX12⟩
theorem fl_266 : gFl RX12 266 12 122 (.array .int) false 139 := ⟨RX12, TX12, rfl, tw0_X12, by decide, W0_in (tp_9 (List.mem_of_getElem? (i := 68) (by decide +kernel))) rfl, rfl, rfl, ⟨tyX12, tyX12_ok⟩, nmX12⟩
theorem fl_269 : gFl RX12 269 12 123 (.array .int) false 139 := ⟨RX12, TX12, rfl, tw0_X12, by decide, W0_in (tp_9 (List.mem_of_getElem? (i := 69) (by decide +kernel))) rfl, rfl, rfl, ⟨tyX12, tyX12_ok⟩, nmX12⟩
theorem fl_272 : gFl RX12 272 12 124 (.array .int) false 139 := ⟨RX12, TX12, rfl, tw0_X12, by decide, W0_in (tp_9 (List.mem_of_getElem? (i := 70) (by decide +kernel))) rfl, rfl, rfl, ⟨tyX12, tyX12_ok⟩, nmX12⟩
theorem fl_275 : gFl RX12 275 12 125 (.array .int) false 139 := ⟨RX12, TX12, rfl, tw0_X12, by decide, W0_in (tp_9 (List.mem_of_getElem? (i := 71) (by decide +kernel))) rfl, rfl, rfl, ⟨tyX12, tyX12_ok⟩, nmX12⟩
theorem fl_278 : gFl RX12 278 12 126 (.array .int) false 139 := ⟨RX12, TX12, rfl, tw0_X12, by decide, W0_in (tp_9 (List.mem_of_getElem? (i := 72) (by decide +kernel))) rfl, rfl, rfl, ⟨tyX12, tyX12_ok⟩, nmX12⟩
theorem fl_281 : gFl RX12 281 12 127 (.array .boolean) false 139 := ⟨RX12, TX12, rfl, tw0_X12, by decide, W0_in (tp_9 (List.mem_of_getElem? (i := 73) (by decide +kernel))) rfl, rfl, rfl, ⟨tyX12, tyX12_ok⟩, nmX12⟩
theorem fl_285 : gFl RX12 285 12 128 (.array .int) false 139 := ⟨RX12, TX12, rfl, tw0_X12, by decide, W0_in (tp_9 (List.mem_of_getElem? (i := 74) (by decide +kernel))) rfl, rfl, rfl, ⟨tyX12, tyX12_ok⟩, nmX12⟩
theorem fl_288 : gFl RX12 288 12 129 (.array .int) false 139 := ⟨RX12, TX12, rfl, tw0_X12, by decide, W0_in (tp_9 (List.mem_of_getElem? (i := 75) (by decide +kernel))) rfl, rfl, rfl, ⟨tyX12, tyX12_ok⟩, nmX12⟩
theorem fl_291 : gFl RX12 291 12 130 (.array .int) false 139 := ⟨RX12, TX12, rfl, tw0_X12, by decide, W0_in (tp_9 (List.mem_of_getElem? (i := 76) (by decide +kernel))) rfl, rfl, rfl, ⟨tyX12, tyX12_ok⟩, nmX12⟩
theorem fl_294 : gFl RX12 294 12 131 (.array .int) false 139 := ⟨RX12, TX12, rfl, tw0_X12, by decide, W0_in (tp_9 (List.mem_of_getElem? (i := 77) (by decide +kernel))) rfl, rfl, rfl, ⟨tyX12, tyX12_ok⟩, nmX12⟩
theorem fl_298 : gFl RX12 298 12 132 (.array .int) false 139 := ⟨RX12, TX12, rfl, tw0_X12, by decide, W0_in (tp_9 (List.mem_of_getElem? (i := 78) (by decide +kernel))) rfl, rfl, rfl, ⟨tyX12, tyX12_ok⟩, nmX12⟩
theorem fl_301 : gFl RX12 301 12 133 (.array .int) false 139 := ⟨RX12, TX12, rfl, tw0_X12, by decide, W0_in (tp_9 (List.mem_of_getElem? (i := 79) (by decide +kernel))) rfl, rfl, rfl, ⟨tyX12, tyX12_ok⟩, nmX12⟩
theorem fl_304 : gFl RX12 304 12 134 (.array .int) false 139 := ⟨RX12, TX12, rfl, tw0_X12, by decide, W0_in (tp_9 (List.mem_of_getElem? (i := 80) (by decide +kernel))) rfl, rfl, rfl, ⟨tyX12, tyX12_ok⟩, nmX12⟩
theorem fl_307 : gFl RX12 307 12 135 (.array .int) false 139 := ⟨RX12, TX12, rfl, tw0_X12, by decide, W0_in (tp_9 (List.mem_of_getElem? (i := 81) (by decide +kernel))) rfl, rfl, rfl, ⟨tyX12, tyX12_ok⟩, nmX12⟩
theorem fl_310 : gFl RX12 310 12 137 (.array .int) false 139 := ⟨RX12, TX12, rfl, tw0_X12, by decide, W0_in (tp_9 (List.mem_of_getElem? (i := 83) (by decide +kernel))) rfl, rfl, rfl, ⟨tyX12, tyX12_ok⟩, nmX12⟩
theorem fl_313 : gFl RX12 313 12 138 (.array .int) false 139 := ⟨RX12, TX12, rfl, tw0_X12, by decide, W0_in (tp_9 (List.mem_of_getElem? (i := 84) (by decide +kernel))) rfl, rfl, rfl, ⟨tyX12, tyX12_ok⟩, nmX12⟩
theorem fl_316 : gFl RX12 316 12 0 (.int) false 139 := ⟨RX12, TX12, rfl, tw0_X12, by decide, W0_in (tp_8 (List.mem_of_getElem? (i := 187) (by decide +kernel))) rfl, rfl, rfl, ⟨tyX12, tyX12_ok⟩, nmX12⟩
theorem fl_319 : gFl RX12 319 12 2 (.int) false 139 := ⟨RX12, TX12, rfl, tw0_X12, by decide, W0_in (tp_8 (List.mem_of_getElem? (i := 189) (by decide +kernel))) rfl, rfl, rfl, ⟨tyX12, tyX12_ok⟩, nmX12⟩
theorem fl_342 : gFl RX12 342 12 3 (.int) false 139 := ⟨RX12, TX12, rfl, tw0_X12, by decide, W0_in (tp_8 (List.mem_of_getElem? (i := 190) (by decide +kernel))) rfl, rfl, rfl, ⟨tyX12, tyX12_ok⟩, nmX12⟩
theorem fl_363 : gFl RX12 363 12 13 (.int) false 139 := ⟨RX12, TX12, rfl, tw0_X12, by decide, W0_in (tp_8 (List.mem_of_getElem? (i := 200) (by decide +kernel))) rfl, rfl, rfl, ⟨tyX12, tyX12_ok⟩, nmX12⟩
theorem fl_366 : gFl RX12 366 12 9 (.int) false 139 := ⟨RX12, TX12, rfl, tw0_X12, by decide, W0_in (tp_8 (List.mem_of_getElem? (i := 196) (by decide +kernel))) rfl, rfl, rfl, ⟨tyX12, tyX12_ok⟩, nmX12⟩
theorem fl_369 : gFl RX12 369 12 10 (.int) false 139 := ⟨RX12, TX12, rfl, tw0_X12, by decide, W0_in (tp_8 (List.mem_of_getElem? (i := 197) (by decide +kernel))) rfl, rfl, rfl, ⟨tyX12, tyX12_ok⟩, nmX12⟩
theorem fl_372 : gFl RX12 372 12 8 (.int) false 139 := ⟨RX12, TX12, rfl, tw0_X12, by decide, W0_in (tp_8 (List.mem_of_getElem? (i := 195) (by decide +kernel))) rfl, rfl, rfl, ⟨tyX12, tyX12_ok⟩, nmX12⟩
theorem fl_386 : gFl RX12 386 12 20 (.int) false 139 := ⟨RX12, TX12, rfl, tw0_X12, by decide, W0_in (tp_8 (List.mem_of_getElem? (i := 207) (by decide +kernel))) rfl, rfl, rfl, ⟨tyX12, tyX12_ok⟩, nmX12⟩
theorem fl_433 : gFl RX12 433 12 21 (.int) false 139 := ⟨RX12, TX12, rfl, tw0_X12, by decide, W0_in (tp_8 (List.mem_of_getElem? (i := 208) (by decide +kernel))) rfl, rfl, rfl, ⟨tyX12, tyX12_ok⟩, nmX12⟩
theorem fl_445 : gFl RX12 445 12 28 (.int) false 139 := ⟨RX12, TX12, rfl, tw0_X12, by decide, W0_in (tp_8 (List.mem_of_getElem? (i := 214) (by decide +kernel))) rfl, rfl, rfl, ⟨tyX12, tyX12_ok⟩, nmX12⟩
theorem fl_448 : gFl RX12 448 12 23 (.int) false 139 := ⟨RX12, TX12, rfl, tw0_X12, by decide, W0_in (tp_8 (List.mem_of_getElem? (i := 209) (by decide +kernel))) rfl, rfl, rfl, ⟨tyX12, tyX12_ok⟩, nmX12⟩
theorem fl_458 : gFl RX12 458 12 24 (.int) false 139 := ⟨RX12, TX12, rfl, tw0_X12, by decide, W0_in (tp_8 (List.mem_of_getElem? (i := 210) (by decide +kernel))) rfl, rfl, rfl, ⟨tyX12, tyX12_ok⟩, nmX12⟩
theorem fl_461 : gFl RX12 461 12 25 (.int) false 139 := ⟨RX12, TX12, rfl, tw0_X12, by decide, W0_in (tp_8 (List.mem_of_getElem? (i := 211) (by decide +kernel))) rfl, rfl, rfl, ⟨tyX12, tyX12_ok⟩, nmX12⟩
theorem fl_464 : gFl RX12 464 12 26 (.int) false 139 := ⟨RX12, TX12, rfl, tw0_X12, by decide, W0_in (tp_8 (List.mem_of_getElem? (i := 212) (by decide +kernel))) rfl, rfl, rfl, ⟨tyX12, tyX12_ok⟩, nmX12⟩
theorem fl_467 : gFl RX12 467 12 27 (.int) false 139 := ⟨RX12, TX12, rfl, tw0_X12, by decide, W0_in (tp_8 (List.mem_of_getElem? (i := 213) (by decide +kernel))) rfl, rfl, rfl, ⟨tyX12, tyX12_ok⟩, nmX12⟩
theorem fl_470 : gFl RX12 470 12 41 (.int) false 139 := ⟨RX12, TX12, rfl, tw0_X12, by decide, W0_in (tp_8 (List.mem_of_getElem? (i := 227) (by decide +kernel))) rfl, rfl, rfl, ⟨tyX12, tyX12_ok⟩, nmX12⟩
theorem fl_473 : gFl RX12 473 12 42 (.int) false 139 := ⟨RX12, TX12, rfl, tw0_X12, by decide, W0_in (tp_8 (List.mem_of_getElem? (i := 228) (by decide +kernel))) rfl, rfl, rfl, ⟨tyX12, tyX12_ok⟩, nmX12⟩
theorem fl_480 : gFl RX12 480 12 43 (.int) false 139 := ⟨RX12, TX12, rfl, tw0_X12, by decide, W0_in (tp_8 (List.mem_of_getElem? (i := 229) (by decide +kernel))) rfl, rfl, rfl, ⟨tyX12, tyX12_ok⟩, nmX12⟩
theorem fl_483 : gFl RX12 483 12 49 (.int) false 139 := ⟨RX12, TX12, rfl, tw0_X12, by decide, W0_in (tp_8 (List.mem_of_getElem? (i := 235) (by decide +kernel))) rfl, rfl, rfl, ⟨tyX12, tyX12_ok⟩, nmX12⟩
theorem fl_502 : gFl RX12 502 12 52 (.int) false 139 := ⟨RX12, TX12, rfl, tw0_X12, by decide, W0_in (tp_8 (List.mem_of_getElem? (i := 238) (by decide +kernel))) rfl, rfl, rfl, ⟨tyX12, tyX12_ok⟩, nmX12⟩
theorem fl_527 : gFl RX12 527 12 47 (.int) false 139 := ⟨RX12, TX12, rfl, tw0_X12, by decide, W0_in (tp_8 (List.mem_of_getElem? (i := 233) (by decide +kernel))) rfl, rfl, rfl, ⟨tyX12, tyX12_ok⟩, nmX12⟩
theorem fl_533 : gFl RX12 533 12 48 (.int) false 139 := ⟨RX12, TX12, rfl, tw0_X12, by decide, W0_in (tp_8 (List.mem_of_getElem? (i := 234) (by decide +kernel))) rfl, rfl, rfl, ⟨tyX12, tyX12_ok⟩, nmX12⟩
theorem fl_565 : gFl RX12 565 12 66 (.boolean) false 139 := ⟨RX12, TX12, rfl, tw0_X12, by decide, W0_in (tp_9 (List.mem_of_getElem? (i := 12) (by decide +kernel))) rfl, rfl, rfl, ⟨tyX12, tyX12_ok⟩, nmX12⟩
theorem fl_569 : gFl RX12 569 12 67 (.boolean) false 139 := ⟨RX12, TX12, rfl, tw0_X12, by decide, W0_in (tp_9 (List.mem_of_getElem? (i := 13) (by decide +kernel))) rfl, rfl, rfl, ⟨tyX12, tyX12_ok⟩, nmX12⟩
theorem fl_581 : gFl RX12 581 12 82 (.int) false 139 := ⟨RX12, TX12, rfl, tw0_X12, by decide, W0_in (tp_9 (List.mem_of_getElem? (i := 28) (by decide +kernel))) rfl, rfl, rfl, ⟨tyX12, tyX12_ok⟩, nmX12⟩
theorem fl_608 : gFl RX12 608 12 68 (.int) false 139 := ⟨RX12, TX12, rfl, tw0_X12, by decide, W0_in (tp_9 (List.mem_of_getElem? (i := 14) (by decide +kernel))) rfl, rfl, rfl, ⟨tyX12, tyX12_ok⟩, nmX12⟩
theorem fl_611 : gFl RX12 611 12 84 (.int) false 139 := ⟨RX12, TX12, rfl, tw0_X12, by decide, W0_in (tp_9 (List.mem_of_getElem? (i := 30) (by decide +kernel))) rfl, rfl, rfl, ⟨tyX12, tyX12_ok⟩, nmX12⟩
theorem fl_620 : gFl RX12 620 12 89 (.int) false 139 := ⟨RX12, TX12, rfl, tw0_X12, by decide, W0_in (tp_9 (List.mem_of_getElem? (i := 35) (by decide +kernel))) rfl, rfl, rfl, ⟨tyX12, tyX12_ok⟩, nmX12⟩
theorem fl_623 : gFl RX12 623 12 88 (.int) false 139 := ⟨RX12, TX12, rfl, tw0_X12, by decide, W0_in (tp_9 (List.mem_of_getElem? (i := 34) (by decide +kernel))) rfl, rfl, rfl, ⟨tyX12, tyX12_ok⟩, nmX12⟩
theorem fl_626 : gFl RX12 626 12 90 (.int) false 139 := ⟨RX12, TX12, rfl, tw0_X12, by decide, W0_in (tp_9 (List.mem_of_getElem? (i := 36) (by decide +kernel))) rfl, rfl, rfl, ⟨tyX12, tyX12_ok⟩, nmX12⟩
theorem fl_629 : gFl RX12 629 12 91 (.int) false 139 := ⟨RX12, TX12, rfl, tw0_X12, by decide, W0_in (tp_9 (List.mem_of_getElem? (i := 37) (by decide +kernel))) rfl, rfl, rfl, ⟨tyX12, tyX12_ok⟩, nmX12⟩
theorem fl_635 : gFl RX12 635 12 92 (.int) false 139 := ⟨RX12, TX12, rfl, tw0_X12, by decide, W0_in (tp_9 (List.mem_of_getElem? (i := 38) (by decide +kernel))) rfl, rfl, rfl, ⟨tyX12, tyX12_ok⟩, nmX12⟩
theorem fl_638 : gFl RX12 638 12 93 (.int) false 139 := ⟨RX12, TX12, rfl, tw0_X12, by decide, W0_in (tp_9 (List.mem_of_getElem? (i := 39) (by decide +kernel))) rfl, rfl, rfl, ⟨tyX12, tyX12_ok⟩, nmX12⟩
theorem fl_644 : gFl RX12 644 12 94 (.int) false 139 := ⟨RX12, TX12, rfl, tw0_X12, by decide, W0_in (tp_9 (List.mem_of_getElem? (i := 40) (by decide +kernel))) rfl, rfl, rfl, ⟨tyX12, tyX12_ok⟩, nmX12⟩
theorem fl_647 : gFl RX12 647 12 96 (.int) false 139 := ⟨RX12, TX12, rfl, tw0_X12, by decide, W0_in (tp_9 (List.mem_of_getElem? (i := 42) (by decide +kernel))) rfl, rfl, rfl, ⟨tyX12, tyX12_ok⟩, nmX12⟩
theorem fl_699 : gFl RX12 699 12 107 (.int) false 139 := ⟨RX12, TX12, rfl, tw0_X12, by decide, W0_in (tp_9 (List.mem_of_getElem? (i := 53) (by decide +kernel))) rfl, rfl, rfl, ⟨tyX12, tyX12_ok⟩, nmX12⟩
theorem fl_702 : gFl RX12 702 12 116 (.int) false 139 := ⟨RX12, TX12, rfl, tw0_X12, by decide, W0_in (tp_9 (List.mem_of_getElem? (i := 62) (by decide +kernel))) rfl, rfl, rfl, ⟨tyX12, tyX12_ok⟩, nmX12⟩
theorem fl_720 : gFl RX12 720 12 136 (.int) false 139 := ⟨RX12, TX12, rfl, tw0_X12, by decide, W0_in (tp_9 (List.mem_of_getElem? (i := 82) (by decide +kernel))) rfl, rfl, rfl, ⟨tyX12, tyX12_ok⟩, nmX12⟩
/-- what stays while the model runs: launch, classes, array classes, lists of words, counts -/
abbrev mG : Type := Launch × va_G × (FieldType → ClassId) × (Nat → Nat) × Nat × Nat
abbrev mE (G : mG) : gE := (G.1, G.2.1, G.2.2.1, mK, G.2.2.2.1)
abbrev mf (G : mG) : gf := (mR, mL, G.2.2.2.2)
def mq (G : mG) (P : Option gv → gd → Prop) : gr → gd → gf → Prop := fun o x f => f = mf G ∧ ∃ v, o = .inl v ∧ P v x
abbrev MT (G : mG) (d : Nat) (y : gy) (pc : Nat) (lv : List (Nat × gv)) (st : List gv) (x : gd) (P : Option gv → gd → Prop) : Prop := T (mE G) d y pc lv st x (mf G) (mq G P)
/-- answers: an int, none -/
def ri (F : Int32 → gd → Prop) : Option gv → gd → Prop := fun v x => ∃ r : Int32, v = some (vi r) ∧ F r x
def rv (F : gd → Prop) : Option gv → gd → Prop := fun v x => v = none ∧ F x
section MTR
variable {G : mG} {d : Nat} {y z : gy} {pc : Nat} {lv : List (Nat × gv)} {st : List gv} {x : gd} {P P' : Option gv → gd → Prop}
theorem MT_mono (h : MT G d y pc lv st x P) (hp : ∀ v x', P v x' → P' v x') : MT G d y pc lv st x P' :=
  T_mono h (fun o x' f' q => ⟨q.1, by obtain ⟨-, v, e, hv⟩ := q; exact ⟨v, e, hp v x' hv⟩⟩)
theorem MTv_mono {F F' : gd → Prop} (h : MT G d y pc lv st x (rv F)) (hp : ∀ x', F x' → F' x') : MT G d y pc lv st x (rv F') :=
  MT_mono h (fun v x' q => ⟨q.1, hp x' q.2⟩)
theorem MT_iret {v : Int32} {ty : FieldType} (hd : decode y.2.1 pc = .ok (.ireturn, 1)) (hr : y.2.2.2.1 = some ty) (hn : narrow ty (.int v) = .int v) (hQ : P (some (vi v)) x) : MT G d y pc lv [vi v] x P := T_iret hd hr hn ⟨rfl, _, rfl, hQ⟩
theorem MT_vret (hd : decode y.2.1 pc = .ok (.return_, 1)) (hr : y.2.2.2.1 = none) (hQ : P none x) : MT G d y pc lv [] x P := T_vret hd hr ⟨rfl, _, rfl, hQ⟩
theorem MT_gthen {rest : List gv} {st' : List (Nat × gv)} (h : MT G d z 0 lv [] x (fun v x' => MT G (d + 1) y (pc + 3) st' (v.toList ++ rest) x' P)) : T (mE G) d z 0 lv [] x (mf G) (gthen (mE G) (d + 1) y (pc + 3) st' rest (mq G P)) :=
  T_mono h (fun o x' f' q => by obtain ⟨rfl, v, rfl, hv⟩ := q; exact hv)
theorem MT_callVi {idx n : Nat} {F : Int32 → gd → Prop} (As rest : List gv) (hst : st = As.reverse ++ vr 0 :: rest) (hd : decode y.2.1 pc = .ok (.invokevirtual idx, 3)) (hM : gMv y.1.cls idx z n) (hn : As.length = n) (hz : z.1.cls = RX12) (hfit : gsz (vr 0 :: As) ≤ z.2.2.1) (hcat : gsz rest ≤ 8) (hok : gok mL lv rest = true) (hy : y.2.2.2.2 = [])
    (k : MT G d z 0 (glv 0 (vr 0 :: As)) [] x (ri F)) (kk : ∀ r x1, F r x1 → MT G (d + 1) y (pc + 3) lv (vi r :: rest) x1 P) : MT G (d + 1) y pc lv st x P :=
  T_callV As rest d hst hd hM hn mk_0 (by rw [hz]; rfl) ml_0 (Nat.le_refl _) hfit hcat hok (by rw [hy]; intro z hz; cases hz) (MT_gthen (MT_mono k (fun v x' q => by obtain ⟨r, rfl, hr⟩ := q; exact kk r x' hr)))
theorem MT_callVv {idx n : Nat} {F : gd → Prop} (As rest : List gv) (hst : st = As.reverse ++ vr 0 :: rest) (hd : decode y.2.1 pc = .ok (.invokevirtual idx, 3)) (hM : gMv y.1.cls idx z n) (hn : As.length = n) (hz : z.1.cls = RX12) (hfit : gsz (vr 0 :: As) ≤ z.2.2.1) (hcat : gsz rest ≤ 8) (hok : gok mL lv rest = true) (hy : y.2.2.2.2 = [])
    (k : MT G d z 0 (glv 0 (vr 0 :: As)) [] x (rv F)) (kk : ∀ x1, F x1 → MT G (d + 1) y (pc + 3) lv rest x1 P) : MT G (d + 1) y pc lv st x P :=
  T_callV As rest d hst hd hM hn mk_0 (by rw [hz]; rfl) ml_0 (Nat.le_refl _) hfit hcat hok (by rw [hy]; intro z hz; cases hz) (MT_gthen (MT_mono k (fun v x' q => by obtain ⟨rfl, hr⟩ := q; exact kk x' hr)))
theorem MT_callSi {idx n : Nat} {F : Int32 → gd → Prop} (As rest : List gv) (hst : st = As.reverse ++ rest) (hd : decode y.2.1 pc = .ok (.invokestatic idx, 3)) (hM : gMs y.1.cls idx z n) (hn : As.length = n) (hfit : gsz As ≤ z.2.2.1) (hcat : gsz rest ≤ 8) (hok : gok mL lv rest = true) (hy : y.2.2.2.2 = [])
    (k : MT G d z 0 (glv 0 As) [] x (ri F)) (kk : ∀ r x1, F r x1 → MT G (d + 1) y (pc + 3) lv (vi r :: rest) x1 P) : MT G (d + 1) y pc lv st x P :=
  T_callS As rest d hst hd hM hn (Nat.le_refl _) hfit hcat hok (by rw [hy]; intro z hz; cases hz) (MT_gthen (MT_mono k (fun v x' q => by obtain ⟨r, rfl, hr⟩ := q; exact kk r x' hr)))
end MTR
