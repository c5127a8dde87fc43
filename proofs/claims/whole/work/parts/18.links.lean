theorem mX0_init : am_mi 0 cX0_init 0 1 (none) := ⟨rfl, rfl, rfl, rfl⟩
theorem mX0_addLine : am_mi 1 cX0_addLine 0 2 (some .int) := ⟨rfl, rfl, rfl, rfl⟩
theorem mX0_addNote : am_mi 2 cX0_addNote 0 2 (some .int) := ⟨rfl, rfl, rfl, rfl⟩
theorem mX0_hasLine : am_mi 3 cX0_hasLine 0 2 (some .boolean) := ⟨rfl, rfl, rfl, rfl⟩
theorem mX0_find : am_mi 4 cX0_find 0 2 (some (.object "EdgeNotes$Note")) := ⟨rfl, rfl, rfl, rfl⟩
theorem mX0_isShown : am_mi 5 cX0_isShown 0 2 (some .boolean) := ⟨rfl, rfl, rfl, rfl⟩
theorem mX0_isSet : am_mi 6 cX0_isSet 0 2 (some .boolean) := ⟨rfl, rfl, rfl, rfl⟩
theorem mX1_init : am_mi 7 cX1_init 1 2 (none) := ⟨rfl, rfl, rfl, rfl⟩
theorem mX1_refresh : am_mi 8 cX1_refresh 1 4 (none) := ⟨rfl, rfl, rfl, rfl⟩
theorem mX1_hasPage : am_mi 9 cX1_hasPage 1 2 (some .boolean) := ⟨rfl, rfl, rfl, rfl⟩
theorem mX1_takeLines : am_mi 10 cX1_takeLines 1 4 (some .int) := ⟨rfl, rfl, rfl, rfl⟩
theorem mX1_layPage : am_mi 11 cX1_layPage 1 7 (none) := ⟨rfl, rfl, rfl, rfl⟩
theorem mX1_countRuns : am_mi 12 cX1_countRuns 1 7 (some .int) := ⟨rfl, rfl, rfl, rfl⟩
theorem mX1_countMoved : am_mi 13 cX1_countMoved 1 4 (some .int) := ⟨rfl, rfl, rfl, rfl⟩
theorem mX1_hasBracket : am_mi 14 cX1_hasBracket 1 3 (some .boolean) := ⟨rfl, rfl, rfl, rfl⟩
theorem mX1_bracketBegin : am_mi 15 cX1_bracketBegin 1 3 (some .int) := ⟨rfl, rfl, rfl, rfl⟩
theorem mX1_bracketEnd : am_mi 16 cX1_bracketEnd 1 4 (some .int) := ⟨rfl, rfl, rfl, rfl⟩
theorem mX1_firstOf : am_mi 17 cX1_firstOf 1 3 (some .int) := ⟨rfl, rfl, rfl, rfl⟩
theorem mX1_lastOf : am_mi 18 cX1_lastOf 1 3 (some .int) := ⟨rfl, rfl, rfl, rfl⟩
theorem mX1_columnOf : am_mi 19 cX1_columnOf 1 5 (some .int) := ⟨rfl, rfl, rfl, rfl⟩
theorem mX1_takenAhead : am_mi 20 cX1_takenAhead 1 8 (some .int) := ⟨rfl, rfl, rfl, rfl⟩
theorem mX1_leastFree : am_mi 21 cX1_leastFree 1 2 (some .int) := ⟨rfl, rfl, rfl, rfl⟩
theorem mX2_init : am_mi 22 cX2_init 2 3 (none) := ⟨rfl, rfl, rfl, rfl⟩
theorem mX2_clear : am_mi 23 cX2_clear 2 1 (none) := ⟨rfl, rfl, rfl, rfl⟩
theorem mX2_add : am_mi 24 cX2_add 2 2 (none) := ⟨rfl, rfl, rfl, rfl⟩
theorem mX2_fits : am_mi 25 cX2_fits 2 4 (some .boolean) := ⟨rfl, rfl, rfl, rfl⟩
theorem mX2_fitsCut : am_mi 26 cX2_fitsCut 2 4 (some .boolean) := ⟨rfl, rfl, rfl, rfl⟩
theorem mX2_choose : am_mi 27 cX2_choose 2 7 (some .int) := ⟨rfl, rfl, rfl, rfl⟩
theorem mX2_stand : am_mi 28 cX2_stand 2 5 (none) := ⟨rfl, rfl, rfl, rfl⟩
theorem mX2_leastCost : am_mi 29 cX2_leastCost 2 9 (some .int) := ⟨rfl, rfl, rfl, rfl⟩
theorem mX2_hangCeilings : am_mi 30 cX2_hangCeilings 2 5 (some .boolean) := ⟨rfl, rfl, rfl, rfl⟩
theorem mX2_pull : am_mi 31 cX2_pull 2 8 (some .int) := ⟨rfl, rfl, rfl, rfl⟩
theorem mX3_init : am_mi 32 cX3_init 3 6 (none) := ⟨rfl, rfl, rfl, rfl⟩
theorem mX3_isFixed : am_mi 33 cX3_isFixed 3 1 (some .boolean) := ⟨rfl, rfl, rfl, rfl⟩
theorem mX3_leavesAtMost : am_mi 34 cX3_leavesAtMost 3 3 (some .boolean) := ⟨rfl, rfl, rfl, rfl⟩
theorem mX3_hasCut : am_mi 35 cX3_hasCut 3 3 (some .boolean) := ⟨rfl, rfl, rfl, rfl⟩
theorem mX3_addCut : am_mi 36 cX3_addCut 3 3 (none) := ⟨rfl, rfl, rfl, rfl⟩
theorem mX4_init : am_mi 37 cX4_init 4 1 (none) := ⟨rfl, rfl, rfl, rfl⟩
theorem mX4_gather : am_mi 38 cX4_gather 4 4 (none) := ⟨rfl, rfl, rfl, rfl⟩
theorem mX4_insert : am_mi 39 cX4_insert 4 3 (none) := ⟨rfl, rfl, rfl, rfl⟩
theorem mX5_init : am_mi 40 cX5_init 5 3 (none) := ⟨rfl, rfl, rfl, rfl⟩
theorem mX5_beginBook : am_mi 41 cX5_beginBook 5 1 (none) := ⟨rfl, rfl, rfl, rfl⟩
theorem mX5_beginPage : am_mi 42 cX5_beginPage 5 1 (none) := ⟨rfl, rfl, rfl, rfl⟩
theorem mX5_carries : am_mi 43 cX5_carries 5 1 (some .boolean) := ⟨rfl, rfl, rfl, rfl⟩
theorem mX5_takeNotesOf : am_mi 44 cX5_takeNotesOf 5 4 (some .boolean) := ⟨rfl, rfl, rfl, rfl⟩
theorem mX5_findDealing : am_mi 45 cX5_findDealing 5 3 (some .boolean) := ⟨rfl, rfl, rfl, rfl⟩
theorem mX5_dealings : am_mi 46 cX5_dealings 5 1 (some .int) := ⟨rfl, rfl, rfl, rfl⟩
theorem mX5_deal : am_mi 47 cX5_deal 5 6 (none) := ⟨rfl, rfl, rfl, rfl⟩
theorem mX5_setBest : am_mi 48 cX5_setBest 5 8 (some .int) := ⟨rfl, rfl, rfl, rfl⟩
theorem mX6_init : am_mi 49 cX6_init 6 1 (none) := ⟨rfl, rfl, rfl, rfl⟩
theorem mX6_status : am_mi 50 cX6_status 6 1 (some .int) := ⟨rfl, rfl, rfl, rfl⟩
theorem mX6_page : am_mi 51 cX6_page 6 3 (some .boolean) := ⟨rfl, rfl, rfl, rfl⟩
theorem mX6_line : am_mi 52 cX6_line 6 2 (some .int) := ⟨rfl, rfl, rfl, rfl⟩
theorem mX6_change : am_mi 53 cX6_change 6 3 (some .boolean) := ⟨rfl, rfl, rfl, rfl⟩
theorem mX6_note : am_mi 54 cX6_note 6 7 (some .int) := ⟨rfl, rfl, rfl, rfl⟩
theorem mX6_answer : am_mi 55 cX6_answer 6 4 (some .int) := ⟨rfl, rfl, rfl, rfl⟩
theorem mX6_cut : am_mi 56 cX6_cut 6 4 (some .int) := ⟨rfl, rfl, rfl, rfl⟩
theorem mX6_cutting : am_mi 57 cX6_cutting 6 2 (some .boolean) := ⟨rfl, rfl, rfl, rfl⟩
theorem mX6_bind : am_mi 58 cX6_bind 6 4 (some .boolean) := ⟨rfl, rfl, rfl, rfl⟩
theorem mX6_fix : am_mi 59 cX6_fix 6 4 (some .boolean) := ⟨rfl, rfl, rfl, rfl⟩
theorem mX6_loose : am_mi 60 cX6_loose 6 3 (some .boolean) := ⟨rfl, rfl, rfl, rfl⟩
theorem mX6_move : am_mi 61 cX6_move 6 4 (some .boolean) := ⟨rfl, rfl, rfl, rfl⟩
theorem mX6_show : am_mi 62 cX6_show 6 2 (some .boolean) := ⟨rfl, rfl, rfl, rfl⟩
theorem mX6_keep : am_mi 63 cX6_keep 6 2 (some .boolean) := ⟨rfl, rfl, rfl, rfl⟩
theorem mX6_told : am_mi 64 cX6_told 6 4 (some .int) := ⟨rfl, rfl, rfl, rfl⟩
theorem mX6_pages : am_mi 65 cX6_pages 6 1 (some .int) := ⟨rfl, rfl, rfl, rfl⟩
theorem mX6_pageOf : am_mi 66 cX6_pageOf 6 3 (some .int) := ⟨rfl, rfl, rfl, rfl⟩
theorem mX6_top : am_mi 67 cX6_top 6 3 (some .int) := ⟨rfl, rfl, rfl, rfl⟩
theorem mX6_side : am_mi 68 cX6_side 6 4 (some .int) := ⟨rfl, rfl, rfl, rfl⟩
theorem mX6_place : am_mi 69 cX6_place 6 4 (some .int) := ⟨rfl, rfl, rfl, rfl⟩
theorem mX6_rest : am_mi 70 cX6_rest 6 4 (some .int) := ⟨rfl, rfl, rfl, rfl⟩
theorem mX6_column : am_mi 71 cX6_column 6 5 (some .int) := ⟨rfl, rfl, rfl, rfl⟩
theorem mX6_bracket : am_mi 72 cX6_bracket 6 6 (some .int) := ⟨rfl, rfl, rfl, rfl⟩
theorem mX6_cost : am_mi 73 cX6_cost 6 3 (some .int) := ⟨rfl, rfl, rfl, rfl⟩
theorem mX6_runs : am_mi 74 cX6_runs 6 4 (some .int) := ⟨rfl, rfl, rfl, rfl⟩
theorem mX6_moved : am_mi 75 cX6_moved 6 3 (some .int) := ⟨rfl, rfl, rfl, rfl⟩
theorem mX6_faultOfLine : am_mi 76 cX6_faultOfLine 6 2 (some .int) := ⟨rfl, rfl, rfl, rfl⟩
theorem mX6_faultOfNote : am_mi 77 cX6_faultOfNote 6 2 (some .int) := ⟨rfl, rfl, rfl, rfl⟩
theorem mX6_faultOfPage : am_mi 78 cX6_faultOfPage 6 2 (some .int) := ⟨rfl, rfl, rfl, rfl⟩
theorem mX6_faultOfBracket : am_mi 79 cX6_faultOfBracket 6 4 (some .int) := ⟨rfl, rfl, rfl, rfl⟩
theorem mX6_accept : am_mi 80 cX6_accept 6 1 (some .boolean) := ⟨rfl, rfl, rfl, rfl⟩
theorem mX6_refuse : am_mi 81 cX6_refuse 6 2 (some .boolean) := ⟨rfl, rfl, rfl, rfl⟩
theorem mX6_give : am_mi 82 cX6_give 6 2 (some .int) := ⟨rfl, rfl, rfl, rfl⟩
theorem mX6_none : am_mi 83 cX6_none 6 2 (some .int) := ⟨rfl, rfl, rfl, rfl⟩
theorem mX6_within : am_mi 84 cX6_within 6 3 (some .boolean) := ⟨rfl, rfl, rfl, rfl⟩
theorem mX6_isLineHeight : am_mi 85 cX6_isLineHeight 6 1 (some .boolean) := ⟨rfl, rfl, rfl, rfl⟩
theorem mX6_isNoteHeight : am_mi 86 cX6_isNoteHeight 6 1 (some .boolean) := ⟨rfl, rfl, rfl, rfl⟩
theorem mX7_init : am_mi 87 cX7_init 7 1 (none) := ⟨rfl, rfl, rfl, rfl⟩
theorem mX7_status : am_mi 88 cX7_status 7 1 (some .int) := ⟨rfl, rfl, rfl, rfl⟩
theorem mX7_refuse : am_mi 89 cX7_refuse 7 2 (some .int) := ⟨rfl, rfl, rfl, rfl⟩
theorem mX7_no : am_mi 90 cX7_no 7 2 (some .boolean) := ⟨rfl, rfl, rfl, rfl⟩
theorem mX7_done : am_mi 91 cX7_done 7 1 (some .boolean) := ⟨rfl, rfl, rfl, rfl⟩
theorem mX7_isLine : am_mi 92 cX7_isLine 7 2 (some .boolean) := ⟨rfl, rfl, rfl, rfl⟩
theorem mX7_isNote : am_mi 93 cX7_isNote 7 2 (some .boolean) := ⟨rfl, rfl, rfl, rfl⟩
theorem mX7_page : am_mi 94 cX7_page 7 3 (some .boolean) := ⟨rfl, rfl, rfl, rfl⟩
theorem mX7_line : am_mi 95 cX7_line 7 2 (some .int) := ⟨rfl, rfl, rfl, rfl⟩
theorem mX7_change : am_mi 96 cX7_change 7 3 (some .boolean) := ⟨rfl, rfl, rfl, rfl⟩
theorem mX7_note : am_mi 97 cX7_note 7 6 (some .int) := ⟨rfl, rfl, rfl, rfl⟩
theorem mX7_answer : am_mi 98 cX7_answer 7 3 (some .int) := ⟨rfl, rfl, rfl, rfl⟩
theorem mX7_cut : am_mi 99 cX7_cut 7 4 (some .int) := ⟨rfl, rfl, rfl, rfl⟩
theorem mX7_cutting : am_mi 100 cX7_cutting 7 2 (some .boolean) := ⟨rfl, rfl, rfl, rfl⟩
theorem mX7_bind : am_mi 101 cX7_bind 7 3 (some .boolean) := ⟨rfl, rfl, rfl, rfl⟩
theorem mX7_fix : am_mi 102 cX7_fix 7 3 (some .boolean) := ⟨rfl, rfl, rfl, rfl⟩
theorem mX7_loose : am_mi 103 cX7_loose 7 2 (some .boolean) := ⟨rfl, rfl, rfl, rfl⟩
theorem mX7_move : am_mi 104 cX7_move 7 3 (some .boolean) := ⟨rfl, rfl, rfl, rfl⟩
theorem mX7_show : am_mi 105 cX7_show 7 2 (some .boolean) := ⟨rfl, rfl, rfl, rfl⟩
theorem mX7_keep : am_mi 106 cX7_keep 7 2 (some .boolean) := ⟨rfl, rfl, rfl, rfl⟩
theorem mX7_isShown : am_mi 107 cX7_isShown 7 2 (some .boolean) := ⟨rfl, rfl, rfl, rfl⟩
theorem mX7_tallOf : am_mi 108 cX7_tallOf 7 2 (some .int) := ⟨rfl, rfl, rfl, rfl⟩
theorem mX7_told : am_mi 109 cX7_told 7 3 (some .int) := ⟨rfl, rfl, rfl, rfl⟩
theorem mX7_gather : am_mi 110 cX7_gather 7 6 (some .int) := ⟨rfl, rfl, rfl, rfl⟩
theorem mX7_sides : am_mi 111 cX7_sides 7 5 (none) := ⟨rfl, rfl, rfl, rfl⟩
theorem mX7_rowOf : am_mi 112 cX7_rowOf 7 3 (none) := ⟨rfl, rfl, rfl, rfl⟩
theorem mX7_choices : am_mi 113 cX7_choices 7 2 (some .int) := ⟨rfl, rfl, rfl, rfl⟩
theorem mX7_tall : am_mi 114 cX7_tall 7 5 (some .int) := ⟨rfl, rfl, rfl, rfl⟩
theorem mX7_stands : am_mi 115 cX7_stands 7 7 (some .boolean) := ⟨rfl, rfl, rfl, rfl⟩
theorem mX7_isHeld : am_mi 116 cX7_isHeld 7 8 (some .boolean) := ⟨rfl, rfl, rfl, rfl⟩
theorem mX7_canStand : am_mi 117 cX7_canStand 7 5 (some .boolean) := ⟨rfl, rfl, rfl, rfl⟩
theorem mX7_costs : am_mi 118 cX7_costs 7 13 (some .long) := ⟨rfl, rfl, rfl, rfl⟩
theorem mX7_own : am_mi 119 cX7_own 7 3 (some .long) := ⟨rfl, rfl, rfl, rfl⟩
theorem mX7_sets : am_mi 120 cX7_sets 7 16 (none) := ⟨rfl, rfl, rfl, rfl⟩
theorem mX7_places : am_mi 121 cX7_places 7 11 (none) := ⟨rfl, rfl, rfl, rfl⟩
theorem mX7_isAt : am_mi 122 cX7_isAt 7 11 (some .boolean) := ⟨rfl, rfl, rfl, rfl⟩
theorem mX7_setAll : am_mi 123 cX7_setAll 7 8 (none) := ⟨rfl, rfl, rfl, rfl⟩
theorem mX7_lacks : am_mi 124 cX7_lacks 7 1 (some .boolean) := ⟨rfl, rfl, rfl, rfl⟩
theorem mX7_pages : am_mi 125 cX7_pages 7 1 (some .int) := ⟨rfl, rfl, rfl, rfl⟩
theorem mX7_pageOf : am_mi 126 cX7_pageOf 7 2 (some .int) := ⟨rfl, rfl, rfl, rfl⟩
theorem mX7_top : am_mi 127 cX7_top 7 2 (some .int) := ⟨rfl, rfl, rfl, rfl⟩
theorem mX7_asked : am_mi 128 cX7_asked 7 2 (some .int) := ⟨rfl, rfl, rfl, rfl⟩
theorem mX7_side : am_mi 129 cX7_side 7 2 (some .int) := ⟨rfl, rfl, rfl, rfl⟩
theorem mX7_place : am_mi 130 cX7_place 7 2 (some .int) := ⟨rfl, rfl, rfl, rfl⟩
theorem mX7_rest : am_mi 131 cX7_rest 7 2 (some .int) := ⟨rfl, rfl, rfl, rfl⟩
theorem mX7_brackets : am_mi 132 cX7_brackets 7 8 (none) := ⟨rfl, rfl, rfl, rfl⟩
theorem mX7_isMet : am_mi 133 cX7_isMet 7 5 (some .boolean) := ⟨rfl, rfl, rfl, rfl⟩
theorem mX7_bracketed : am_mi 134 cX7_bracketed 7 4 (some .int) := ⟨rfl, rfl, rfl, rfl⟩
theorem mX7_column : am_mi 135 cX7_column 7 3 (some .int) := ⟨rfl, rfl, rfl, rfl⟩
theorem mX7_bracket : am_mi 136 cX7_bracket 7 4 (some .int) := ⟨rfl, rfl, rfl, rfl⟩
theorem mX7_cost : am_mi 137 cX7_cost 7 2 (some .int) := ⟨rfl, rfl, rfl, rfl⟩
theorem mX7_runs : am_mi 138 cX7_runs 7 7 (some .int) := ⟨rfl, rfl, rfl, rfl⟩
theorem mX7_moved : am_mi 139 cX7_moved 7 4 (some .int) := ⟨rfl, rfl, rfl, rfl⟩
theorem mL_law : am_mi 140 cL_law 8 4 (some .boolean) := ⟨rfl, rfl, rfl, rfl⟩
theorem f0_9 : am_fls.lookup (0, 9) = some ((0, 0), 73) := by decide +kernel
theorem f0_17 : am_fls.lookup (0, 17) = some ((0, 1), 76) := by decide +kernel
theorem f0_21 : am_fls.lookup (0, 21) = some ((0, 4), 84) := by decide +kernel
theorem f0_25 : am_fls.lookup (0, 25) = some ((0, 5), 88) := by decide +kernel
theorem f0_28 : am_fls.lookup (0, 28) = some ((0, 6), 92) := by decide +kernel
theorem f0_31 : am_fls.lookup (0, 31) = some ((0, 7), 95) := by decide +kernel
theorem f0_34 : am_fls.lookup (0, 34) = some ((0, 2), 78) := by decide +kernel
theorem f0_37 : am_fls.lookup (0, 37) = some ((0, 3), 82) := by decide +kernel
theorem f0_40 : am_fls.lookup (0, 40) = some ((3, 3), 355) := by decide +kernel
theorem f0_43 : am_fls.lookup (0, 43) = some ((0, 8), 97) := by decide +kernel
theorem f1_9 : am_fls.lookup (1, 9) = some ((1, 0), 227) := by decide +kernel
theorem f1_15 : am_fls.lookup (1, 15) = some ((1, 1), 229) := by decide +kernel
theorem f1_18 : am_fls.lookup (1, 18) = some ((1, 2), 231) := by decide +kernel
theorem f1_21 : am_fls.lookup (1, 21) = some ((1, 4), 235) := by decide +kernel
theorem f1_25 : am_fls.lookup (1, 25) = some ((1, 5), 237) := by decide +kernel
theorem f1_28 : am_fls.lookup (1, 28) = some ((1, 6), 239) := by decide +kernel
theorem f1_31 : am_fls.lookup (1, 31) = some ((1, 7), 240) := by decide +kernel
theorem f1_34 : am_fls.lookup (1, 34) = some ((1, 8), 241) := by decide +kernel
theorem f1_37 : am_fls.lookup (1, 37) = some ((1, 9), 242) := by decide +kernel
theorem f1_42 : am_fls.lookup (1, 42) = some ((1, 10), 243) := by decide +kernel
theorem f1_48 : am_fls.lookup (1, 48) = some ((1, 12), 245) := by decide +kernel
theorem f1_52 : am_fls.lookup (1, 52) = some ((1, 11), 244) := by decide +kernel
theorem f1_61 : am_fls.lookup (1, 61) = some ((1, 13), 246) := by decide +kernel
theorem f1_65 : am_fls.lookup (1, 65) = some ((1, 3), 233) := by decide +kernel
theorem f1_76 : am_fls.lookup (1, 76) = some ((0, 2), 79) := by decide +kernel
theorem f1_96 : am_fls.lookup (1, 96) = some ((0, 0), 74) := by decide +kernel
theorem f1_99 : am_fls.lookup (1, 99) = some ((0, 4), 86) := by decide +kernel
theorem f1_106 : am_fls.lookup (1, 106) = some ((5, 2), 206) := by decide +kernel
theorem f1_109 : am_fls.lookup (1, 109) = some ((5, 3), 208) := by decide +kernel
theorem f1_112 : am_fls.lookup (1, 112) = some ((5, 0), 202) := by decide +kernel
theorem f1_116 : am_fls.lookup (1, 116) = some ((2, 11), 171) := by decide +kernel
theorem f1_120 : am_fls.lookup (1, 120) = some ((5, 1), 204) := by decide +kernel
theorem f1_123 : am_fls.lookup (1, 123) = some ((4, 0), 136) := by decide +kernel
theorem f1_127 : am_fls.lookup (1, 127) = some ((3, 6), 365) := by decide +kernel
theorem f1_132 : am_fls.lookup (1, 132) = some ((3, 11), 378) := by decide +kernel
theorem f1_145 : am_fls.lookup (1, 145) = some ((0, 5), 91) := by decide +kernel
theorem f1_148 : am_fls.lookup (1, 148) = some ((3, 12), 380) := by decide +kernel
theorem f1_151 : am_fls.lookup (1, 151) = some ((3, 13), 383) := by decide +kernel
theorem f1_154 : am_fls.lookup (1, 154) = some ((3, 8), 370) := by decide +kernel
theorem f1_157 : am_fls.lookup (1, 157) = some ((3, 10), 376) := by decide +kernel
theorem f1_180 : am_fls.lookup (1, 180) = some ((4, 1), 139) := by decide +kernel
theorem f1_187 : am_fls.lookup (1, 187) = some ((3, 15), 388) := by decide +kernel
theorem f2_11 : am_fls.lookup (2, 11) = some ((2, 2), 160) := by decide +kernel
theorem f2_17 : am_fls.lookup (2, 17) = some ((2, 3), 161) := by decide +kernel
theorem f2_21 : am_fls.lookup (2, 21) = some ((2, 4), 162) := by decide +kernel
theorem f2_24 : am_fls.lookup (2, 24) = some ((2, 5), 163) := by decide +kernel
theorem f2_27 : am_fls.lookup (2, 27) = some ((2, 6), 164) := by decide +kernel
theorem f2_30 : am_fls.lookup (2, 30) = some ((2, 7), 165) := by decide +kernel
theorem f2_33 : am_fls.lookup (2, 33) = some ((2, 0), 158) := by decide +kernel
theorem f2_37 : am_fls.lookup (2, 37) = some ((2, 1), 159) := by decide +kernel
theorem f2_41 : am_fls.lookup (2, 41) = some ((2, 9), 167) := by decide +kernel
theorem f2_44 : am_fls.lookup (2, 44) = some ((2, 11), 170) := by decide +kernel
theorem f2_47 : am_fls.lookup (2, 47) = some ((0, 5), 89) := by decide +kernel
theorem f2_52 : am_fls.lookup (2, 52) = some ((2, 10), 168) := by decide +kernel
theorem f2_55 : am_fls.lookup (2, 55) = some ((3, 8), 369) := by decide +kernel
theorem f2_62 : am_fls.lookup (2, 62) = some ((3, 9), 373) := by decide +kernel
theorem f2_65 : am_fls.lookup (2, 65) = some ((0, 4), 87) := by decide +kernel
theorem f2_72 : am_fls.lookup (2, 72) = some ((3, 5), 360) := by decide +kernel
theorem f2_75 : am_fls.lookup (2, 75) = some ((3, 4), 358) := by decide +kernel
theorem f2_82 : am_fls.lookup (2, 82) = some ((2, 12), 172) := by decide +kernel
theorem f2_89 : am_fls.lookup (2, 89) = some ((0, 6), 93) := by decide +kernel
theorem f2_98 : am_fls.lookup (2, 98) = some ((3, 12), 381) := by decide +kernel
theorem f2_101 : am_fls.lookup (2, 101) = some ((3, 13), 384) := by decide +kernel
theorem f2_104 : am_fls.lookup (2, 104) = some ((3, 14), 386) := by decide +kernel
theorem f2_107 : am_fls.lookup (2, 107) = some ((3, 0), 346) := by decide +kernel
theorem f2_112 : am_fls.lookup (2, 112) = some ((2, 8), 166) := by decide +kernel
theorem f2_115 : am_fls.lookup (2, 115) = some ((3, 11), 379) := by decide +kernel
theorem f2_121 : am_fls.lookup (2, 121) = some ((3, 1), 349) := by decide +kernel
theorem f3_9 : am_fls.lookup (3, 9) = some ((3, 4), 357) := by decide +kernel
theorem f3_15 : am_fls.lookup (3, 15) = some ((3, 9), 372) := by decide +kernel
theorem f3_19 : am_fls.lookup (3, 19) = some ((3, 10), 375) := by decide +kernel
theorem f3_22 : am_fls.lookup (3, 22) = some ((3, 6), 362) := by decide +kernel
theorem f3_25 : am_fls.lookup (3, 25) = some ((3, 0), 345) := by decide +kernel
theorem f3_28 : am_fls.lookup (3, 28) = some ((3, 1), 348) := by decide +kernel
theorem f3_31 : am_fls.lookup (3, 31) = some ((3, 2), 351) := by decide +kernel
theorem f3_34 : am_fls.lookup (3, 34) = some ((3, 3), 354) := by decide +kernel
theorem f3_37 : am_fls.lookup (3, 37) = some ((3, 8), 368) := by decide +kernel
theorem f3_40 : am_fls.lookup (3, 40) = some ((3, 5), 359) := by decide +kernel
theorem f4_11 : am_fls.lookup (4, 11) = some ((4, 0), 134) := by decide +kernel
theorem f4_17 : am_fls.lookup (4, 17) = some ((4, 1), 137) := by decide +kernel
theorem f4_21 : am_fls.lookup (4, 21) = some ((0, 3), 81) := by decide +kernel
theorem f4_26 : am_fls.lookup (4, 26) = some ((0, 1), 77) := by decide +kernel
theorem f4_35 : am_fls.lookup (4, 35) = some ((3, 6), 363) := by decide +kernel
theorem f5_9 : am_fls.lookup (5, 9) = some ((5, 4), 209) := by decide +kernel
theorem f5_20 : am_fls.lookup (5, 20) = some ((5, 0), 201) := by decide +kernel
theorem f5_24 : am_fls.lookup (5, 24) = some ((5, 1), 203) := by decide +kernel
theorem f5_27 : am_fls.lookup (5, 27) = some ((2, 11), 169) := by decide +kernel
theorem f5_31 : am_fls.lookup (5, 31) = some ((5, 3), 207) := by decide +kernel
theorem f5_34 : am_fls.lookup (5, 34) = some ((5, 2), 205) := by decide +kernel
theorem f5_37 : am_fls.lookup (5, 37) = some ((5, 5), 210) := by decide +kernel
theorem f5_40 : am_fls.lookup (5, 40) = some ((5, 6), 211) := by decide +kernel
theorem f5_43 : am_fls.lookup (5, 43) = some ((4, 1), 138) := by decide +kernel
theorem f5_48 : am_fls.lookup (5, 48) = some ((4, 0), 135) := by decide +kernel
theorem f5_52 : am_fls.lookup (5, 52) = some ((3, 6), 364) := by decide +kernel
theorem f5_57 : am_fls.lookup (5, 57) = some ((3, 2), 352) := by decide +kernel
theorem f5_88 : am_fls.lookup (5, 88) = some ((2, 12), 173) := by decide +kernel
theorem f6_12 : am_fls.lookup (6, 12) = some ((6, 0), 276) := by decide +kernel
theorem f6_21 : am_fls.lookup (6, 21) = some ((6, 1), 277) := by decide +kernel
theorem f6_25 : am_fls.lookup (6, 25) = some ((6, 2), 278) := by decide +kernel
theorem f6_37 : am_fls.lookup (6, 37) = some ((0, 4), 85) := by decide +kernel
theorem f6_40 : am_fls.lookup (6, 40) = some ((0, 5), 90) := by decide +kernel
theorem f6_54 : am_fls.lookup (6, 54) = some ((0, 2), 80) := by decide +kernel
theorem f6_66 : am_fls.lookup (6, 66) = some ((0, 0), 75) := by decide +kernel
theorem f6_73 : am_fls.lookup (6, 73) = some ((0, 3), 83) := by decide +kernel
theorem f6_89 : am_fls.lookup (6, 89) = some ((3, 7), 367) := by decide +kernel
theorem f6_92 : am_fls.lookup (6, 92) = some ((3, 5), 361) := by decide +kernel
theorem f6_95 : am_fls.lookup (6, 95) = some ((3, 8), 371) := by decide +kernel
theorem f6_98 : am_fls.lookup (6, 98) = some ((3, 0), 347) := by decide +kernel
theorem f6_106 : am_fls.lookup (6, 106) = some ((0, 6), 94) := by decide +kernel
theorem f6_109 : am_fls.lookup (6, 109) = some ((3, 6), 366) := by decide +kernel
theorem f6_112 : am_fls.lookup (6, 112) = some ((3, 10), 377) := by decide +kernel
theorem f6_115 : am_fls.lookup (6, 115) = some ((3, 9), 374) := by decide +kernel
theorem f6_121 : am_fls.lookup (6, 121) = some ((0, 7), 96) := by decide +kernel
theorem f6_124 : am_fls.lookup (6, 124) = some ((0, 8), 98) := by decide +kernel
theorem f6_128 : am_fls.lookup (6, 128) = some ((3, 1), 350) := by decide +kernel
theorem f6_131 : am_fls.lookup (6, 131) = some ((3, 2), 353) := by decide +kernel
theorem f6_134 : am_fls.lookup (6, 134) = some ((3, 3), 356) := by decide +kernel
theorem f6_144 : am_fls.lookup (6, 144) = some ((1, 4), 236) := by decide +kernel
theorem f6_147 : am_fls.lookup (6, 147) = some ((1, 3), 234) := by decide +kernel
theorem f6_153 : am_fls.lookup (6, 153) = some ((1, 0), 228) := by decide +kernel
theorem f6_156 : am_fls.lookup (6, 156) = some ((1, 1), 230) := by decide +kernel
theorem f6_162 : am_fls.lookup (6, 162) = some ((3, 12), 382) := by decide +kernel
theorem f6_165 : am_fls.lookup (6, 165) = some ((3, 13), 385) := by decide +kernel
theorem f6_168 : am_fls.lookup (6, 168) = some ((3, 14), 387) := by decide +kernel
theorem f6_187 : am_fls.lookup (6, 187) = some ((1, 2), 232) := by decide +kernel
theorem f6_204 : am_fls.lookup (6, 204) = some ((1, 5), 238) := by decide +kernel
theorem f7_7 : am_fls.lookup (7, 7) = some ((7, 2), 711) := by decide +kernel
theorem f7_13 : am_fls.lookup (7, 13) = some ((7, 3), 712) := by decide +kernel
theorem f7_16 : am_fls.lookup (7, 16) = some ((7, 4), 713) := by decide +kernel
theorem f7_19 : am_fls.lookup (7, 19) = some ((7, 5), 714) := by decide +kernel
theorem f7_22 : am_fls.lookup (7, 22) = some ((7, 9), 718) := by decide +kernel
theorem f7_26 : am_fls.lookup (7, 26) = some ((7, 10), 719) := by decide +kernel
theorem f7_29 : am_fls.lookup (7, 29) = some ((7, 11), 720) := by decide +kernel
theorem f7_32 : am_fls.lookup (7, 32) = some ((7, 12), 721) := by decide +kernel
theorem f7_35 : am_fls.lookup (7, 35) = some ((7, 13), 722) := by decide +kernel
theorem f7_38 : am_fls.lookup (7, 38) = some ((7, 14), 723) := by decide +kernel
theorem f7_41 : am_fls.lookup (7, 41) = some ((7, 15), 724) := by decide +kernel
theorem f7_44 : am_fls.lookup (7, 44) = some ((7, 16), 725) := by decide +kernel
theorem f7_47 : am_fls.lookup (7, 47) = some ((7, 17), 726) := by decide +kernel
theorem f7_50 : am_fls.lookup (7, 50) = some ((7, 18), 727) := by decide +kernel
theorem f7_53 : am_fls.lookup (7, 53) = some ((7, 19), 728) := by decide +kernel
theorem f7_56 : am_fls.lookup (7, 56) = some ((7, 20), 729) := by decide +kernel
theorem f7_59 : am_fls.lookup (7, 59) = some ((7, 24), 733) := by decide +kernel
theorem f7_62 : am_fls.lookup (7, 62) = some ((7, 25), 734) := by decide +kernel
theorem f7_65 : am_fls.lookup (7, 65) = some ((7, 26), 735) := by decide +kernel
theorem f7_68 : am_fls.lookup (7, 68) = some ((7, 27), 736) := by decide +kernel
theorem f7_72 : am_fls.lookup (7, 72) = some ((7, 28), 737) := by decide +kernel
theorem f7_75 : am_fls.lookup (7, 75) = some ((7, 29), 738) := by decide +kernel
theorem f7_78 : am_fls.lookup (7, 78) = some ((7, 30), 739) := by decide +kernel
theorem f7_81 : am_fls.lookup (7, 81) = some ((7, 31), 740) := by decide +kernel
theorem f7_84 : am_fls.lookup (7, 84) = some ((7, 32), 741) := by decide +kernel
theorem f7_87 : am_fls.lookup (7, 87) = some ((7, 33), 742) := by decide +kernel
theorem f7_90 : am_fls.lookup (7, 90) = some ((7, 34), 743) := by decide +kernel
theorem f7_93 : am_fls.lookup (7, 93) = some ((7, 35), 744) := by decide +kernel
theorem f7_96 : am_fls.lookup (7, 96) = some ((7, 36), 745) := by decide +kernel
theorem f7_99 : am_fls.lookup (7, 99) = some ((7, 37), 746) := by decide +kernel
theorem f7_102 : am_fls.lookup (7, 102) = some ((7, 38), 747) := by decide +kernel
theorem f7_105 : am_fls.lookup (7, 105) = some ((7, 41), 750) := by decide +kernel
theorem f7_108 : am_fls.lookup (7, 108) = some ((7, 42), 751) := by decide +kernel
theorem f7_111 : am_fls.lookup (7, 111) = some ((7, 43), 752) := by decide +kernel
theorem f7_114 : am_fls.lookup (7, 114) = some ((7, 44), 753) := by decide +kernel
theorem f7_117 : am_fls.lookup (7, 117) = some ((7, 45), 754) := by decide +kernel
theorem f7_120 : am_fls.lookup (7, 120) = some ((7, 46), 755) := by decide +kernel
theorem f7_123 : am_fls.lookup (7, 123) = some ((7, 1), 710) := by decide +kernel
theorem f7_126 : am_fls.lookup (7, 126) = some ((7, 0), 709) := by decide +kernel
theorem f7_129 : am_fls.lookup (7, 129) = some ((7, 21), 730) := by decide +kernel
theorem f7_133 : am_fls.lookup (7, 133) = some ((7, 7), 716) := by decide +kernel
theorem f7_136 : am_fls.lookup (7, 136) = some ((7, 8), 717) := by decide +kernel
theorem f7_157 : am_fls.lookup (7, 157) = some ((7, 6), 715) := by decide +kernel
theorem f7_166 : am_fls.lookup (7, 166) = some ((7, 39), 748) := by decide +kernel
theorem f7_169 : am_fls.lookup (7, 169) = some ((7, 40), 749) := by decide +kernel
theorem f7_223 : am_fls.lookup (7, 223) = some ((7, 22), 731) := by decide +kernel
theorem f7_226 : am_fls.lookup (7, 226) = some ((7, 23), 732) := by decide +kernel
theorem l0_47 : am_mls.lookup (0, 47) = some (5, 0, 502) := by decide +kernel
theorem lo0_47 : am_ois.lookup (0, 47) = none := by decide +kernel
theorem lm0_47 : am_mts.lookup (0, 47) = none := by decide +kernel
theorem l1_47 : am_mls.lookup (1, 47) = some (37, 1, 129) := by decide +kernel
theorem lo1_47 : am_ois.lookup (1, 47) = none := by decide +kernel
theorem lm1_47 : am_mts.lookup (1, 47) = none := by decide +kernel
theorem l1_58 : am_mls.lookup (1, 58) = some (40, 0, 147) := by decide +kernel
theorem lo1_58 : am_ois.lookup (1, 58) = none := by decide +kernel
theorem lm1_58 : am_mts.lookup (1, 58) = none := by decide +kernel
theorem l1_69 : am_mls.lookup (1, 69) = some (38, 0, 494) := by decide +kernel
theorem lo1_69 : am_ois.lookup (1, 69) = none := by decide +kernel
theorem lm1_69 : am_mts.lookup (1, 69) = none := by decide +kernel
theorem l1_73 : am_mls.lookup (1, 73) = some (41, 0, 507) := by decide +kernel
theorem lo1_73 : am_ois.lookup (1, 73) = none := by decide +kernel
theorem lm1_73 : am_mts.lookup (1, 73) = none := by decide +kernel
theorem l1_81 : am_mls.lookup (1, 81) = some (43, 0, 511) := by decide +kernel
theorem lo1_81 : am_ois.lookup (1, 81) = none := by decide +kernel
theorem lm1_81 : am_mts.lookup (1, 81) = none := by decide +kernel
theorem l1_85 : am_mls.lookup (1, 85) = some (42, 0, 515) := by decide +kernel
theorem lo1_85 : am_ois.lookup (1, 85) = none := by decide +kernel
theorem lm1_85 : am_mts.lookup (1, 85) = none := by decide +kernel
theorem l1_88 : am_mls.lookup (1, 88) = some (10, 0, 519) := by decide +kernel
theorem lo1_88 : am_ois.lookup (1, 88) = none := by decide +kernel
theorem lm1_88 : am_mts.lookup (1, 88) = none := by decide +kernel
theorem l1_92 : am_mls.lookup (1, 92) = some (11, 0, 560) := by decide +kernel
theorem lo1_92 : am_ois.lookup (1, 92) = none := by decide +kernel
theorem lm1_92 : am_mts.lookup (1, 92) = none := by decide +kernel
theorem l1_102 : am_mls.lookup (1, 102) = some (44, 0, 523) := by decide +kernel
theorem lo1_102 : am_ois.lookup (1, 102) = none := by decide +kernel
theorem lm1_102 : am_mts.lookup (1, 102) = none := by decide +kernel
theorem l1_134 : am_mls.lookup (1, 134) = some (48, 0, 564) := by decide +kernel
theorem lo1_134 : am_ois.lookup (1, 134) = none := by decide +kernel
theorem lm1_134 : am_mts.lookup (1, 134) = none := by decide +kernel
theorem l1_138 : am_mls.lookup (1, 138) = some (9, 0, 643) := by decide +kernel
theorem lo1_138 : am_ois.lookup (1, 138) = none := by decide +kernel
theorem lm1_138 : am_mts.lookup (1, 138) = none := by decide +kernel
theorem l1_141 : am_mls.lookup (1, 141) = some (84, 1, 694) := by decide +kernel
theorem lo1_141 : am_ois.lookup (1, 141) = none := by decide +kernel
theorem lm1_141 : am_mts.lookup (1, 141) = none := by decide +kernel
theorem l1_160 : am_mls.lookup (1, 160) = some (17, 0, 644) := by decide +kernel
theorem lo1_160 : am_ois.lookup (1, 160) = none := by decide +kernel
theorem lm1_160 : am_mts.lookup (1, 160) = none := by decide +kernel
theorem l1_164 : am_mls.lookup (1, 164) = some (18, 0, 649) := by decide +kernel
theorem lo1_164 : am_ois.lookup (1, 164) = none := by decide +kernel
theorem lm1_164 : am_mts.lookup (1, 164) = none := by decide +kernel
theorem l1_167 : am_mls.lookup (1, 167) = some (14, 0, 658) := by decide +kernel
theorem lo1_167 : am_ois.lookup (1, 167) = none := by decide +kernel
theorem lm1_167 : am_mts.lookup (1, 167) = none := by decide +kernel
theorem l1_181 : am_mls.lookup (1, 181) = some (20, 0, 659) := by decide +kernel
theorem lo1_181 : am_ois.lookup (1, 181) = none := by decide +kernel
theorem lm1_181 : am_mts.lookup (1, 181) = none := by decide +kernel
theorem l1_184 : am_mls.lookup (1, 184) = some (21, 0, 663) := by decide +kernel
theorem lo1_184 : am_ois.lookup (1, 184) = none := by decide +kernel
theorem lm1_184 : am_mts.lookup (1, 184) = none := by decide +kernel
theorem l2_58 : am_mls.lookup (2, 58) = some (33, 0, 551) := by decide +kernel
theorem lo2_58 : am_ois.lookup (2, 58) = none := by decide +kernel
theorem lm2_58 : am_mts.lookup (2, 58) = none := by decide +kernel
theorem l2_68 : am_mls.lookup (2, 68) = some (26, 0, 552) := by decide +kernel
theorem lo2_68 : am_ois.lookup (2, 68) = none := by decide +kernel
theorem lm2_68 : am_mts.lookup (2, 68) = none := by decide +kernel
theorem l2_78 : am_mls.lookup (2, 78) = some (34, 0, 556) := by decide +kernel
theorem lo2_78 : am_ois.lookup (2, 78) = none := by decide +kernel
theorem lm2_78 : am_mts.lookup (2, 78) = none := by decide +kernel
theorem l2_85 : am_mls.lookup (2, 85) = some (29, 0, 573) := by decide +kernel
theorem lo2_85 : am_ois.lookup (2, 85) = none := by decide +kernel
theorem lm2_85 : am_mts.lookup (2, 85) = none := by decide +kernel
theorem l2_108 : am_mls.lookup (2, 108) = some (30, 0, 577) := by decide +kernel
theorem lo2_108 : am_ois.lookup (2, 108) = none := by decide +kernel
theorem lm2_108 : am_mts.lookup (2, 108) = none := by decide +kernel
theorem l2_128 : am_mls.lookup (2, 128) = some (31, 0, 590) := by decide +kernel
theorem lo2_128 : am_ois.lookup (2, 128) = none := by decide +kernel
theorem lm2_128 : am_mts.lookup (2, 128) = none := by decide +kernel
theorem l4_27 : am_mls.lookup (4, 27) = some (6, 0, 498) := by decide +kernel
theorem lo4_27 : am_ois.lookup (4, 27) = none := by decide +kernel
theorem lm4_27 : am_mts.lookup (4, 27) = none := by decide +kernel
theorem l4_31 : am_mls.lookup (4, 31) = some (39, 0, 503) := by decide +kernel
theorem lo4_31 : am_ois.lookup (4, 31) = none := by decide +kernel
theorem lm4_31 : am_mts.lookup (4, 31) = none := by decide +kernel
theorem l5_17 : am_mls.lookup (5, 17) = some (22, 0, 153) := by decide +kernel
theorem lo5_17 : am_ois.lookup (5, 17) = none := by decide +kernel
theorem lm5_17 : am_mts.lookup (5, 17) = none := by decide +kernel
theorem l5_60 : am_mls.lookup (5, 60) = some (45, 0, 527) := by decide +kernel
theorem lo5_60 : am_ois.lookup (5, 60) = none := by decide +kernel
theorem lm5_60 : am_mts.lookup (5, 60) = none := by decide +kernel
theorem l5_64 : am_mls.lookup (5, 64) = some (46, 0, 531) := by decide +kernel
theorem lo5_64 : am_ois.lookup (5, 64) = none := by decide +kernel
theorem lm5_64 : am_mts.lookup (5, 64) = none := by decide +kernel
theorem l5_68 : am_mls.lookup (5, 68) = some (47, 0, 535) := by decide +kernel
theorem lo5_68 : am_ois.lookup (5, 68) = none := by decide +kernel
theorem lm5_68 : am_mts.lookup (5, 68) = none := by decide +kernel
theorem l5_72 : am_mls.lookup (5, 72) = some (25, 0, 547) := by decide +kernel
theorem lo5_72 : am_ois.lookup (5, 72) = none := by decide +kernel
theorem lm5_72 : am_mts.lookup (5, 72) = none := by decide +kernel
theorem l5_76 : am_mls.lookup (5, 76) = some (23, 0, 539) := by decide +kernel
theorem lo5_76 : am_ois.lookup (5, 76) = none := by decide +kernel
theorem lm5_76 : am_mts.lookup (5, 76) = none := by decide +kernel
theorem l5_79 : am_mls.lookup (5, 79) = some (24, 0, 543) := by decide +kernel
theorem lo5_79 : am_ois.lookup (5, 79) = none := by decide +kernel
theorem lm5_79 : am_mts.lookup (5, 79) = none := by decide +kernel
theorem l5_84 : am_mls.lookup (5, 84) = some (27, 0, 569) := by decide +kernel
theorem lo5_84 : am_ois.lookup (5, 84) = none := by decide +kernel
theorem lm5_84 : am_mts.lookup (5, 84) = none := by decide +kernel
theorem l5_91 : am_mls.lookup (5, 91) = some (28, 0, 594) := by decide +kernel
theorem lo5_91 : am_ois.lookup (5, 91) = none := by decide +kernel
theorem lm5_91 : am_mts.lookup (5, 91) = none := by decide +kernel
theorem l6_11 : am_mls.lookup (6, 11) = some (0, 1, 67) := by decide +kernel
theorem lo6_11 : am_ois.lookup (6, 11) = none := by decide +kernel
theorem lm6_11 : am_mts.lookup (6, 11) = none := by decide +kernel
theorem l6_18 : am_mls.lookup (6, 18) = some (7, 0, 121) := by decide +kernel
theorem lo6_18 : am_ois.lookup (6, 18) = none := by decide +kernel
theorem lm6_18 : am_mts.lookup (6, 18) = none := by decide +kernel
theorem l6_29 : am_mls.lookup (6, 29) = some (84, 0, 294) := by decide +kernel
theorem lo6_29 : am_ois.lookup (6, 29) = none := by decide +kernel
theorem lm6_29 : am_mts.lookup (6, 29) = none := by decide +kernel
theorem l6_33 : am_mls.lookup (6, 33) = some (81, 0, 297) := by decide +kernel
theorem lo6_33 : am_ois.lookup (6, 33) = none := by decide +kernel
theorem lm6_33 : am_mts.lookup (6, 33) = none := by decide +kernel
theorem l6_43 : am_mls.lookup (6, 43) = some (80, 0, 301) := by decide +kernel
theorem lo6_43 : am_ois.lookup (6, 43) = none := by decide +kernel
theorem lm6_43 : am_mts.lookup (6, 43) = none := by decide +kernel
theorem l6_47 : am_mls.lookup (6, 47) = some (85, 0, 309) := by decide +kernel
theorem lo6_47 : am_ois.lookup (6, 47) = none := by decide +kernel
theorem lm6_47 : am_mts.lookup (6, 47) = none := by decide +kernel
theorem l6_50 : am_mls.lookup (6, 50) = some (83, 0, 312) := by decide +kernel
theorem lo6_50 : am_ois.lookup (6, 50) = none := by decide +kernel
theorem lm6_50 : am_mts.lookup (6, 50) = none := by decide +kernel
theorem l6_57 : am_mls.lookup (6, 57) = some (1, 0, 316) := by decide +kernel
theorem lo6_57 : am_ois.lookup (6, 57) = none := by decide +kernel
theorem lm6_57 : am_mts.lookup (6, 57) = none := by decide +kernel
theorem l6_60 : am_mls.lookup (6, 60) = some (82, 0, 320) := by decide +kernel
theorem lo6_60 : am_ois.lookup (6, 60) = none := by decide +kernel
theorem lm6_60 : am_mts.lookup (6, 60) = none := by decide +kernel
theorem l6_63 : am_mls.lookup (6, 63) = some (3, 0, 328) := by decide +kernel
theorem lo6_63 : am_ois.lookup (6, 63) = none := by decide +kernel
theorem lm6_63 : am_mts.lookup (6, 63) = none := by decide +kernel
theorem l6_70 : am_mls.lookup (6, 70) = some (86, 0, 336) := by decide +kernel
theorem lo6_70 : am_ois.lookup (6, 70) = none := by decide +kernel
theorem lm6_70 : am_mts.lookup (6, 70) = none := by decide +kernel
theorem l6_78 : am_mls.lookup (6, 78) = some (32, 0, 341) := by decide +kernel
theorem lo6_78 : am_ois.lookup (6, 78) = none := by decide +kernel
theorem lm6_78 : am_mts.lookup (6, 78) = none := by decide +kernel
theorem l6_81 : am_mls.lookup (6, 81) = some (2, 0, 422) := by decide +kernel
theorem lo6_81 : am_ois.lookup (6, 81) = none := by decide +kernel
theorem lm6_81 : am_mts.lookup (6, 81) = none := by decide +kernel
theorem l6_85 : am_mls.lookup (6, 85) = some (4, 0, 430) := by decide +kernel
theorem lo6_85 : am_ois.lookup (6, 85) = none := by decide +kernel
theorem lm6_85 : am_mts.lookup (6, 85) = none := by decide +kernel
theorem l6_99 : am_mls.lookup (6, 99) = some (35, 0, 438) := by decide +kernel
theorem lo6_99 : am_ois.lookup (6, 99) = none := by decide +kernel
theorem lm6_99 : am_mts.lookup (6, 99) = none := by decide +kernel
theorem l6_102 : am_mls.lookup (6, 102) = some (36, 0, 442) := by decide +kernel
theorem lo6_102 : am_ois.lookup (6, 102) = none := by decide +kernel
theorem lm6_102 : am_mts.lookup (6, 102) = none := by decide +kernel
theorem l6_118 : am_mls.lookup (6, 118) = some (33, 0, 462) := by decide +kernel
theorem lo6_118 : am_ois.lookup (6, 118) = none := by decide +kernel
theorem lm6_118 : am_mts.lookup (6, 118) = none := by decide +kernel
theorem l6_137 : am_mls.lookup (6, 137) = some (5, 0, 482) := by decide +kernel
theorem lo6_137 : am_ois.lookup (6, 137) = none := by decide +kernel
theorem lm6_137 : am_mts.lookup (6, 137) = none := by decide +kernel
theorem l6_141 : am_mls.lookup (6, 141) = some (8, 0, 490) := by decide +kernel
theorem lo6_141 : am_ois.lookup (6, 141) = none := by decide +kernel
theorem lm6_141 : am_mts.lookup (6, 141) = none := by decide +kernel
theorem l6_150 : am_mls.lookup (6, 150) = some (76, 0, 603) := by decide +kernel
theorem lo6_150 : am_ois.lookup (6, 150) = none := by decide +kernel
theorem lm6_150 : am_mts.lookup (6, 150) = none := by decide +kernel
theorem l6_159 : am_mls.lookup (6, 159) = some (77, 0, 615) := by decide +kernel
theorem lo6_159 : am_ois.lookup (6, 159) = none := by decide +kernel
theorem lm6_159 : am_mts.lookup (6, 159) = none := by decide +kernel
theorem l6_171 : am_mls.lookup (6, 171) = some (79, 0, 631) := by decide +kernel
theorem lo6_171 : am_ois.lookup (6, 171) = none := by decide +kernel
theorem lm6_171 : am_mts.lookup (6, 171) = none := by decide +kernel
theorem l6_175 : am_mls.lookup (6, 175) = some (19, 0, 654) := by decide +kernel
theorem lo6_175 : am_ois.lookup (6, 175) = none := by decide +kernel
theorem lm6_175 : am_mts.lookup (6, 175) = none := by decide +kernel
theorem l6_178 : am_mls.lookup (6, 178) = some (16, 0, 670) := by decide +kernel
theorem lo6_178 : am_ois.lookup (6, 178) = none := by decide +kernel
theorem lm6_178 : am_mts.lookup (6, 178) = none := by decide +kernel
theorem l6_181 : am_mls.lookup (6, 181) = some (15, 0, 674) := by decide +kernel
theorem lo6_181 : am_ois.lookup (6, 181) = none := by decide +kernel
theorem lm6_181 : am_mts.lookup (6, 181) = none := by decide +kernel
theorem l6_184 : am_mls.lookup (6, 184) = some (78, 0, 682) := by decide +kernel
theorem lo6_184 : am_ois.lookup (6, 184) = none := by decide +kernel
theorem lm6_184 : am_mts.lookup (6, 184) = none := by decide +kernel
theorem l6_190 : am_mls.lookup (6, 190) = some (12, 0, 690) := by decide +kernel
theorem lo6_190 : am_ois.lookup (6, 190) = none := by decide +kernel
theorem lm6_190 : am_mts.lookup (6, 190) = none := by decide +kernel
theorem l6_194 : am_mls.lookup (6, 194) = some (13, 0, 699) := by decide +kernel
theorem lo6_194 : am_ois.lookup (6, 194) = none := by decide +kernel
theorem lm6_194 : am_mts.lookup (6, 194) = none := by decide +kernel
theorem l6_197 : am_mls.lookup (6, 197) = some (9, 0, 635) := by decide +kernel
theorem lo6_197 : am_ois.lookup (6, 197) = none := by decide +kernel
theorem lm6_197 : am_mts.lookup (6, 197) = none := by decide +kernel
theorem l6_200 : am_mls.lookup (6, 200) = some (14, 0, 639) := by decide +kernel
theorem lo6_200 : am_ois.lookup (6, 200) = none := by decide +kernel
theorem lm6_200 : am_mts.lookup (6, 200) = none := by decide +kernel
theorem l7_139 : am_mls.lookup (7, 139) = some (90, 0, 860) := by decide +kernel
theorem lo7_139 : am_ois.lookup (7, 139) = none := by decide +kernel
theorem lm7_139 : am_mts.lookup (7, 139) = none := by decide +kernel
theorem l7_143 : am_mls.lookup (7, 143) = some (91, 0, 864) := by decide +kernel
theorem lo7_143 : am_ois.lookup (7, 143) = none := by decide +kernel
theorem lm7_143 : am_mts.lookup (7, 143) = none := by decide +kernel
theorem l7_147 : am_mls.lookup (7, 147) = some (89, 0, 872) := by decide +kernel
theorem lo7_147 : am_ois.lookup (7, 147) = none := by decide +kernel
theorem lm7_147 : am_mts.lookup (7, 147) = none := by decide +kernel
theorem l7_151 : am_mls.lookup (7, 151) = some (92, 0, 880) := by decide +kernel
theorem lo7_151 : am_ois.lookup (7, 151) = none := by decide +kernel
theorem lm7_151 : am_mts.lookup (7, 151) = none := by decide +kernel
theorem l7_154 : am_mls.lookup (7, 154) = some (93, 0, 892) := by decide +kernel
theorem lo7_154 : am_ois.lookup (7, 154) = none := by decide +kernel
theorem lm7_154 : am_mts.lookup (7, 154) = none := by decide +kernel
theorem l7_160 : am_mls.lookup (7, 160) = some (108, 0, 932) := by decide +kernel
theorem lo7_160 : am_ois.lookup (7, 160) = none := by decide +kernel
theorem lm7_160 : am_mts.lookup (7, 160) = none := by decide +kernel
theorem l7_163 : am_mls.lookup (7, 163) = some (107, 0, 936) := by decide +kernel
theorem lo7_163 : am_ois.lookup (7, 163) = none := by decide +kernel
theorem lm7_163 : am_mts.lookup (7, 163) = none := by decide +kernel
theorem l7_172 : am_mls.lookup (7, 172) = some (114, 0, 980) := by decide +kernel
theorem lo7_172 : am_ois.lookup (7, 172) = none := by decide +kernel
theorem lm7_172 : am_mts.lookup (7, 172) = none := by decide +kernel
theorem l7_176 : am_mls.lookup (7, 176) = some (110, 0, 956) := by decide +kernel
theorem lo7_176 : am_ois.lookup (7, 176) = none := by decide +kernel
theorem lm7_176 : am_mts.lookup (7, 176) = none := by decide +kernel
theorem l7_179 : am_mls.lookup (7, 179) = some (111, 0, 960) := by decide +kernel
theorem lo7_179 : am_ois.lookup (7, 179) = none := by decide +kernel
theorem lm7_179 : am_mts.lookup (7, 179) = none := by decide +kernel
theorem l7_183 : am_mls.lookup (7, 183) = some (117, 0, 964) := by decide +kernel
theorem lo7_183 : am_ois.lookup (7, 183) = none := by decide +kernel
theorem lm7_183 : am_mts.lookup (7, 183) = none := by decide +kernel
theorem l7_187 : am_mls.lookup (7, 187) = some (112, 0, 968) := by decide +kernel
theorem lo7_187 : am_ois.lookup (7, 187) = none := by decide +kernel
theorem lm7_187 : am_mts.lookup (7, 187) = none := by decide +kernel
theorem l7_191 : am_mls.lookup (7, 191) = some (113, 0, 972) := by decide +kernel
theorem lo7_191 : am_ois.lookup (7, 191) = none := by decide +kernel
theorem lm7_191 : am_mts.lookup (7, 191) = none := by decide +kernel
theorem l7_195 : am_mls.lookup (7, 195) = some (115, 0, 976) := by decide +kernel
theorem lo7_195 : am_ois.lookup (7, 195) = none := by decide +kernel
theorem lm7_195 : am_mts.lookup (7, 195) = none := by decide +kernel
theorem l7_200 : am_mls.lookup (7, 200) = some (119, 0, 993) := by decide +kernel
theorem lo7_200 : am_ois.lookup (7, 200) = none := by decide +kernel
theorem lm7_200 : am_mts.lookup (7, 200) = none := by decide +kernel
theorem l7_213 : am_mls.lookup (7, 213) = some (118, 0, 989) := by decide +kernel
theorem lo7_213 : am_ois.lookup (7, 213) = none := by decide +kernel
theorem lm7_213 : am_mts.lookup (7, 213) = none := by decide +kernel
theorem l7_216 : am_mls.lookup (7, 216) = some (121, 0, 1001) := by decide +kernel
theorem lo7_216 : am_ois.lookup (7, 216) = none := by decide +kernel
theorem lm7_216 : am_mts.lookup (7, 216) = none := by decide +kernel
theorem l7_219 : am_mls.lookup (7, 219) = some (122, 0, 1005) := by decide +kernel
theorem lo7_219 : am_ois.lookup (7, 219) = none := by decide +kernel
theorem lm7_219 : am_mts.lookup (7, 219) = none := by decide +kernel
theorem l7_229 : am_mls.lookup (7, 229) = some (116, 0, 952) := by decide +kernel
theorem lo7_229 : am_ois.lookup (7, 229) = none := by decide +kernel
theorem lm7_229 : am_mts.lookup (7, 229) = none := by decide +kernel
theorem l7_233 : am_mls.lookup (7, 233) = some (120, 0, 984) := by decide +kernel
theorem lo7_233 : am_ois.lookup (7, 233) = none := by decide +kernel
theorem lm7_233 : am_mts.lookup (7, 233) = none := by decide +kernel
theorem l7_236 : am_mls.lookup (7, 236) = some (123, 0, 948) := by decide +kernel
theorem lo7_236 : am_ois.lookup (7, 236) = none := by decide +kernel
theorem lm7_236 : am_mts.lookup (7, 236) = none := by decide +kernel
theorem l7_239 : am_mls.lookup (7, 239) = some (124, 0, 944) := by decide +kernel
theorem lo7_239 : am_ois.lookup (7, 239) = none := by decide +kernel
theorem lm7_239 : am_mts.lookup (7, 239) = none := by decide +kernel
theorem l7_242 : am_mls.lookup (7, 242) = some (128, 0, 1021) := by decide +kernel
theorem lo7_242 : am_ois.lookup (7, 242) = none := by decide +kernel
theorem lm7_242 : am_mts.lookup (7, 242) = none := by decide +kernel
theorem l7_250 : am_mls.lookup (7, 250) = some (133, 0, 1047) := by decide +kernel
theorem lo7_250 : am_ois.lookup (7, 250) = none := by decide +kernel
theorem lm7_250 : am_mts.lookup (7, 250) = none := by decide +kernel
theorem l7_253 : am_mls.lookup (7, 253) = some (132, 0, 1041) := by decide +kernel
theorem lo7_253 : am_ois.lookup (7, 253) = none := by decide +kernel
theorem lm7_253 : am_mts.lookup (7, 253) = none := by decide +kernel
theorem l7_256 : am_mls.lookup (7, 256) = some (134, 0, 1037) := by decide +kernel
theorem lo7_256 : am_ois.lookup (7, 256) = none := by decide +kernel
theorem lm7_256 : am_mts.lookup (7, 256) = none := by decide +kernel
theorem l8_9 : am_mls.lookup (8, 9) = some (49, 0, 59) := by decide +kernel
theorem lo8_9 : am_ois.lookup (8, 9) = none := by decide +kernel
theorem lm8_9 : am_mts.lookup (8, 9) = none := by decide +kernel
theorem l8_12 : am_mls.lookup (8, 12) = some (87, 0, 705) := by decide +kernel
theorem lo8_12 : am_ois.lookup (8, 12) = none := by decide +kernel
theorem lm8_12 : am_mts.lookup (8, 12) = none := by decide +kernel
theorem l8_13 : am_mls.lookup (8, 13) = some (50, 0, 286) := by decide +kernel
theorem lo8_13 : am_ois.lookup (8, 13) = none := by decide +kernel
theorem lm8_13 : am_mts.lookup (8, 13) = none := by decide +kernel
theorem l8_17 : am_mls.lookup (8, 17) = some (88, 0, 852) := by decide +kernel
theorem lo8_17 : am_ois.lookup (8, 17) = none := by decide +kernel
theorem lm8_17 : am_mts.lookup (8, 17) = none := by decide +kernel
theorem l8_18 : am_mls.lookup (8, 18) = some (51, 0, 290) := by decide +kernel
theorem lo8_18 : am_ois.lookup (8, 18) = none := by decide +kernel
theorem lm8_18 : am_mts.lookup (8, 18) = none := by decide +kernel
theorem l8_22 : am_mls.lookup (8, 22) = some (94, 0, 856) := by decide +kernel
theorem lo8_22 : am_ois.lookup (8, 22) = none := by decide +kernel
theorem lm8_22 : am_mts.lookup (8, 22) = none := by decide +kernel
theorem l8_23 : am_mls.lookup (8, 23) = some (52, 0, 305) := by decide +kernel
theorem lo8_23 : am_ois.lookup (8, 23) = none := by decide +kernel
theorem lm8_23 : am_mts.lookup (8, 23) = none := by decide +kernel
theorem l8_27 : am_mls.lookup (8, 27) = some (95, 0, 868) := by decide +kernel
theorem lo8_27 : am_ois.lookup (8, 27) = none := by decide +kernel
theorem lm8_27 : am_mts.lookup (8, 27) = none := by decide +kernel
theorem l8_28 : am_mls.lookup (8, 28) = some (53, 0, 324) := by decide +kernel
theorem lo8_28 : am_ois.lookup (8, 28) = none := by decide +kernel
theorem lm8_28 : am_mts.lookup (8, 28) = none := by decide +kernel
theorem l8_31 : am_mls.lookup (8, 31) = some (96, 0, 876) := by decide +kernel
theorem lo8_31 : am_ois.lookup (8, 31) = none := by decide +kernel
theorem lm8_31 : am_mts.lookup (8, 31) = none := by decide +kernel
theorem l8_32 : am_mls.lookup (8, 32) = some (54, 0, 332) := by decide +kernel
theorem lo8_32 : am_ois.lookup (8, 32) = none := by decide +kernel
theorem lm8_32 : am_mts.lookup (8, 32) = none := by decide +kernel
theorem l8_36 : am_mls.lookup (8, 36) = some (97, 0, 884) := by decide +kernel
theorem lo8_36 : am_ois.lookup (8, 36) = none := by decide +kernel
theorem lm8_36 : am_mts.lookup (8, 36) = none := by decide +kernel
theorem l8_37 : am_mls.lookup (8, 37) = some (55, 0, 426) := by decide +kernel
theorem lo8_37 : am_ois.lookup (8, 37) = none := by decide +kernel
theorem lm8_37 : am_mts.lookup (8, 37) = none := by decide +kernel
theorem l8_41 : am_mls.lookup (8, 41) = some (98, 0, 888) := by decide +kernel
theorem lo8_41 : am_ois.lookup (8, 41) = none := by decide +kernel
theorem lm8_41 : am_mts.lookup (8, 41) = none := by decide +kernel
theorem l8_42 : am_mls.lookup (8, 42) = some (56, 0, 434) := by decide +kernel
theorem lo8_42 : am_ois.lookup (8, 42) = none := by decide +kernel
theorem lm8_42 : am_mts.lookup (8, 42) = none := by decide +kernel
theorem l8_45 : am_mls.lookup (8, 45) = some (99, 0, 896) := by decide +kernel
theorem lo8_45 : am_ois.lookup (8, 45) = none := by decide +kernel
theorem lm8_45 : am_mts.lookup (8, 45) = none := by decide +kernel
theorem l8_46 : am_mls.lookup (8, 46) = some (57, 0, 446) := by decide +kernel
theorem lo8_46 : am_ois.lookup (8, 46) = none := by decide +kernel
theorem lm8_46 : am_mts.lookup (8, 46) = none := by decide +kernel
theorem l8_50 : am_mls.lookup (8, 50) = some (100, 0, 900) := by decide +kernel
theorem lo8_50 : am_ois.lookup (8, 50) = none := by decide +kernel
theorem lm8_50 : am_mts.lookup (8, 50) = none := by decide +kernel
theorem l8_51 : am_mls.lookup (8, 51) = some (58, 0, 450) := by decide +kernel
theorem lo8_51 : am_ois.lookup (8, 51) = none := by decide +kernel
theorem lm8_51 : am_mts.lookup (8, 51) = none := by decide +kernel
theorem l8_54 : am_mls.lookup (8, 54) = some (101, 0, 904) := by decide +kernel
theorem lo8_54 : am_ois.lookup (8, 54) = none := by decide +kernel
theorem lm8_54 : am_mts.lookup (8, 54) = none := by decide +kernel
theorem l8_55 : am_mls.lookup (8, 55) = some (59, 0, 454) := by decide +kernel
theorem lo8_55 : am_ois.lookup (8, 55) = none := by decide +kernel
theorem lm8_55 : am_mts.lookup (8, 55) = none := by decide +kernel
theorem l8_58 : am_mls.lookup (8, 58) = some (102, 0, 908) := by decide +kernel
theorem lo8_58 : am_ois.lookup (8, 58) = none := by decide +kernel
theorem lm8_58 : am_mts.lookup (8, 58) = none := by decide +kernel
theorem l8_59 : am_mls.lookup (8, 59) = some (60, 0, 458) := by decide +kernel
theorem lo8_59 : am_ois.lookup (8, 59) = none := by decide +kernel
theorem lm8_59 : am_mts.lookup (8, 59) = none := by decide +kernel
theorem l8_62 : am_mls.lookup (8, 62) = some (103, 0, 912) := by decide +kernel
theorem lo8_62 : am_ois.lookup (8, 62) = none := by decide +kernel
theorem lm8_62 : am_mts.lookup (8, 62) = none := by decide +kernel
theorem l8_63 : am_mls.lookup (8, 63) = some (61, 0, 466) := by decide +kernel
theorem lo8_63 : am_ois.lookup (8, 63) = none := by decide +kernel
theorem lm8_63 : am_mts.lookup (8, 63) = none := by decide +kernel
theorem l8_66 : am_mls.lookup (8, 66) = some (104, 0, 916) := by decide +kernel
theorem lo8_66 : am_ois.lookup (8, 66) = none := by decide +kernel
theorem lm8_66 : am_mts.lookup (8, 66) = none := by decide +kernel
theorem l8_67 : am_mls.lookup (8, 67) = some (62, 0, 470) := by decide +kernel
theorem lo8_67 : am_ois.lookup (8, 67) = none := by decide +kernel
theorem lm8_67 : am_mts.lookup (8, 67) = none := by decide +kernel
theorem l8_70 : am_mls.lookup (8, 70) = some (105, 0, 920) := by decide +kernel
theorem lo8_70 : am_ois.lookup (8, 70) = none := by decide +kernel
theorem lm8_70 : am_mts.lookup (8, 70) = none := by decide +kernel
theorem l8_71 : am_mls.lookup (8, 71) = some (63, 0, 474) := by decide +kernel
theorem lo8_71 : am_ois.lookup (8, 71) = none := by decide +kernel
theorem lm8_71 : am_mts.lookup (8, 71) = none := by decide +kernel
theorem l8_75 : am_mls.lookup (8, 75) = some (106, 0, 924) := by decide +kernel
theorem lo8_75 : am_ois.lookup (8, 75) = none := by decide +kernel
theorem lm8_75 : am_mts.lookup (8, 75) = none := by decide +kernel
theorem l8_76 : am_mls.lookup (8, 76) = some (64, 0, 478) := by decide +kernel
theorem lo8_76 : am_ois.lookup (8, 76) = none := by decide +kernel
theorem lm8_76 : am_mts.lookup (8, 76) = none := by decide +kernel
theorem l8_79 : am_mls.lookup (8, 79) = some (109, 0, 928) := by decide +kernel
theorem lo8_79 : am_ois.lookup (8, 79) = none := by decide +kernel
theorem lm8_79 : am_mts.lookup (8, 79) = none := by decide +kernel
theorem l8_80 : am_mls.lookup (8, 80) = some (65, 0, 486) := by decide +kernel
theorem lo8_80 : am_ois.lookup (8, 80) = none := by decide +kernel
theorem lm8_80 : am_mts.lookup (8, 80) = none := by decide +kernel
theorem l8_83 : am_mls.lookup (8, 83) = some (125, 0, 940) := by decide +kernel
theorem lo8_83 : am_ois.lookup (8, 83) = none := by decide +kernel
theorem lm8_83 : am_mts.lookup (8, 83) = none := by decide +kernel
theorem l8_84 : am_mls.lookup (8, 84) = some (66, 0, 599) := by decide +kernel
theorem lo8_84 : am_ois.lookup (8, 84) = none := by decide +kernel
theorem lm8_84 : am_mts.lookup (8, 84) = none := by decide +kernel
theorem l8_87 : am_mls.lookup (8, 87) = some (126, 0, 1009) := by decide +kernel
theorem lo8_87 : am_ois.lookup (8, 87) = none := by decide +kernel
theorem lm8_87 : am_mts.lookup (8, 87) = none := by decide +kernel
theorem l8_88 : am_mls.lookup (8, 88) = some (67, 0, 607) := by decide +kernel
theorem lo8_88 : am_ois.lookup (8, 88) = none := by decide +kernel
theorem lm8_88 : am_mts.lookup (8, 88) = none := by decide +kernel
theorem l8_91 : am_mls.lookup (8, 91) = some (127, 0, 1013) := by decide +kernel
theorem lo8_91 : am_ois.lookup (8, 91) = none := by decide +kernel
theorem lm8_91 : am_mts.lookup (8, 91) = none := by decide +kernel
theorem l8_92 : am_mls.lookup (8, 92) = some (68, 0, 611) := by decide +kernel
theorem lo8_92 : am_ois.lookup (8, 92) = none := by decide +kernel
theorem lm8_92 : am_mts.lookup (8, 92) = none := by decide +kernel
theorem l8_95 : am_mls.lookup (8, 95) = some (129, 0, 1017) := by decide +kernel
theorem lo8_95 : am_ois.lookup (8, 95) = none := by decide +kernel
theorem lm8_95 : am_mts.lookup (8, 95) = none := by decide +kernel
theorem l8_96 : am_mls.lookup (8, 96) = some (69, 0, 619) := by decide +kernel
theorem lo8_96 : am_ois.lookup (8, 96) = none := by decide +kernel
theorem lm8_96 : am_mts.lookup (8, 96) = none := by decide +kernel
theorem l8_99 : am_mls.lookup (8, 99) = some (130, 0, 1025) := by decide +kernel
theorem lo8_99 : am_ois.lookup (8, 99) = none := by decide +kernel
theorem lm8_99 : am_mts.lookup (8, 99) = none := by decide +kernel
theorem l8_100 : am_mls.lookup (8, 100) = some (70, 0, 623) := by decide +kernel
theorem lo8_100 : am_ois.lookup (8, 100) = none := by decide +kernel
theorem lm8_100 : am_mts.lookup (8, 100) = none := by decide +kernel
theorem l8_103 : am_mls.lookup (8, 103) = some (131, 0, 1029) := by decide +kernel
theorem lo8_103 : am_ois.lookup (8, 103) = none := by decide +kernel
theorem lm8_103 : am_mts.lookup (8, 103) = none := by decide +kernel
theorem l8_104 : am_mls.lookup (8, 104) = some (71, 0, 627) := by decide +kernel
theorem lo8_104 : am_ois.lookup (8, 104) = none := by decide +kernel
theorem lm8_104 : am_mts.lookup (8, 104) = none := by decide +kernel
theorem l8_107 : am_mls.lookup (8, 107) = some (135, 0, 1033) := by decide +kernel
theorem lo8_107 : am_ois.lookup (8, 107) = none := by decide +kernel
theorem lm8_107 : am_mts.lookup (8, 107) = none := by decide +kernel
theorem l8_108 : am_mls.lookup (8, 108) = some (72, 0, 666) := by decide +kernel
theorem lo8_108 : am_ois.lookup (8, 108) = none := by decide +kernel
theorem lm8_108 : am_mts.lookup (8, 108) = none := by decide +kernel
theorem l8_112 : am_mls.lookup (8, 112) = some (136, 0, 1051) := by decide +kernel
theorem lo8_112 : am_ois.lookup (8, 112) = none := by decide +kernel
theorem lm8_112 : am_mts.lookup (8, 112) = none := by decide +kernel
theorem l8_113 : am_mls.lookup (8, 113) = some (73, 0, 678) := by decide +kernel
theorem lo8_113 : am_ois.lookup (8, 113) = none := by decide +kernel
theorem lm8_113 : am_mts.lookup (8, 113) = none := by decide +kernel
theorem l8_116 : am_mls.lookup (8, 116) = some (137, 0, 1055) := by decide +kernel
theorem lo8_116 : am_ois.lookup (8, 116) = none := by decide +kernel
theorem lm8_116 : am_mts.lookup (8, 116) = none := by decide +kernel
theorem l8_117 : am_mls.lookup (8, 117) = some (74, 0, 686) := by decide +kernel
theorem lo8_117 : am_ois.lookup (8, 117) = none := by decide +kernel
theorem lm8_117 : am_mts.lookup (8, 117) = none := by decide +kernel
theorem l8_120 : am_mls.lookup (8, 120) = some (138, 0, 1059) := by decide +kernel
theorem lo8_120 : am_ois.lookup (8, 120) = none := by decide +kernel
theorem lm8_120 : am_mts.lookup (8, 120) = none := by decide +kernel
theorem l8_121 : am_mls.lookup (8, 121) = some (75, 0, 695) := by decide +kernel
theorem lo8_121 : am_ois.lookup (8, 121) = none := by decide +kernel
theorem lm8_121 : am_mts.lookup (8, 121) = none := by decide +kernel
theorem l8_124 : am_mls.lookup (8, 124) = some (139, 0, 1063) := by decide +kernel
theorem lo8_124 : am_ois.lookup (8, 124) = none := by decide +kernel
theorem lm8_124 : am_mts.lookup (8, 124) = none := by decide +kernel
theorem oi0_3 : am_ois.lookup (0, 3) = some 70 := by decide +kernel
theorem oi1_3 : am_ois.lookup (1, 3) = some 124 := by decide +kernel
theorem oi2_3 : am_ois.lookup (2, 3) = some 156 := by decide +kernel
theorem oi3_3 : am_ois.lookup (3, 3) = some 344 := by decide +kernel
theorem oi4_3 : am_ois.lookup (4, 3) = some 132 := by decide +kernel
theorem oi5_3 : am_ois.lookup (5, 3) = some 150 := by decide +kernel
theorem oi6_3 : am_ois.lookup (6, 3) = some 62 := by decide +kernel
theorem oi7_1 : am_ois.lookup (7, 1) = some 708 := by decide +kernel
theorem mt1_171 : am_mts.lookup (1, 171) = some (1, 648) := by decide +kernel
theorem mt1_177 : am_mts.lookup (1, 177) = some (2, 653) := by decide +kernel
theorem mt2_93 : am_mts.lookup (2, 93) = some (2, 581) := by decide +kernel
theorem mt2_118 : am_mts.lookup (2, 118) = some (1, 584) := by decide +kernel
theorem mt2_124 : am_mts.lookup (2, 124) = some (0, 587) := by decide +kernel
theorem mt7_204 : am_mts.lookup (7, 204) = some (3, 998) := by decide +kernel
theorem mt7_210 : am_mts.lookup (7, 210) = some (0, 997) := by decide +kernel
theorem mt7_245 : am_mts.lookup (7, 245) = some (1, 1045) := by decide +kernel
theorem mt7_248 : am_mts.lookup (7, 248) = some (2, 1046) := by decide +kernel
theorem nl0_15 : am_nls.lookup (0, 15) = some (100, 71) := by decide +kernel
theorem nl1_40 : am_nls.lookup (1, 40) = some (101, 125) := by decide +kernel
theorem nl1_45 : am_nls.lookup (1, 45) = some (4, 127) := by decide +kernel
theorem nl1_56 : am_nls.lookup (1, 56) = some (5, 145) := by decide +kernel
theorem nl2_9 : am_nls.lookup (2, 9) = some (100, 157) := by decide +kernel
theorem nl4_9 : am_nls.lookup (4, 9) = some (100, 133) := by decide +kernel
theorem nl5_15 : am_nls.lookup (5, 15) = some (2, 151) := by decide +kernel
theorem nl6_9 : am_nls.lookup (6, 9) = some (0, 65) := by decide +kernel
theorem nl6_16 : am_nls.lookup (6, 16) = some (1, 119) := by decide +kernel
theorem nl6_76 : am_nls.lookup (6, 76) = some (3, 339) := by decide +kernel
theorem nl8_7 : am_nls.lookup (8, 7) = some (6, 57) := by decide +kernel
theorem nl8_10 : am_nls.lookup (8, 10) = some (7, 703) := by decide +kernel
theorem ld5_83 : am_ldcs.lookup (5, 83) = some (16777216, am_pkP) := by decide +kernel
theorem ld2_92 : am_ldcs.lookup (2, 92) = some (16777216, am_pkE) := by decide +kernel
theorem ld7_198 : am_ldc2s.lookup (7, 198) = some (1000000000000, am_pkL) := by decide +kernel
theorem k6_5 : am_cok 0 6 5 1 = true := by decide +kernel
theorem k7_37 : am_cok 2 7 37 0 = true := by decide +kernel
theorem k7_40 : am_cok 2 7 40 2 = true := by decide +kernel
theorem k8_38 : am_cok 0 8 38 1 = true := by decide +kernel
theorem k8_41 : am_cok 0 8 41 0 = true := by decide +kernel
theorem k8_43 : am_cok 0 8 43 0 = true := by decide +kernel
theorem k8_42 : am_cok 0 8 42 0 = true := by decide +kernel
theorem k8_10 : am_cok 0 8 10 1 = true := by decide +kernel
theorem k8_11 : am_cok 0 8 11 3 = true := by decide +kernel
theorem k10_44 : am_cok 0 10 44 1 = true := by decide +kernel
theorem k11_48 : am_cok 0 11 48 0 = true := by decide +kernel
theorem k12_9 : am_cok 0 12 9 1 = true := by decide +kernel
theorem k12_84 : am_cok 1 12 84 3 = true := by decide +kernel
theorem k13_9 : am_cok 0 13 9 1 = true := by decide +kernel
theorem k14_9 : am_cok 0 14 9 1 = true := by decide +kernel
theorem k14_17 : am_cok 0 14 17 2 = true := by decide +kernel
theorem k14_18 : am_cok 0 14 18 2 = true := by decide +kernel
theorem k15_14 : am_cok 0 15 14 2 = true := by decide +kernel
theorem k15_17 : am_cok 0 15 17 2 = true := by decide +kernel
theorem k16_14 : am_cok 0 16 14 2 = true := by decide +kernel
theorem k16_18 : am_cok 0 16 18 2 = true := by decide +kernel
theorem k19_14 : am_cok 0 19 14 2 = true := by decide +kernel
theorem k19_20 : am_cok 0 19 20 2 = true := by decide +kernel
theorem k19_21 : am_cok 1 19 21 1 = true := by decide +kernel
theorem k20_14 : am_cok 0 20 14 2 = true := by decide +kernel
theorem k20_17 : am_cok 0 20 17 2 = true := by decide +kernel
theorem k20_18 : am_cok 0 20 18 2 = true := by decide +kernel
theorem k25_33 : am_cok 0 25 33 0 = true := by decide +kernel
theorem k25_26 : am_cok 0 25 26 2 = true := by decide +kernel
theorem k26_34 : am_cok 0 26 34 2 = true := by decide +kernel
theorem k27_29 : am_cok 0 27 29 2 = true := by decide +kernel
theorem k27_34 : am_cok 0 27 34 2 = true := by decide +kernel
theorem k28_29 : am_cok 0 28 29 2 = true := by decide +kernel
theorem k29_30 : am_cok 0 29 30 1 = true := by decide +kernel
theorem k29_33 : am_cok 0 29 33 0 = true := by decide +kernel
theorem k29_31 : am_cok 0 29 31 2 = true := by decide +kernel
theorem k30_33 : am_cok 0 30 33 0 = true := by decide +kernel
theorem k38_6 : am_cok 0 38 6 1 = true := by decide +kernel
theorem k38_39 : am_cok 0 38 39 1 = true := by decide +kernel
theorem k40_22 : am_cok 2 40 22 2 = true := by decide +kernel
theorem k44_45 : am_cok 0 44 45 1 = true := by decide +kernel
theorem k45_46 : am_cok 0 45 46 0 = true := by decide +kernel
theorem k45_47 : am_cok 0 45 47 1 = true := by decide +kernel
theorem k45_25 : am_cok 0 45 25 0 = true := by decide +kernel
theorem k47_23 : am_cok 0 47 23 0 = true := by decide +kernel
theorem k47_46 : am_cok 0 47 46 0 = true := by decide +kernel
theorem k47_24 : am_cok 0 47 24 1 = true := by decide +kernel
theorem k48_46 : am_cok 0 48 46 0 = true := by decide +kernel
theorem k48_47 : am_cok 0 48 47 1 = true := by decide +kernel
theorem k48_27 : am_cok 0 48 27 1 = true := by decide +kernel
theorem k48_28 : am_cok 0 48 28 1 = true := by decide +kernel
theorem k49_0 : am_cok 2 49 0 0 = true := by decide +kernel
theorem k49_7 : am_cok 2 49 7 1 = true := by decide +kernel
theorem k51_84 : am_cok 1 51 84 3 = true := by decide +kernel
theorem k51_81 : am_cok 0 51 81 1 = true := by decide +kernel
theorem k51_80 : am_cok 0 51 80 0 = true := by decide +kernel
theorem k52_85 : am_cok 1 52 85 1 = true := by decide +kernel
theorem k52_83 : am_cok 0 52 83 1 = true := by decide +kernel
theorem k52_80 : am_cok 0 52 80 0 = true := by decide +kernel
theorem k52_1 : am_cok 0 52 1 1 = true := by decide +kernel
theorem k52_82 : am_cok 0 52 82 1 = true := by decide +kernel
theorem k53_3 : am_cok 0 53 3 1 = true := by decide +kernel
theorem k53_81 : am_cok 0 53 81 1 = true := by decide +kernel
theorem k53_85 : am_cok 1 53 85 1 = true := by decide +kernel
theorem k53_80 : am_cok 0 53 80 0 = true := by decide +kernel
theorem k54_3 : am_cok 0 54 3 1 = true := by decide +kernel
theorem k54_83 : am_cok 0 54 83 1 = true := by decide +kernel
theorem k54_86 : am_cok 1 54 86 1 = true := by decide +kernel
theorem k54_84 : am_cok 1 54 84 3 = true := by decide +kernel
theorem k54_80 : am_cok 0 54 80 0 = true := by decide +kernel
theorem k54_32 : am_cok 2 54 32 5 = true := by decide +kernel
theorem k54_2 : am_cok 0 54 2 1 = true := by decide +kernel
theorem k54_82 : am_cok 0 54 82 1 = true := by decide +kernel
theorem k55_4 : am_cok 0 55 4 1 = true := by decide +kernel
theorem k55_83 : am_cok 0 55 83 1 = true := by decide +kernel
theorem k55_86 : am_cok 1 55 86 1 = true := by decide +kernel
theorem k55_80 : am_cok 0 55 80 0 = true := by decide +kernel
theorem k55_82 : am_cok 0 55 82 1 = true := by decide +kernel
theorem k56_4 : am_cok 0 56 4 1 = true := by decide +kernel
theorem k56_83 : am_cok 0 56 83 1 = true := by decide +kernel
theorem k56_84 : am_cok 1 56 84 3 = true := by decide +kernel
theorem k56_35 : am_cok 0 56 35 1 = true := by decide +kernel
theorem k56_36 : am_cok 0 56 36 1 = true := by decide +kernel
theorem k56_80 : am_cok 0 56 80 0 = true := by decide +kernel
theorem k56_82 : am_cok 0 56 82 1 = true := by decide +kernel
theorem k57_84 : am_cok 1 57 84 3 = true := by decide +kernel
theorem k57_81 : am_cok 0 57 81 1 = true := by decide +kernel
theorem k57_80 : am_cok 0 57 80 0 = true := by decide +kernel
theorem k58_4 : am_cok 0 58 4 1 = true := by decide +kernel
theorem k58_3 : am_cok 0 58 3 1 = true := by decide +kernel
theorem k58_81 : am_cok 0 58 81 1 = true := by decide +kernel
theorem k58_82 : am_cok 0 58 82 1 = true := by decide +kernel
theorem k59_4 : am_cok 0 59 4 1 = true := by decide +kernel
theorem k59_81 : am_cok 0 59 81 1 = true := by decide +kernel
theorem k59_84 : am_cok 1 59 84 3 = true := by decide +kernel
theorem k59_80 : am_cok 0 59 80 0 = true := by decide +kernel
theorem k60_4 : am_cok 0 60 4 1 = true := by decide +kernel
theorem k60_81 : am_cok 0 60 81 1 = true := by decide +kernel
theorem k60_33 : am_cok 0 60 33 0 = true := by decide +kernel
theorem k60_80 : am_cok 0 60 80 0 = true := by decide +kernel
theorem k61_4 : am_cok 0 61 4 1 = true := by decide +kernel
theorem k61_3 : am_cok 0 61 3 1 = true := by decide +kernel
theorem k61_81 : am_cok 0 61 81 1 = true := by decide +kernel
theorem k61_80 : am_cok 0 61 80 0 = true := by decide +kernel
theorem k62_84 : am_cok 1 62 84 3 = true := by decide +kernel
theorem k62_81 : am_cok 0 62 81 1 = true := by decide +kernel
theorem k62_80 : am_cok 0 62 80 0 = true := by decide +kernel
theorem k63_80 : am_cok 0 63 80 0 = true := by decide +kernel
theorem k64_4 : am_cok 0 64 4 1 = true := by decide +kernel
theorem k64_83 : am_cok 0 64 83 1 = true := by decide +kernel
theorem k64_82 : am_cok 0 64 82 1 = true := by decide +kernel
theorem k64_5 : am_cok 0 64 5 1 = true := by decide +kernel
theorem k65_8 : am_cok 0 65 8 0 = true := by decide +kernel
theorem k65_82 : am_cok 0 65 82 1 = true := by decide +kernel
theorem k65_83 : am_cok 0 65 83 1 = true := by decide +kernel
theorem k66_8 : am_cok 0 66 8 0 = true := by decide +kernel
theorem k66_76 : am_cok 0 66 76 1 = true := by decide +kernel
theorem k66_82 : am_cok 0 66 82 1 = true := by decide +kernel
theorem k66_83 : am_cok 0 66 83 1 = true := by decide +kernel
theorem k67_8 : am_cok 0 67 8 0 = true := by decide +kernel
theorem k67_76 : am_cok 0 67 76 1 = true := by decide +kernel
theorem k67_82 : am_cok 0 67 82 1 = true := by decide +kernel
theorem k67_83 : am_cok 0 67 83 1 = true := by decide +kernel
theorem k68_8 : am_cok 0 68 8 0 = true := by decide +kernel
theorem k68_4 : am_cok 0 68 4 1 = true := by decide +kernel
theorem k68_77 : am_cok 0 68 77 1 = true := by decide +kernel
theorem k68_82 : am_cok 0 68 82 1 = true := by decide +kernel
theorem k68_83 : am_cok 0 68 83 1 = true := by decide +kernel
theorem k69_8 : am_cok 0 69 8 0 = true := by decide +kernel
theorem k69_4 : am_cok 0 69 4 1 = true := by decide +kernel
theorem k69_77 : am_cok 0 69 77 1 = true := by decide +kernel
theorem k69_82 : am_cok 0 69 82 1 = true := by decide +kernel
theorem k69_83 : am_cok 0 69 83 1 = true := by decide +kernel
theorem k70_8 : am_cok 0 70 8 0 = true := by decide +kernel
theorem k70_4 : am_cok 0 70 4 1 = true := by decide +kernel
theorem k70_77 : am_cok 0 70 77 1 = true := by decide +kernel
theorem k70_82 : am_cok 0 70 82 1 = true := by decide +kernel
theorem k70_83 : am_cok 0 70 83 1 = true := by decide +kernel
theorem k71_8 : am_cok 0 71 8 0 = true := by decide +kernel
theorem k71_4 : am_cok 0 71 4 1 = true := by decide +kernel
theorem k71_79 : am_cok 0 71 79 2 = true := by decide +kernel
theorem k71_19 : am_cok 0 71 19 2 = true := by decide +kernel
theorem k71_82 : am_cok 0 71 82 1 = true := by decide +kernel
theorem k71_83 : am_cok 0 71 83 1 = true := by decide +kernel
theorem k72_8 : am_cok 0 72 8 0 = true := by decide +kernel
theorem k72_4 : am_cok 0 72 4 1 = true := by decide +kernel
theorem k72_79 : am_cok 0 72 79 2 = true := by decide +kernel
theorem k72_83 : am_cok 0 72 83 1 = true := by decide +kernel
theorem k72_16 : am_cok 0 72 16 2 = true := by decide +kernel
theorem k72_15 : am_cok 0 72 15 2 = true := by decide +kernel
theorem k72_82 : am_cok 0 72 82 1 = true := by decide +kernel
theorem k73_8 : am_cok 0 73 8 0 = true := by decide +kernel
theorem k73_78 : am_cok 0 73 78 1 = true := by decide +kernel
theorem k73_82 : am_cok 0 73 82 1 = true := by decide +kernel
theorem k73_83 : am_cok 0 73 83 1 = true := by decide +kernel
theorem k74_8 : am_cok 0 74 8 0 = true := by decide +kernel
theorem k74_84 : am_cok 1 74 84 3 = true := by decide +kernel
theorem k74_78 : am_cok 0 74 78 1 = true := by decide +kernel
theorem k74_12 : am_cok 0 74 12 2 = true := by decide +kernel
theorem k74_82 : am_cok 0 74 82 1 = true := by decide +kernel
theorem k74_83 : am_cok 0 74 83 1 = true := by decide +kernel
theorem k75_8 : am_cok 0 75 8 0 = true := by decide +kernel
theorem k75_78 : am_cok 0 75 78 1 = true := by decide +kernel
theorem k75_13 : am_cok 0 75 13 1 = true := by decide +kernel
theorem k75_82 : am_cok 0 75 82 1 = true := by decide +kernel
theorem k75_83 : am_cok 0 75 83 1 = true := by decide +kernel
theorem k76_3 : am_cok 0 76 3 1 = true := by decide +kernel
theorem k77_5 : am_cok 0 77 5 1 = true := by decide +kernel
theorem k78_9 : am_cok 0 78 9 1 = true := by decide +kernel
theorem k79_77 : am_cok 0 79 77 1 = true := by decide +kernel
theorem k79_9 : am_cok 0 79 9 1 = true := by decide +kernel
theorem k79_14 : am_cok 0 79 14 2 = true := by decide +kernel
theorem k85_84 : am_cok 1 85 84 3 = true := by decide +kernel
theorem k86_84 : am_cok 1 86 84 3 = true := by decide +kernel
theorem k94_90 : am_cok 0 94 90 1 = true := by decide +kernel
theorem k94_91 : am_cok 0 94 91 0 = true := by decide +kernel
theorem k95_89 : am_cok 0 95 89 1 = true := by decide +kernel
theorem k95_91 : am_cok 0 95 91 0 = true := by decide +kernel
theorem k96_92 : am_cok 0 96 92 1 = true := by decide +kernel
theorem k96_90 : am_cok 0 96 90 1 = true := by decide +kernel
theorem k96_91 : am_cok 0 96 91 0 = true := by decide +kernel
theorem k97_92 : am_cok 0 97 92 1 = true := by decide +kernel
theorem k97_89 : am_cok 0 97 89 1 = true := by decide +kernel
theorem k97_91 : am_cok 0 97 91 0 = true := by decide +kernel
theorem k98_93 : am_cok 0 98 93 1 = true := by decide +kernel
theorem k98_89 : am_cok 0 98 89 1 = true := by decide +kernel
theorem k98_91 : am_cok 0 98 91 0 = true := by decide +kernel
theorem k99_93 : am_cok 0 99 93 1 = true := by decide +kernel
theorem k99_89 : am_cok 0 99 89 1 = true := by decide +kernel
theorem k99_91 : am_cok 0 99 91 0 = true := by decide +kernel
theorem k100_90 : am_cok 0 100 90 1 = true := by decide +kernel
theorem k100_91 : am_cok 0 100 91 0 = true := by decide +kernel
theorem k101_93 : am_cok 0 101 93 1 = true := by decide +kernel
theorem k101_92 : am_cok 0 101 92 1 = true := by decide +kernel
theorem k101_90 : am_cok 0 101 90 1 = true := by decide +kernel
theorem k101_91 : am_cok 0 101 91 0 = true := by decide +kernel
theorem k102_93 : am_cok 0 102 93 1 = true := by decide +kernel
theorem k102_90 : am_cok 0 102 90 1 = true := by decide +kernel
theorem k102_91 : am_cok 0 102 91 0 = true := by decide +kernel
theorem k103_93 : am_cok 0 103 93 1 = true := by decide +kernel
theorem k103_90 : am_cok 0 103 90 1 = true := by decide +kernel
theorem k103_91 : am_cok 0 103 91 0 = true := by decide +kernel
theorem k104_93 : am_cok 0 104 93 1 = true := by decide +kernel
theorem k104_92 : am_cok 0 104 92 1 = true := by decide +kernel
theorem k104_90 : am_cok 0 104 90 1 = true := by decide +kernel
theorem k104_91 : am_cok 0 104 91 0 = true := by decide +kernel
theorem k105_90 : am_cok 0 105 90 1 = true := by decide +kernel
theorem k105_91 : am_cok 0 105 91 0 = true := by decide +kernel
theorem k106_91 : am_cok 0 106 91 0 = true := by decide +kernel
theorem k109_93 : am_cok 0 109 93 1 = true := by decide +kernel
theorem k109_89 : am_cok 0 109 89 1 = true := by decide +kernel
theorem k109_108 : am_cok 0 109 108 1 = true := by decide +kernel
theorem k109_107 : am_cok 0 109 107 1 = true := by decide +kernel
theorem k110_107 : am_cok 0 110 107 1 = true := by decide +kernel
theorem k114_108 : am_cok 0 114 108 1 = true := by decide +kernel
theorem k115_114 : am_cok 0 115 114 2 = true := by decide +kernel
theorem k116_110 : am_cok 0 116 110 2 = true := by decide +kernel
theorem k116_111 : am_cok 0 116 111 2 = true := by decide +kernel
theorem k116_117 : am_cok 0 116 117 2 = true := by decide +kernel
theorem k117_112 : am_cok 0 117 112 1 = true := by decide +kernel
theorem k117_113 : am_cok 0 117 113 0 = true := by decide +kernel
theorem k117_115 : am_cok 0 117 115 2 = true := by decide +kernel
theorem k118_114 : am_cok 0 118 114 2 = true := by decide +kernel
theorem k118_119 : am_cok 0 118 119 2 = true := by decide +kernel
theorem k120_110 : am_cok 0 120 110 2 = true := by decide +kernel
theorem k120_111 : am_cok 0 120 111 2 = true := by decide +kernel
theorem k120_112 : am_cok 0 120 112 1 = true := by decide +kernel
theorem k120_113 : am_cok 0 120 113 0 = true := by decide +kernel
theorem k120_118 : am_cok 0 120 118 2 = true := by decide +kernel
theorem k120_121 : am_cok 0 120 121 2 = true := by decide +kernel
theorem k121_112 : am_cok 0 121 112 1 = true := by decide +kernel
theorem k121_118 : am_cok 0 121 118 2 = true := by decide +kernel
theorem k121_122 : am_cok 0 121 122 4 = true := by decide +kernel
theorem k121_114 : am_cok 0 121 114 2 = true := by decide +kernel
theorem k121_108 : am_cok 0 121 108 1 = true := by decide +kernel
theorem k122_114 : am_cok 0 122 114 2 = true := by decide +kernel
theorem k122_119 : am_cok 0 122 119 2 = true := by decide +kernel
theorem k123_116 : am_cok 0 123 116 4 = true := by decide +kernel
theorem k123_120 : am_cok 0 123 120 1 = true := by decide +kernel
theorem k124_123 : am_cok 0 124 123 0 = true := by decide +kernel
theorem k125_124 : am_cok 0 125 124 0 = true := by decide +kernel
theorem k125_89 : am_cok 0 125 89 1 = true := by decide +kernel
theorem k126_92 : am_cok 0 126 92 1 = true := by decide +kernel
theorem k126_89 : am_cok 0 126 89 1 = true := by decide +kernel
theorem k126_124 : am_cok 0 126 124 0 = true := by decide +kernel
theorem k127_92 : am_cok 0 127 92 1 = true := by decide +kernel
theorem k127_89 : am_cok 0 127 89 1 = true := by decide +kernel
theorem k127_124 : am_cok 0 127 124 0 = true := by decide +kernel
theorem k128_93 : am_cok 0 128 93 1 = true := by decide +kernel
theorem k128_107 : am_cok 0 128 107 1 = true := by decide +kernel
theorem k128_124 : am_cok 0 128 124 0 = true := by decide +kernel
theorem k129_128 : am_cok 0 129 128 1 = true := by decide +kernel
theorem k130_128 : am_cok 0 130 128 1 = true := by decide +kernel
theorem k131_128 : am_cok 0 131 128 1 = true := by decide +kernel
theorem k132_107 : am_cok 0 132 107 1 = true := by decide +kernel
theorem k132_133 : am_cok 0 132 133 2 = true := by decide +kernel
theorem k134_128 : am_cok 0 134 128 1 = true := by decide +kernel
theorem k134_132 : am_cok 0 134 132 1 = true := by decide +kernel
theorem k135_134 : am_cok 0 135 134 2 = true := by decide +kernel
theorem k136_134 : am_cok 0 136 134 2 = true := by decide +kernel
theorem k137_124 : am_cok 0 137 124 0 = true := by decide +kernel
theorem k137_89 : am_cok 0 137 89 1 = true := by decide +kernel
theorem k138_89 : am_cok 0 138 89 1 = true := by decide +kernel
theorem k138_124 : am_cok 0 138 124 0 = true := by decide +kernel
theorem k138_110 : am_cok 0 138 110 2 = true := by decide +kernel
theorem k139_124 : am_cok 0 139 124 0 = true := by decide +kernel
theorem k139_89 : am_cok 0 139 89 1 = true := by decide +kernel
theorem k139_110 : am_cok 0 139 110 2 = true := by decide +kernel
theorem k140_49 : am_cok 2 140 49 0 = true := by decide +kernel
theorem k140_87 : am_cok 2 140 87 0 = true := by decide +kernel
theorem k140_50 : am_cok 0 140 50 0 = true := by decide +kernel
theorem k140_88 : am_cok 0 140 88 0 = true := by decide +kernel
theorem k140_51 : am_cok 0 140 51 2 = true := by decide +kernel
theorem k140_94 : am_cok 0 140 94 2 = true := by decide +kernel
theorem k140_52 : am_cok 0 140 52 1 = true := by decide +kernel
theorem k140_95 : am_cok 0 140 95 1 = true := by decide +kernel
theorem k140_53 : am_cok 0 140 53 2 = true := by decide +kernel
theorem k140_96 : am_cok 0 140 96 2 = true := by decide +kernel
theorem k140_54 : am_cok 0 140 54 5 = true := by decide +kernel
theorem k140_97 : am_cok 0 140 97 5 = true := by decide +kernel
theorem k140_55 : am_cok 0 140 55 2 = true := by decide +kernel
theorem k140_98 : am_cok 0 140 98 2 = true := by decide +kernel
theorem k140_56 : am_cok 0 140 56 2 = true := by decide +kernel
theorem k140_99 : am_cok 0 140 99 2 = true := by decide +kernel
theorem k140_57 : am_cok 0 140 57 1 = true := by decide +kernel
theorem k140_100 : am_cok 0 140 100 1 = true := by decide +kernel
theorem k140_58 : am_cok 0 140 58 2 = true := by decide +kernel
theorem k140_101 : am_cok 0 140 101 2 = true := by decide +kernel
theorem k140_59 : am_cok 0 140 59 2 = true := by decide +kernel
theorem k140_102 : am_cok 0 140 102 2 = true := by decide +kernel
theorem k140_60 : am_cok 0 140 60 1 = true := by decide +kernel
theorem k140_103 : am_cok 0 140 103 1 = true := by decide +kernel
theorem k140_61 : am_cok 0 140 61 2 = true := by decide +kernel
theorem k140_104 : am_cok 0 140 104 2 = true := by decide +kernel
theorem k140_62 : am_cok 0 140 62 1 = true := by decide +kernel
theorem k140_105 : am_cok 0 140 105 1 = true := by decide +kernel
theorem k140_63 : am_cok 0 140 63 1 = true := by decide +kernel
theorem k140_106 : am_cok 0 140 106 1 = true := by decide +kernel
theorem k140_64 : am_cok 0 140 64 2 = true := by decide +kernel
theorem k140_109 : am_cok 0 140 109 2 = true := by decide +kernel
theorem k140_65 : am_cok 0 140 65 0 = true := by decide +kernel
theorem k140_125 : am_cok 0 140 125 0 = true := by decide +kernel
theorem k140_66 : am_cok 0 140 66 1 = true := by decide +kernel
theorem k140_126 : am_cok 0 140 126 1 = true := by decide +kernel
theorem k140_67 : am_cok 0 140 67 1 = true := by decide +kernel
theorem k140_127 : am_cok 0 140 127 1 = true := by decide +kernel
theorem k140_68 : am_cok 0 140 68 1 = true := by decide +kernel
theorem k140_129 : am_cok 0 140 129 1 = true := by decide +kernel
theorem k140_69 : am_cok 0 140 69 1 = true := by decide +kernel
theorem k140_130 : am_cok 0 140 130 1 = true := by decide +kernel
theorem k140_70 : am_cok 0 140 70 1 = true := by decide +kernel
theorem k140_131 : am_cok 0 140 131 1 = true := by decide +kernel
theorem k140_71 : am_cok 0 140 71 2 = true := by decide +kernel
theorem k140_135 : am_cok 0 140 135 2 = true := by decide +kernel
theorem k140_72 : am_cok 0 140 72 3 = true := by decide +kernel
theorem k140_136 : am_cok 0 140 136 3 = true := by decide +kernel
theorem k140_73 : am_cok 0 140 73 1 = true := by decide +kernel
theorem k140_137 : am_cok 0 140 137 1 = true := by decide +kernel
theorem k140_74 : am_cok 0 140 74 2 = true := by decide +kernel
theorem k140_138 : am_cok 0 140 138 2 = true := by decide +kernel
theorem k140_75 : am_cok 0 140 75 1 = true := by decide +kernel
theorem k140_139 : am_cok 0 140 139 1 = true := by decide +kernel
theorem kd_0 : am_kind 0 = (0, 6) := by decide +kernel
theorem kd_1 : am_kind 1 = (0, 0) := by decide +kernel
theorem kd_2 : am_kind 2 = (1, 60) := by decide +kernel
theorem kd_3 : am_kind 3 = (3, 24) := by decide +kernel
theorem kd_4 : am_kind 4 = (0, 1) := by decide +kernel
theorem kd_5 : am_kind 5 = (1, 60) := by decide +kernel
theorem kd_6 : am_kind 6 = (1, 60) := by decide +kernel
theorem kd_7 : am_kind 7 = (1, 84) := by decide +kernel
theorem kd_8 : am_kind 8 = (1, 84) := by decide +kernel
theorem kd_9 : am_kind 9 = (1, 84) := by decide +kernel
theorem kd_10 : am_kind 10 = (1, 84) := by decide +kernel
theorem kd_11 : am_kind 11 = (1, 84) := by decide +kernel
theorem kd_12 : am_kind 12 = (4, 2) := by decide +kernel
theorem kd_13 : am_kind 13 = (1, 84) := by decide +kernel
theorem kd_14 : am_kind 14 = (1, 84) := by decide +kernel
theorem kd_15 : am_kind 15 = (0, 4) := by decide +kernel
theorem kd_16 : am_kind 16 = (3, 24) := by decide +kernel
theorem kd_17 : am_kind 17 = (0, 5) := by decide +kernel
theorem kd_18 : am_kind 18 = (0, 2) := by decide +kernel
theorem kd_19 : am_kind 19 = (3, 24) := by decide +kernel
theorem kd_20 : am_kind 20 = (1, 24) := by decide +kernel
theorem kd_21 : am_kind 21 = (1, 24) := by decide +kernel
theorem kd_22 : am_kind 22 = (1, 24) := by decide +kernel
theorem kd_23 : am_kind 23 = (1, 24) := by decide +kernel
theorem kd_24 : am_kind 24 = (1, 24) := by decide +kernel
theorem kd_25 : am_kind 25 = (0, 2) := by decide +kernel
theorem kd_26 : am_kind 26 = (3, 24) := by decide +kernel
theorem kd_27 : am_kind 27 = (1, 24) := by decide +kernel
theorem kd_28 : am_kind 28 = (1, 24) := by decide +kernel
theorem kd_29 : am_kind 29 = (1, 24) := by decide +kernel
theorem kd_30 : am_kind 30 = (1, 24) := by decide +kernel
theorem kd_31 : am_kind 31 = (1, 24) := by decide +kernel
theorem kd_32 : am_kind 32 = (0, 7) := by decide +kernel
theorem kd_33 : am_kind 33 = (1, 60) := by decide +kernel
theorem kd_34 : am_kind 34 = (1, 24) := by decide +kernel
theorem kd_35 : am_kind 35 = (1, 24) := by decide +kernel
theorem kd_36 : am_kind 36 = (1, 24) := by decide +kernel
theorem kd_37 : am_kind 37 = (1, 24) := by decide +kernel
theorem kd_38 : am_kind 38 = (1, 24) := by decide +kernel
theorem kd_39 : am_kind 39 = (1, 24) := by decide +kernel
theorem kd_40 : am_kind 40 = (1, 24) := by decide +kernel
theorem kd_41 : am_kind 41 = (1, 24) := by decide +kernel
theorem kd_42 : am_kind 42 = (1, 24) := by decide +kernel
theorem kd_43 : am_kind 43 = (1, 24) := by decide +kernel
theorem kd_44 : am_kind 44 = (1, 72) := by decide +kernel
theorem kd_45 : am_kind 45 = (1, 141) := by decide +kernel
theorem kd_46 : am_kind 46 = (1, 141) := by decide +kernel
theorem kd_47 : am_kind 47 = (1, 282) := by decide +kernel
theorem kd_48 : am_kind 48 = (2, 141) := by decide +kernel
theorem kd_49 : am_kind 49 = (1, 60) := by decide +kernel
theorem kd_50 : am_kind 50 = (1, 60) := by decide +kernel
theorem kd_51 : am_kind 51 = (1, 24) := by decide +kernel
theorem kd_52 : am_kind 52 = (1, 24) := by decide +kernel
theorem kd_53 : am_kind 53 = (1, 24) := by decide +kernel
theorem kd_54 : am_kind 54 = (1, 24) := by decide +kernel
theorem kd_55 : am_kind 55 = (1, 24) := by decide +kernel
theorem kd_56 : am_kind 56 = (1, 24) := by decide +kernel
theorem kd_57 : am_kind 57 = (1, 24) := by decide +kernel
theorem kd_58 : am_kind 58 = (1, 24) := by decide +kernel
theorem kd_59 : am_kind 59 = (1, 24) := by decide +kernel
theorem kd_60 : am_kind 60 = (1, 2) := by decide +kernel
theorem kd_61 : am_kind 61 = (1, 2) := by decide +kernel
theorem kd_62 : am_kind 62 = (2, 10025) := by decide +kernel
theorem kd_63 : am_kind 63 = (1, 24) := by decide +kernel
theorem kd_64 : am_kind 64 = (1, 24) := by decide +kernel
theorem kd_65 : am_kind 65 = (1, 24) := by decide +kernel
theorem kd_note {a : Int} (h : 66 ≤ a) (h2 : a % 2 = 0) : am_kind a = (0, 3) := by
  unfold am_kind am_kindN
  rw [if_neg (by omega), if_neg (by omega), if_pos (by omega)]
theorem kd_cuts {a : Int} (h : 66 ≤ a) (h2 : a % 2 = 1) : am_kind a = (1, 3) := by
  unfold am_kind am_kindN
  rw [if_neg (by omega), if_neg (by omega), if_neg (by omega)]
/-- the fixed references: (cell, place, what stands there) -/
def am_layL : List (Int × Int × Int) := [(0, 0, 1), (0, 1, 4), (1, 0, 2), (1, 1, 3), (4, 0, 5), (4, 1, 6), (4, 2, 7), (4, 6, 8), (4, 7, 9), (4, 8, 10), (4, 9, 11), (4, 10, 12), (4, 11, 1), (4, 12, 15), (4, 13, 17), (12, 0, 13), (12, 1, 14), (15, 0, 16), (17, 0, 18), (17, 1, 25), (17, 4, 15), (18, 0, 1), (18, 1, 0), (18, 2, 19), (18, 3, 20), (18, 4, 21), (18, 5, 22), (18, 6, 23), (18, 7, 24), (25, 0, 1), (25, 1, 1), (25, 2, 26), (25, 3, 27), (25, 4, 28), (25, 5, 29), (25, 6, 30), (25, 7, 31), (32, 9, 33), (32, 10, 34), (32, 11, 35), (32, 12, 36), (32, 13, 37), (32, 14, 38), (32, 15, 39), (32, 16, 40), (32, 17, 41), (32, 18, 42), (32, 19, 43), (32, 20, 44), (32, 24, 45), (32, 25, 46), (32, 26, 47), (32, 27, 48), (32, 28, 49), (32, 29, 50), (32, 30, 51), (32, 31, 52), (32, 32, 53), (32, 33, 54), (32, 34, 55), (32, 35, 56), (32, 36, 57), (32, 37, 58), (32, 38, 59), (32, 41, 60), (32, 42, 61), (32, 43, 62), (32, 44, 63), (32, 45, 64), (32, 46, 65)]
def Lay (n : Nat) (μ : am_M) : Prop := (∀ q ∈ am_layL, μ q.1 q.2.1 = q.2.2) ∧ ∀ a : Int, 66 ≤ a → a < (n : Int) → a % 2 = 0 → μ a 4 = a + 1
theorem ly_0_0 {n : Nat} {μ : am_M} (h : Lay n μ) : μ 0 0 = 1 := h.1 (0, 0, 1) (List.mem_of_getElem? (i := 0) rfl)
theorem ly_0_1 {n : Nat} {μ : am_M} (h : Lay n μ) : μ 0 1 = 4 := h.1 (0, 1, 4) (List.mem_of_getElem? (i := 1) rfl)
theorem ly_1_0 {n : Nat} {μ : am_M} (h : Lay n μ) : μ 1 0 = 2 := h.1 (1, 0, 2) (List.mem_of_getElem? (i := 2) rfl)
theorem ly_1_1 {n : Nat} {μ : am_M} (h : Lay n μ) : μ 1 1 = 3 := h.1 (1, 1, 3) (List.mem_of_getElem? (i := 3) rfl)
theorem ly_4_0 {n : Nat} {μ : am_M} (h : Lay n μ) : μ 4 0 = 5 := h.1 (4, 0, 5) (List.mem_of_getElem? (i := 4) rfl)
theorem ly_4_1 {n : Nat} {μ : am_M} (h : Lay n μ) : μ 4 1 = 6 := h.1 (4, 1, 6) (List.mem_of_getElem? (i := 5) rfl)
theorem ly_4_2 {n : Nat} {μ : am_M} (h : Lay n μ) : μ 4 2 = 7 := h.1 (4, 2, 7) (List.mem_of_getElem? (i := 6) rfl)
theorem ly_4_6 {n : Nat} {μ : am_M} (h : Lay n μ) : μ 4 6 = 8 := h.1 (4, 6, 8) (List.mem_of_getElem? (i := 7) rfl)
theorem ly_4_7 {n : Nat} {μ : am_M} (h : Lay n μ) : μ 4 7 = 9 := h.1 (4, 7, 9) (List.mem_of_getElem? (i := 8) rfl)
theorem ly_4_8 {n : Nat} {μ : am_M} (h : Lay n μ) : μ 4 8 = 10 := h.1 (4, 8, 10) (List.mem_of_getElem? (i := 9) rfl)
theorem ly_4_9 {n : Nat} {μ : am_M} (h : Lay n μ) : μ 4 9 = 11 := h.1 (4, 9, 11) (List.mem_of_getElem? (i := 10) rfl)
theorem ly_4_10 {n : Nat} {μ : am_M} (h : Lay n μ) : μ 4 10 = 12 := h.1 (4, 10, 12) (List.mem_of_getElem? (i := 11) rfl)
theorem ly_4_11 {n : Nat} {μ : am_M} (h : Lay n μ) : μ 4 11 = 1 := h.1 (4, 11, 1) (List.mem_of_getElem? (i := 12) rfl)
theorem ly_4_12 {n : Nat} {μ : am_M} (h : Lay n μ) : μ 4 12 = 15 := h.1 (4, 12, 15) (List.mem_of_getElem? (i := 13) rfl)
theorem ly_4_13 {n : Nat} {μ : am_M} (h : Lay n μ) : μ 4 13 = 17 := h.1 (4, 13, 17) (List.mem_of_getElem? (i := 14) rfl)
theorem ly_12_0 {n : Nat} {μ : am_M} (h : Lay n μ) : μ 12 0 = 13 := h.1 (12, 0, 13) (List.mem_of_getElem? (i := 15) rfl)
theorem ly_12_1 {n : Nat} {μ : am_M} (h : Lay n μ) : μ 12 1 = 14 := h.1 (12, 1, 14) (List.mem_of_getElem? (i := 16) rfl)
theorem ly_15_0 {n : Nat} {μ : am_M} (h : Lay n μ) : μ 15 0 = 16 := h.1 (15, 0, 16) (List.mem_of_getElem? (i := 17) rfl)
theorem ly_17_0 {n : Nat} {μ : am_M} (h : Lay n μ) : μ 17 0 = 18 := h.1 (17, 0, 18) (List.mem_of_getElem? (i := 18) rfl)
theorem ly_17_1 {n : Nat} {μ : am_M} (h : Lay n μ) : μ 17 1 = 25 := h.1 (17, 1, 25) (List.mem_of_getElem? (i := 19) rfl)
theorem ly_17_4 {n : Nat} {μ : am_M} (h : Lay n μ) : μ 17 4 = 15 := h.1 (17, 4, 15) (List.mem_of_getElem? (i := 20) rfl)
theorem ly_18_0 {n : Nat} {μ : am_M} (h : Lay n μ) : μ 18 0 = 1 := h.1 (18, 0, 1) (List.mem_of_getElem? (i := 21) rfl)
theorem ly_18_1 {n : Nat} {μ : am_M} (h : Lay n μ) : μ 18 1 = 0 := h.1 (18, 1, 0) (List.mem_of_getElem? (i := 22) rfl)
theorem ly_18_2 {n : Nat} {μ : am_M} (h : Lay n μ) : μ 18 2 = 19 := h.1 (18, 2, 19) (List.mem_of_getElem? (i := 23) rfl)
theorem ly_18_3 {n : Nat} {μ : am_M} (h : Lay n μ) : μ 18 3 = 20 := h.1 (18, 3, 20) (List.mem_of_getElem? (i := 24) rfl)
theorem ly_18_4 {n : Nat} {μ : am_M} (h : Lay n μ) : μ 18 4 = 21 := h.1 (18, 4, 21) (List.mem_of_getElem? (i := 25) rfl)
theorem ly_18_5 {n : Nat} {μ : am_M} (h : Lay n μ) : μ 18 5 = 22 := h.1 (18, 5, 22) (List.mem_of_getElem? (i := 26) rfl)
theorem ly_18_6 {n : Nat} {μ : am_M} (h : Lay n μ) : μ 18 6 = 23 := h.1 (18, 6, 23) (List.mem_of_getElem? (i := 27) rfl)
theorem ly_18_7 {n : Nat} {μ : am_M} (h : Lay n μ) : μ 18 7 = 24 := h.1 (18, 7, 24) (List.mem_of_getElem? (i := 28) rfl)
theorem ly_25_0 {n : Nat} {μ : am_M} (h : Lay n μ) : μ 25 0 = 1 := h.1 (25, 0, 1) (List.mem_of_getElem? (i := 29) rfl)
theorem ly_25_1 {n : Nat} {μ : am_M} (h : Lay n μ) : μ 25 1 = 1 := h.1 (25, 1, 1) (List.mem_of_getElem? (i := 30) rfl)
theorem ly_25_2 {n : Nat} {μ : am_M} (h : Lay n μ) : μ 25 2 = 26 := h.1 (25, 2, 26) (List.mem_of_getElem? (i := 31) rfl)
theorem ly_25_3 {n : Nat} {μ : am_M} (h : Lay n μ) : μ 25 3 = 27 := h.1 (25, 3, 27) (List.mem_of_getElem? (i := 32) rfl)
theorem ly_25_4 {n : Nat} {μ : am_M} (h : Lay n μ) : μ 25 4 = 28 := h.1 (25, 4, 28) (List.mem_of_getElem? (i := 33) rfl)
theorem ly_25_5 {n : Nat} {μ : am_M} (h : Lay n μ) : μ 25 5 = 29 := h.1 (25, 5, 29) (List.mem_of_getElem? (i := 34) rfl)
theorem ly_25_6 {n : Nat} {μ : am_M} (h : Lay n μ) : μ 25 6 = 30 := h.1 (25, 6, 30) (List.mem_of_getElem? (i := 35) rfl)
theorem ly_25_7 {n : Nat} {μ : am_M} (h : Lay n μ) : μ 25 7 = 31 := h.1 (25, 7, 31) (List.mem_of_getElem? (i := 36) rfl)
theorem ly_32_9 {n : Nat} {μ : am_M} (h : Lay n μ) : μ 32 9 = 33 := h.1 (32, 9, 33) (List.mem_of_getElem? (i := 37) rfl)
theorem ly_32_10 {n : Nat} {μ : am_M} (h : Lay n μ) : μ 32 10 = 34 := h.1 (32, 10, 34) (List.mem_of_getElem? (i := 38) rfl)
theorem ly_32_11 {n : Nat} {μ : am_M} (h : Lay n μ) : μ 32 11 = 35 := h.1 (32, 11, 35) (List.mem_of_getElem? (i := 39) rfl)
theorem ly_32_12 {n : Nat} {μ : am_M} (h : Lay n μ) : μ 32 12 = 36 := h.1 (32, 12, 36) (List.mem_of_getElem? (i := 40) rfl)
theorem ly_32_13 {n : Nat} {μ : am_M} (h : Lay n μ) : μ 32 13 = 37 := h.1 (32, 13, 37) (List.mem_of_getElem? (i := 41) rfl)
theorem ly_32_14 {n : Nat} {μ : am_M} (h : Lay n μ) : μ 32 14 = 38 := h.1 (32, 14, 38) (List.mem_of_getElem? (i := 42) rfl)
theorem ly_32_15 {n : Nat} {μ : am_M} (h : Lay n μ) : μ 32 15 = 39 := h.1 (32, 15, 39) (List.mem_of_getElem? (i := 43) rfl)
theorem ly_32_16 {n : Nat} {μ : am_M} (h : Lay n μ) : μ 32 16 = 40 := h.1 (32, 16, 40) (List.mem_of_getElem? (i := 44) rfl)
theorem ly_32_17 {n : Nat} {μ : am_M} (h : Lay n μ) : μ 32 17 = 41 := h.1 (32, 17, 41) (List.mem_of_getElem? (i := 45) rfl)
theorem ly_32_18 {n : Nat} {μ : am_M} (h : Lay n μ) : μ 32 18 = 42 := h.1 (32, 18, 42) (List.mem_of_getElem? (i := 46) rfl)
theorem ly_32_19 {n : Nat} {μ : am_M} (h : Lay n μ) : μ 32 19 = 43 := h.1 (32, 19, 43) (List.mem_of_getElem? (i := 47) rfl)
theorem ly_32_20 {n : Nat} {μ : am_M} (h : Lay n μ) : μ 32 20 = 44 := h.1 (32, 20, 44) (List.mem_of_getElem? (i := 48) rfl)
theorem ly_32_24 {n : Nat} {μ : am_M} (h : Lay n μ) : μ 32 24 = 45 := h.1 (32, 24, 45) (List.mem_of_getElem? (i := 49) rfl)
theorem ly_32_25 {n : Nat} {μ : am_M} (h : Lay n μ) : μ 32 25 = 46 := h.1 (32, 25, 46) (List.mem_of_getElem? (i := 50) rfl)
theorem ly_32_26 {n : Nat} {μ : am_M} (h : Lay n μ) : μ 32 26 = 47 := h.1 (32, 26, 47) (List.mem_of_getElem? (i := 51) rfl)
theorem ly_32_27 {n : Nat} {μ : am_M} (h : Lay n μ) : μ 32 27 = 48 := h.1 (32, 27, 48) (List.mem_of_getElem? (i := 52) rfl)
theorem ly_32_28 {n : Nat} {μ : am_M} (h : Lay n μ) : μ 32 28 = 49 := h.1 (32, 28, 49) (List.mem_of_getElem? (i := 53) rfl)
theorem ly_32_29 {n : Nat} {μ : am_M} (h : Lay n μ) : μ 32 29 = 50 := h.1 (32, 29, 50) (List.mem_of_getElem? (i := 54) rfl)
theorem ly_32_30 {n : Nat} {μ : am_M} (h : Lay n μ) : μ 32 30 = 51 := h.1 (32, 30, 51) (List.mem_of_getElem? (i := 55) rfl)
theorem ly_32_31 {n : Nat} {μ : am_M} (h : Lay n μ) : μ 32 31 = 52 := h.1 (32, 31, 52) (List.mem_of_getElem? (i := 56) rfl)
theorem ly_32_32 {n : Nat} {μ : am_M} (h : Lay n μ) : μ 32 32 = 53 := h.1 (32, 32, 53) (List.mem_of_getElem? (i := 57) rfl)
theorem ly_32_33 {n : Nat} {μ : am_M} (h : Lay n μ) : μ 32 33 = 54 := h.1 (32, 33, 54) (List.mem_of_getElem? (i := 58) rfl)
theorem ly_32_34 {n : Nat} {μ : am_M} (h : Lay n μ) : μ 32 34 = 55 := h.1 (32, 34, 55) (List.mem_of_getElem? (i := 59) rfl)
theorem ly_32_35 {n : Nat} {μ : am_M} (h : Lay n μ) : μ 32 35 = 56 := h.1 (32, 35, 56) (List.mem_of_getElem? (i := 60) rfl)
theorem ly_32_36 {n : Nat} {μ : am_M} (h : Lay n μ) : μ 32 36 = 57 := h.1 (32, 36, 57) (List.mem_of_getElem? (i := 61) rfl)
theorem ly_32_37 {n : Nat} {μ : am_M} (h : Lay n μ) : μ 32 37 = 58 := h.1 (32, 37, 58) (List.mem_of_getElem? (i := 62) rfl)
theorem ly_32_38 {n : Nat} {μ : am_M} (h : Lay n μ) : μ 32 38 = 59 := h.1 (32, 38, 59) (List.mem_of_getElem? (i := 63) rfl)
theorem ly_32_41 {n : Nat} {μ : am_M} (h : Lay n μ) : μ 32 41 = 60 := h.1 (32, 41, 60) (List.mem_of_getElem? (i := 64) rfl)
theorem ly_32_42 {n : Nat} {μ : am_M} (h : Lay n μ) : μ 32 42 = 61 := h.1 (32, 42, 61) (List.mem_of_getElem? (i := 65) rfl)
theorem ly_32_43 {n : Nat} {μ : am_M} (h : Lay n μ) : μ 32 43 = 62 := h.1 (32, 43, 62) (List.mem_of_getElem? (i := 66) rfl)
theorem ly_32_44 {n : Nat} {μ : am_M} (h : Lay n μ) : μ 32 44 = 63 := h.1 (32, 44, 63) (List.mem_of_getElem? (i := 67) rfl)
theorem ly_32_45 {n : Nat} {μ : am_M} (h : Lay n μ) : μ 32 45 = 64 := h.1 (32, 45, 64) (List.mem_of_getElem? (i := 68) rfl)
theorem ly_32_46 {n : Nat} {μ : am_M} (h : Lay n μ) : μ 32 46 = 65 := h.1 (32, 46, 65) (List.mem_of_getElem? (i := 69) rfl)
theorem lyN {n : Nat} {μ : am_M} (h : Lay n μ) {a : Int} (h1 : 66 ≤ a) (h2 : a < (n : Int)) (h3 : a % 2 = 0) : μ a 4 = a + 1 := h.2 a h1 h2 h3
theorem Lay.set {n : Nat} {μ : am_M} {a j x : Int} (h : Lay n μ) (h1 : ∀ q ∈ am_layL, q.1 = a → q.2.1 = j → False) (h2 : 66 ≤ a → a % 2 = 0 → j ≠ 4) : Lay n (am_set μ a j x) := by
  refine ⟨fun q hq => ?_, fun b hb1 hb2 hb3 => ?_⟩
  · unfold am_set
    rw [if_neg (fun z => h1 q hq z.1 z.2)]
    exact h.1 q hq
  · unfold am_set
    rw [if_neg (fun z => h2 (by omega) (by omega) z.2.symm)]
    exact h.2 b hb1 hb2 hb3
def am_lcF (a j : Int) : Bool := decide (a < 66) && am_layL.all (fun q => !(decide (q.1 = a) && decide (q.2.1 = j)))
def am_lcA (a : Int) : Bool := decide (a < 66) && am_layL.all (fun q => !decide (q.1 = a))
theorem Lay.setF {n : Nat} {μ : am_M} {a j x : Int} (hc : am_lcF a j = true) (h : Lay n μ) : Lay n (am_set μ a j x) := by
  unfold am_lcF at hc
  simp only [Bool.and_eq_true, decide_eq_true_eq, List.all_eq_true, Bool.not_eq_true', Bool.and_eq_false_iff, decide_eq_false_iff_not] at hc
  exact h.set (fun q hq e1 e2 => (hc.2 q hq).elim (fun z => z e1) (fun z => z e2)) (fun z => absurd hc.1 (by omega))
theorem Lay.setA {n : Nat} {μ : am_M} {a j x : Int} (hc : am_lcA a = true) (h : Lay n μ) : Lay n (am_set μ a j x) := by
  unfold am_lcA at hc
  simp only [Bool.and_eq_true, decide_eq_true_eq, List.all_eq_true, Bool.not_eq_true', decide_eq_false_iff_not] at hc
  exact h.set (fun q hq e1 _ => hc.2 q hq e1) (fun z => absurd hc.1 (by omega))
theorem am_lay66 : am_layL.all (fun q => decide (q.1 < 66)) = true := by decide +kernel
theorem Lay.setN {n : Nat} {μ : am_M} {a j x : Int} (ha : 66 ≤ a) (hj : a % 2 = 0 → j ≠ 4) (h : Lay n μ) : Lay n (am_set μ a j x) :=
  h.set (fun q hq e1 _ => by have := of_decide_eq_true (List.all_eq_true.mp am_lay66 q hq); omega) (fun _ z => hj z)
theorem la_2 : am_lcA 2 = true := by decide +kernel
theorem la_3 : am_lcA 3 = true := by decide +kernel
theorem la_5 : am_lcA 5 = true := by decide +kernel
theorem la_6 : am_lcA 6 = true := by decide +kernel
theorem la_7 : am_lcA 7 = true := by decide +kernel
theorem la_8 : am_lcA 8 = true := by decide +kernel
theorem la_9 : am_lcA 9 = true := by decide +kernel
theorem la_10 : am_lcA 10 = true := by decide +kernel
theorem la_11 : am_lcA 11 = true := by decide +kernel
theorem la_13 : am_lcA 13 = true := by decide +kernel
theorem la_14 : am_lcA 14 = true := by decide +kernel
theorem la_16 : am_lcA 16 = true := by decide +kernel
theorem la_19 : am_lcA 19 = true := by decide +kernel
theorem la_20 : am_lcA 20 = true := by decide +kernel
theorem la_21 : am_lcA 21 = true := by decide +kernel
theorem la_22 : am_lcA 22 = true := by decide +kernel
theorem la_23 : am_lcA 23 = true := by decide +kernel
theorem la_24 : am_lcA 24 = true := by decide +kernel
theorem la_26 : am_lcA 26 = true := by decide +kernel
theorem la_27 : am_lcA 27 = true := by decide +kernel
theorem la_28 : am_lcA 28 = true := by decide +kernel
theorem la_29 : am_lcA 29 = true := by decide +kernel
theorem la_30 : am_lcA 30 = true := by decide +kernel
theorem la_31 : am_lcA 31 = true := by decide +kernel
theorem la_33 : am_lcA 33 = true := by decide +kernel
theorem la_34 : am_lcA 34 = true := by decide +kernel
theorem la_35 : am_lcA 35 = true := by decide +kernel
theorem la_36 : am_lcA 36 = true := by decide +kernel
theorem la_37 : am_lcA 37 = true := by decide +kernel
theorem la_38 : am_lcA 38 = true := by decide +kernel
theorem la_39 : am_lcA 39 = true := by decide +kernel
theorem la_40 : am_lcA 40 = true := by decide +kernel
theorem la_41 : am_lcA 41 = true := by decide +kernel
theorem la_42 : am_lcA 42 = true := by decide +kernel
theorem la_43 : am_lcA 43 = true := by decide +kernel
theorem la_44 : am_lcA 44 = true := by decide +kernel
theorem la_45 : am_lcA 45 = true := by decide +kernel
theorem la_46 : am_lcA 46 = true := by decide +kernel
theorem la_47 : am_lcA 47 = true := by decide +kernel
theorem la_48 : am_lcA 48 = true := by decide +kernel
theorem la_49 : am_lcA 49 = true := by decide +kernel
theorem la_50 : am_lcA 50 = true := by decide +kernel
theorem la_51 : am_lcA 51 = true := by decide +kernel
theorem la_52 : am_lcA 52 = true := by decide +kernel
theorem la_53 : am_lcA 53 = true := by decide +kernel
theorem la_54 : am_lcA 54 = true := by decide +kernel
theorem la_55 : am_lcA 55 = true := by decide +kernel
theorem la_56 : am_lcA 56 = true := by decide +kernel
theorem la_57 : am_lcA 57 = true := by decide +kernel
theorem la_58 : am_lcA 58 = true := by decide +kernel
theorem la_59 : am_lcA 59 = true := by decide +kernel
theorem la_60 : am_lcA 60 = true := by decide +kernel
theorem la_61 : am_lcA 61 = true := by decide +kernel
theorem la_62 : am_lcA 62 = true := by decide +kernel
theorem la_63 : am_lcA 63 = true := by decide +kernel
theorem la_64 : am_lcA 64 = true := by decide +kernel
theorem la_65 : am_lcA 65 = true := by decide +kernel
theorem lf_0_2 : am_lcF 0 2 = true := by decide +kernel
theorem lf_1_2 : am_lcF 1 2 = true := by decide +kernel
theorem lf_1_3 : am_lcF 1 3 = true := by decide +kernel
theorem lf_1_4 : am_lcF 1 4 = true := by decide +kernel
theorem lf_1_5 : am_lcF 1 5 = true := by decide +kernel
theorem lf_1_6 : am_lcF 1 6 = true := by decide +kernel
theorem lf_1_7 : am_lcF 1 7 = true := by decide +kernel
theorem lf_1_8 : am_lcF 1 8 = true := by decide +kernel
theorem lf_4_3 : am_lcF 4 3 = true := by decide +kernel
theorem lf_4_4 : am_lcF 4 4 = true := by decide +kernel
theorem lf_4_5 : am_lcF 4 5 = true := by decide +kernel
theorem lf_15_1 : am_lcF 15 1 = true := by decide +kernel
theorem lf_17_2 : am_lcF 17 2 = true := by decide +kernel
theorem lf_17_3 : am_lcF 17 3 = true := by decide +kernel
theorem lf_17_5 : am_lcF 17 5 = true := by decide +kernel
theorem lf_17_6 : am_lcF 17 6 = true := by decide +kernel
theorem lf_18_8 : am_lcF 18 8 = true := by decide +kernel
theorem lf_18_9 : am_lcF 18 9 = true := by decide +kernel
theorem lf_18_10 : am_lcF 18 10 = true := by decide +kernel
theorem lf_18_11 : am_lcF 18 11 = true := by decide +kernel
theorem lf_18_12 : am_lcF 18 12 = true := by decide +kernel
theorem lf_25_8 : am_lcF 25 8 = true := by decide +kernel
theorem lf_25_9 : am_lcF 25 9 = true := by decide +kernel
theorem lf_25_10 : am_lcF 25 10 = true := by decide +kernel
theorem lf_25_11 : am_lcF 25 11 = true := by decide +kernel
theorem lf_25_12 : am_lcF 25 12 = true := by decide +kernel
theorem lf_32_0 : am_lcF 32 0 = true := by decide +kernel
theorem lf_32_1 : am_lcF 32 1 = true := by decide +kernel
theorem lf_32_2 : am_lcF 32 2 = true := by decide +kernel
theorem lf_32_3 : am_lcF 32 3 = true := by decide +kernel
theorem lf_32_4 : am_lcF 32 4 = true := by decide +kernel
theorem lf_32_5 : am_lcF 32 5 = true := by decide +kernel
theorem lf_32_6 : am_lcF 32 6 = true := by decide +kernel
theorem lf_32_7 : am_lcF 32 7 = true := by decide +kernel
theorem lf_32_8 : am_lcF 32 8 = true := by decide +kernel
theorem lf_32_21 : am_lcF 32 21 = true := by decide +kernel
theorem lf_32_22 : am_lcF 32 22 = true := by decide +kernel
theorem lf_32_23 : am_lcF 32 23 = true := by decide +kernel
theorem lf_32_39 : am_lcF 32 39 = true := by decide +kernel
theorem lf_32_40 : am_lcF 32 40 = true := by decide +kernel
