-- the law's calls
set_option maxRecDepth 100000 in
theorem cvL_21 : CV RL 21 yX7_feed cX7_feed 6 (some .int) 5 7 := ⟨⟨GT_3 13 rfl rfl, GT_3 10 rfl rfl, GT_1 1 rfl rfl, ⟨by decide, by decide, by decide +kernel⟩⟩, GT_3 11 rfl rfl, GT_3 12 rfl rfl, by decide⟩
set_option maxRecDepth 100000 in
theorem cvL_25 : CV RL 25 yX8_feed cX8_feed 8 (some .int) 5 8 := ⟨⟨GT_7 1 rfl rfl, GT_6 238 rfl rfl, GT_1 13 rfl rfl, ⟨by decide, by decide, by decide +kernel⟩⟩, GT_6 239 rfl rfl, GT_7 0 rfl rfl, by decide⟩
set_option maxRecDepth 100000 in
theorem cvL_26 : CV RL 26 yX7_text cX7_text 4 (some .int) 1 7 := ⟨⟨GT_3 21 rfl rfl, GT_3 18 rfl rfl, GT_1 1 rfl rfl, ⟨by decide, by decide, by decide +kernel⟩⟩, GT_3 19 rfl rfl, GT_3 20 rfl rfl, by decide⟩
set_option maxRecDepth 100000 in
theorem cvL_30 : CV RL 30 yX8_text cX8_text 3 (some .int) 1 8 := ⟨⟨GT_7 5 rfl rfl, GT_7 2 rfl rfl, GT_1 13 rfl rfl, ⟨by decide, by decide, by decide +kernel⟩⟩, GT_7 3 rfl rfl, GT_7 4 rfl rfl, by decide⟩
set_option maxRecDepth 100000 in
theorem cvL_31 : CV RL 31 yX7_fault cX7_fault 2 (some .int) 1 7 := ⟨⟨GT_3 197 rfl rfl, GT_3 194 rfl rfl, GT_1 1 rfl rfl, ⟨by decide, by decide, by decide +kernel⟩⟩, GT_3 195 rfl rfl, GT_3 196 rfl rfl, by decide⟩
set_option maxRecDepth 100000 in
theorem cvL_34 : CV RL 34 yX8_fault cX8_fault 2 (some .int) 1 8 := ⟨⟨GT_7 119 rfl rfl, GT_7 116 rfl rfl, GT_1 13 rfl rfl, ⟨by decide, by decide, by decide +kernel⟩⟩, GT_7 117 rfl rfl, GT_7 118 rfl rfl, by decide⟩
set_option maxRecDepth 100000 in
theorem cvL_35 : CV RL 35 yX7_named cX7_named 2 (some .int) 1 7 := ⟨⟨GT_3 201 rfl rfl, GT_3 198 rfl rfl, GT_1 1 rfl rfl, ⟨by decide, by decide, by decide +kernel⟩⟩, GT_3 199 rfl rfl, GT_3 200 rfl rfl, by decide⟩
set_option maxRecDepth 100000 in
theorem cvL_38 : CV RL 38 yX8_named cX8_named 2 (some .int) 1 8 := ⟨⟨GT_7 123 rfl rfl, GT_7 120 rfl rfl, GT_1 13 rfl rfl, ⟨by decide, by decide, by decide +kernel⟩⟩, GT_7 121 rfl rfl, GT_7 122 rfl rfl, by decide⟩
set_option maxRecDepth 100000 in
theorem cvL_49 : CV RL 49 yX7_croft cX7_croft 3 (some .int) 2 7 := ⟨⟨GT_3 206 rfl rfl, GT_3 203 rfl rfl, GT_1 1 rfl rfl, ⟨by decide, by decide, by decide +kernel⟩⟩, GT_3 204 rfl rfl, GT_3 205 rfl rfl, by decide⟩
set_option maxRecDepth 100000 in
theorem cvL_52 : CV RL 52 yX8_croft cX8_croft 3 (some .int) 2 8 := ⟨⟨GT_7 139 rfl rfl, GT_7 136 rfl rfl, GT_1 13 rfl rfl, ⟨by decide, by decide, by decide +kernel⟩⟩, GT_7 137 rfl rfl, GT_7 138 rfl rfl, by decide⟩
set_option maxRecDepth 100000 in
theorem cvL_53 : CV RL 53 yX7_field cX7_field 3 (some .int) 2 7 := ⟨⟨GT_3 218 rfl rfl, GT_3 215 rfl rfl, GT_1 1 rfl rfl, ⟨by decide, by decide, by decide +kernel⟩⟩, GT_3 216 rfl rfl, GT_3 217 rfl rfl, by decide⟩
set_option maxRecDepth 100000 in
theorem cvL_56 : CV RL 56 yX8_field cX8_field 3 (some .int) 2 8 := ⟨⟨GT_7 151 rfl rfl, GT_7 148 rfl rfl, GT_1 13 rfl rfl, ⟨by decide, by decide, by decide +kernel⟩⟩, GT_7 149 rfl rfl, GT_7 150 rfl rfl, by decide⟩
set_option maxRecDepth 100000 in
theorem cvL_57 : CV RL 57 yX7_source cX7_source 3 (some .int) 2 7 := ⟨⟨GT_4 9 rfl rfl, GT_4 6 rfl rfl, GT_1 1 rfl rfl, ⟨by decide, by decide, by decide +kernel⟩⟩, GT_4 7 rfl rfl, GT_4 8 rfl rfl, by decide⟩
set_option maxRecDepth 100000 in
theorem cvL_60 : CV RL 60 yX8_source cX8_source 3 (some .int) 2 8 := ⟨⟨GT_7 196 rfl rfl, GT_7 193 rfl rfl, GT_1 13 rfl rfl, ⟨by decide, by decide, by decide +kernel⟩⟩, GT_7 194 rfl rfl, GT_7 195 rfl rfl, by decide⟩
set_option maxRecDepth 100000 in
theorem cvL_61 : CV RL 61 yX7_law cX7_law 4 (some .long) 3 7 := ⟨⟨GT_4 17 rfl rfl, GT_4 14 rfl rfl, GT_1 1 rfl rfl, ⟨by decide, by decide, by decide +kernel⟩⟩, GT_4 15 rfl rfl, GT_4 16 rfl rfl, by decide⟩
set_option maxRecDepth 100000 in
theorem cvL_65 : CV RL 65 yX8_law cX8_law 6 (some .long) 3 8 := ⟨⟨GT_7 204 rfl rfl, GT_7 201 rfl rfl, GT_1 13 rfl rfl, ⟨by decide, by decide, by decide +kernel⟩⟩, GT_7 202 rfl rfl, GT_7 203 rfl rfl, by decide⟩
set_option maxRecDepth 100000 in
theorem cvL_66 : CV RL 66 yX7_act cX7_act 3 (some .boolean) 2 7 := ⟨⟨GT_4 36 rfl rfl, GT_4 33 rfl rfl, GT_1 1 rfl rfl, ⟨by decide, by decide, by decide +kernel⟩⟩, GT_4 34 rfl rfl, GT_4 35 rfl rfl, by decide⟩
set_option maxRecDepth 100000 in
theorem cvL_70 : CV RL 70 yX8_act cX8_act 3 (some .boolean) 2 8 := ⟨⟨GT_7 213 rfl rfl, GT_7 210 rfl rfl, GT_1 13 rfl rfl, ⟨by decide, by decide, by decide +kernel⟩⟩, GT_7 211 rfl rfl, GT_7 212 rfl rfl, by decide⟩
set_option maxRecDepth 100000 in
theorem cvL_71 : CV RL 71 yX7_rule cX7_rule 2 (some .boolean) 1 7 := ⟨⟨GT_4 45 rfl rfl, GT_4 42 rfl rfl, GT_1 1 rfl rfl, ⟨by decide, by decide, by decide +kernel⟩⟩, GT_4 43 rfl rfl, GT_4 44 rfl rfl, by decide⟩
set_option maxRecDepth 100000 in
theorem cvL_75 : CV RL 75 yX8_rule cX8_rule 2 (some .boolean) 1 8 := ⟨⟨GT_7 225 rfl rfl, GT_7 222 rfl rfl, GT_1 13 rfl rfl, ⟨by decide, by decide, by decide +kernel⟩⟩, GT_7 223 rfl rfl, GT_7 224 rfl rfl, by decide⟩
set_option maxRecDepth 100000 in
theorem cvL_76 : CV RL 76 yX7_lot cX7_lot 3 (some .boolean) 2 7 := ⟨⟨GT_4 52 rfl rfl, GT_4 49 rfl rfl, GT_1 1 rfl rfl, ⟨by decide, by decide, by decide +kernel⟩⟩, GT_4 50 rfl rfl, GT_4 51 rfl rfl, by decide⟩
set_option maxRecDepth 100000 in
theorem cvL_79 : CV RL 79 yX8_lot cX8_lot 3 (some .boolean) 2 8 := ⟨⟨GT_7 229 rfl rfl, GT_7 226 rfl rfl, GT_1 13 rfl rfl, ⟨by decide, by decide, by decide +kernel⟩⟩, GT_7 227 rfl rfl, GT_7 228 rfl rfl, by decide⟩
set_option maxRecDepth 100000 in
theorem cvL_80 : CV RL 80 yX7_lend cX7_lend 3 (some .boolean) 2 7 := ⟨⟨GT_4 56 rfl rfl, GT_4 53 rfl rfl, GT_1 1 rfl rfl, ⟨by decide, by decide, by decide +kernel⟩⟩, GT_4 54 rfl rfl, GT_4 55 rfl rfl, by decide⟩
set_option maxRecDepth 100000 in
theorem cvL_83 : CV RL 83 yX8_lend cX8_lend 3 (some .boolean) 2 8 := ⟨⟨GT_7 233 rfl rfl, GT_7 230 rfl rfl, GT_1 13 rfl rfl, ⟨by decide, by decide, by decide +kernel⟩⟩, GT_7 231 rfl rfl, GT_7 232 rfl rfl, by decide⟩
set_option maxRecDepth 100000 in
theorem cvL_84 : CV RL 84 yX7_go cX7_go 2 (some .int) 1 7 := ⟨⟨GT_4 68 rfl rfl, GT_4 65 rfl rfl, GT_1 1 rfl rfl, ⟨by decide, by decide, by decide +kernel⟩⟩, GT_4 66 rfl rfl, GT_4 67 rfl rfl, by decide⟩
set_option maxRecDepth 100000 in
theorem cvL_87 : CV RL 87 yX8_go cX8_go 3 (some .int) 1 8 := ⟨⟨GT_8 1 rfl rfl, GT_7 238 rfl rfl, GT_1 13 rfl rfl, ⟨by decide, by decide, by decide +kernel⟩⟩, GT_7 239 rfl rfl, GT_8 0 rfl rfl, by decide⟩
set_option maxRecDepth 100000 in
theorem cvL_88 : CV RL 88 yX7_table cX7_table 5 (some .int) 3 7 := ⟨⟨GT_4 124 rfl rfl, GT_4 121 rfl rfl, GT_1 1 rfl rfl, ⟨by decide, by decide, by decide +kernel⟩⟩, GT_4 122 rfl rfl, GT_4 123 rfl rfl, by decide⟩
set_option maxRecDepth 100000 in
theorem cvL_92 : CV RL 92 yX8_table cX8_table 4 (some .int) 3 8 := ⟨⟨GT_8 57 rfl rfl, GT_8 54 rfl rfl, GT_1 13 rfl rfl, ⟨by decide, by decide, by decide +kernel⟩⟩, GT_8 55 rfl rfl, GT_8 56 rfl rfl, by decide⟩
set_option maxRecDepth 100000 in
theorem cvL_93 : CV RL 93 yX7_best cX7_best 6 (some .int) 1 7 := ⟨⟨GT_4 147 rfl rfl, GT_4 144 rfl rfl, GT_1 1 rfl rfl, ⟨by decide, by decide, by decide +kernel⟩⟩, GT_4 145 rfl rfl, GT_4 146 rfl rfl, by decide⟩
set_option maxRecDepth 100000 in
theorem cvL_96 : CV RL 96 yX8_best cX8_best 5 (some .int) 1 8 := ⟨⟨GT_8 81 rfl rfl, GT_8 78 rfl rfl, GT_1 13 rfl rfl, ⟨by decide, by decide, by decide +kernel⟩⟩, GT_8 79 rfl rfl, GT_8 80 rfl rfl, by decide⟩
set_option maxRecDepth 100000 in
theorem cvL_97 : CV RL 97 yX7_plan cX7_plan 3 (some .int) 2 7 := ⟨⟨GT_4 151 rfl rfl, GT_4 148 rfl rfl, GT_1 1 rfl rfl, ⟨by decide, by decide, by decide +kernel⟩⟩, GT_4 149 rfl rfl, GT_4 150 rfl rfl, by decide⟩
set_option maxRecDepth 100000 in
theorem cvL_100 : CV RL 100 yX8_plan cX8_plan 3 (some .int) 2 8 := ⟨⟨GT_8 85 rfl rfl, GT_8 82 rfl rfl, GT_1 13 rfl rfl, ⟨by decide, by decide, by decide +kernel⟩⟩, GT_8 83 rfl rfl, GT_8 84 rfl rfl, by decide⟩
set_option maxRecDepth 100000 in
theorem cvL_101 : CV RL 101 yX7_planned cX7_planned 4 (some .int) 3 7 := ⟨⟨GT_4 172 rfl rfl, GT_4 169 rfl rfl, GT_1 1 rfl rfl, ⟨by decide, by decide, by decide +kernel⟩⟩, GT_4 170 rfl rfl, GT_4 171 rfl rfl, by decide⟩
set_option maxRecDepth 100000 in
theorem cvL_104 : CV RL 104 yX8_planned cX8_planned 4 (some .int) 3 8 := ⟨⟨GT_8 99 rfl rfl, GT_8 96 rfl rfl, GT_1 13 rfl rfl, ⟨by decide, by decide, by decide +kernel⟩⟩, GT_8 97 rfl rfl, GT_8 98 rfl rfl, by decide⟩
set_option maxRecDepth 100000 in
theorem cvL_105 : CV RL 105 yX7_rests cX7_rests 6 (some .int) 3 7 := ⟨⟨GT_4 176 rfl rfl, GT_4 173 rfl rfl, GT_1 1 rfl rfl, ⟨by decide, by decide, by decide +kernel⟩⟩, GT_4 174 rfl rfl, GT_4 175 rfl rfl, by decide⟩
set_option maxRecDepth 100000 in
theorem cvL_108 : CV RL 108 yX8_rests cX8_rests 4 (some .int) 3 8 := ⟨⟨GT_8 103 rfl rfl, GT_8 100 rfl rfl, GT_1 13 rfl rfl, ⟨by decide, by decide, by decide +kernel⟩⟩, GT_8 101 rfl rfl, GT_8 102 rfl rfl, by decide⟩
set_option maxRecDepth 100000 in
theorem cvL_109 : CV RL 109 yX7_rest cX7_rest 7 (some .int) 4 7 := ⟨⟨GT_4 192 rfl rfl, GT_4 189 rfl rfl, GT_1 1 rfl rfl, ⟨by decide, by decide, by decide +kernel⟩⟩, GT_4 190 rfl rfl, GT_4 191 rfl rfl, by decide⟩
set_option maxRecDepth 100000 in
theorem cvL_113 : CV RL 113 yX8_rest cX8_rest 5 (some .int) 4 8 := ⟨⟨GT_8 115 rfl rfl, GT_8 112 rfl rfl, GT_1 13 rfl rfl, ⟨by decide, by decide, by decide +kernel⟩⟩, GT_8 113 rfl rfl, GT_8 114 rfl rfl, by decide⟩
set_option maxRecDepth 100000 in
theorem cvL_114 : CV RL 114 yX7_unlike cX7_unlike 1 (some .int) 0 7 := ⟨⟨GT_4 196 rfl rfl, GT_4 193 rfl rfl, GT_1 1 rfl rfl, ⟨by decide, by decide, by decide +kernel⟩⟩, GT_4 194 rfl rfl, GT_4 195 rfl rfl, by decide⟩
set_option maxRecDepth 100000 in
theorem cvL_117 : CV RL 117 yX8_unlike cX8_unlike 1 (some .int) 0 8 := ⟨⟨GT_8 119 rfl rfl, GT_8 116 rfl rfl, GT_1 13 rfl rfl, ⟨by decide, by decide, by decide +kernel⟩⟩, GT_8 117 rfl rfl, GT_8 118 rfl rfl, by decide⟩
set_option maxRecDepth 100000 in
theorem cvL_118 : CV RL 118 yX7_swap cX7_swap 2 (some .int) 1 7 := ⟨⟨GT_4 214 rfl rfl, GT_4 211 rfl rfl, GT_1 1 rfl rfl, ⟨by decide, by decide, by decide +kernel⟩⟩, GT_4 212 rfl rfl, GT_4 213 rfl rfl, by decide⟩
set_option maxRecDepth 100000 in
theorem cvL_121 : CV RL 121 yX8_swap cX8_swap 8 (some .int) 1 8 := ⟨⟨GT_8 127 rfl rfl, GT_8 124 rfl rfl, GT_1 13 rfl rfl, ⟨by decide, by decide, by decide +kernel⟩⟩, GT_8 125 rfl rfl, GT_8 126 rfl rfl, by decide⟩
set_option maxRecDepth 100000 in
theorem cvL_122 : CV RL 122 yX7_lending cX7_lending 9 (some .int) 4 7 := ⟨⟨GT_4 222 rfl rfl, GT_4 219 rfl rfl, GT_1 1 rfl rfl, ⟨by decide, by decide, by decide +kernel⟩⟩, GT_4 220 rfl rfl, GT_4 221 rfl rfl, by decide⟩
set_option maxRecDepth 100000 in
theorem cvL_125 : CV RL 125 yX8_lending cX8_lending 7 (some .int) 4 8 := ⟨⟨GT_8 135 rfl rfl, GT_8 132 rfl rfl, GT_1 13 rfl rfl, ⟨by decide, by decide, by decide +kernel⟩⟩, GT_8 133 rfl rfl, GT_8 134 rfl rfl, by decide⟩
set_option maxRecDepth 100000 in
theorem cvL_126 : CV RL 126 yX7_turns cX7_turns 2 (some .int) 1 7 := ⟨⟨GT_4 226 rfl rfl, GT_4 223 rfl rfl, GT_1 1 rfl rfl, ⟨by decide, by decide, by decide +kernel⟩⟩, GT_4 224 rfl rfl, GT_4 225 rfl rfl, by decide⟩
set_option maxRecDepth 100000 in
theorem cvL_129 : CV RL 129 yX8_turns cX8_turns 2 (some .int) 1 8 := ⟨⟨GT_8 139 rfl rfl, GT_8 136 rfl rfl, GT_1 13 rfl rfl, ⟨by decide, by decide, by decide +kernel⟩⟩, GT_8 137 rfl rfl, GT_8 138 rfl rfl, by decide⟩
set_option maxRecDepth 100000 in
theorem cvL_130 : CV RL 130 yX7_turn cX7_turn 3 (some .int) 2 7 := ⟨⟨GT_4 239 rfl rfl, GT_4 236 rfl rfl, GT_1 1 rfl rfl, ⟨by decide, by decide, by decide +kernel⟩⟩, GT_4 237 rfl rfl, GT_4 238 rfl rfl, by decide⟩
set_option maxRecDepth 100000 in
theorem cvL_133 : CV RL 133 yX8_turn cX8_turn 3 (some .int) 2 8 := ⟨⟨GT_8 152 rfl rfl, GT_8 149 rfl rfl, GT_1 13 rfl rfl, ⟨by decide, by decide, by decide +kernel⟩⟩, GT_8 150 rfl rfl, GT_8 151 rfl rfl, by decide⟩
set_option maxRecDepth 100000 in
theorem cvL_134 : CV RL 134 yX7_odds cX7_odds 6 (some .int) 2 7 := ⟨⟨GT_5 3 rfl rfl, GT_5 0 rfl rfl, GT_1 1 rfl rfl, ⟨by decide, by decide, by decide +kernel⟩⟩, GT_5 1 rfl rfl, GT_5 2 rfl rfl, by decide⟩
set_option maxRecDepth 100000 in
theorem cvL_137 : CV RL 137 yX8_odds cX8_odds 6 (some .int) 2 8 := ⟨⟨GT_8 156 rfl rfl, GT_8 153 rfl rfl, GT_1 13 rfl rfl, ⟨by decide, by decide, by decide +kernel⟩⟩, GT_8 154 rfl rfl, GT_8 155 rfl rfl, by decide⟩
set_option maxRecDepth 100000 in
theorem cvL_138 : CV RL 138 yX7_see cX7_see 4 (some .int) 3 7 := ⟨⟨GT_5 10 rfl rfl, GT_5 7 rfl rfl, GT_1 1 rfl rfl, ⟨by decide, by decide, by decide +kernel⟩⟩, GT_5 8 rfl rfl, GT_5 9 rfl rfl, by decide⟩
set_option maxRecDepth 100000 in
theorem cvL_142 : CV RL 142 yX8_see cX8_see 4 (some .int) 3 8 := ⟨⟨GT_8 163 rfl rfl, GT_8 160 rfl rfl, GT_1 13 rfl rfl, ⟨by decide, by decide, by decide +kernel⟩⟩, GT_8 161 rfl rfl, GT_8 162 rfl rfl, by decide⟩
set_option maxRecDepth 100000 in
theorem cvL_143 : CV RL 143 yX7_strike cX7_strike 2 (some .int) 1 7 := ⟨⟨GT_5 18 rfl rfl, GT_5 15 rfl rfl, GT_1 1 rfl rfl, ⟨by decide, by decide, by decide +kernel⟩⟩, GT_5 16 rfl rfl, GT_5 17 rfl rfl, by decide⟩
set_option maxRecDepth 100000 in
theorem cvL_146 : CV RL 146 yX8_strike cX8_strike 2 (some .int) 1 8 := ⟨⟨GT_8 171 rfl rfl, GT_8 168 rfl rfl, GT_1 13 rfl rfl, ⟨by decide, by decide, by decide +kernel⟩⟩, GT_8 169 rfl rfl, GT_8 170 rfl rfl, by decide⟩
set_option maxRecDepth 100000 in
theorem cvL_147 : CV RL 147 yX7_known cX7_known 2 (some .boolean) 1 7 := ⟨⟨GT_5 22 rfl rfl, GT_5 19 rfl rfl, GT_1 1 rfl rfl, ⟨by decide, by decide, by decide +kernel⟩⟩, GT_5 20 rfl rfl, GT_5 21 rfl rfl, by decide⟩
set_option maxRecDepth 100000 in
theorem cvL_150 : CV RL 150 yX8_known cX8_known 2 (some .boolean) 1 8 := ⟨⟨GT_8 175 rfl rfl, GT_8 172 rfl rfl, GT_1 13 rfl rfl, ⟨by decide, by decide, by decide +kernel⟩⟩, GT_8 173 rfl rfl, GT_8 174 rfl rfl, by decide⟩
set_option maxRecDepth 100000 in
theorem cvL_151 : CV RL 151 yX7_came cX7_came 4 (some .int) 1 7 := ⟨⟨GT_5 26 rfl rfl, GT_5 23 rfl rfl, GT_1 1 rfl rfl, ⟨by decide, by decide, by decide +kernel⟩⟩, GT_5 24 rfl rfl, GT_5 25 rfl rfl, by decide⟩
set_option maxRecDepth 100000 in
theorem cvL_154 : CV RL 154 yX8_came cX8_came 7 (some .int) 1 8 := ⟨⟨GT_8 179 rfl rfl, GT_8 176 rfl rfl, GT_1 13 rfl rfl, ⟨by decide, by decide, by decide +kernel⟩⟩, GT_8 177 rfl rfl, GT_8 178 rfl rfl, by decide⟩
set_option maxRecDepth 100000 in
theorem cvL_155 : CV RL 155 yX7_chance cX7_chance 9 (some .int) 4 7 := ⟨⟨GT_5 55 rfl rfl, GT_5 52 rfl rfl, GT_1 1 rfl rfl, ⟨by decide, by decide, by decide +kernel⟩⟩, GT_5 53 rfl rfl, GT_5 54 rfl rfl, by decide⟩
set_option maxRecDepth 100000 in
theorem cvL_158 : CV RL 158 yX8_chance cX8_chance 10 (some .int) 4 8 := ⟨⟨GT_8 191 rfl rfl, GT_8 188 rfl rfl, GT_1 13 rfl rfl, ⟨by decide, by decide, by decide +kernel⟩⟩, GT_8 189 rfl rfl, GT_8 190 rfl rfl, by decide⟩
set_option maxRecDepth 100000 in
theorem cvL_159 : CV RL 159 yX7_tried cX7_tried 6 (some .int) 3 7 := ⟨⟨GT_5 60 rfl rfl, GT_5 57 rfl rfl, GT_1 1 rfl rfl, ⟨by decide, by decide, by decide +kernel⟩⟩, GT_5 58 rfl rfl, GT_5 59 rfl rfl, by decide⟩
set_option maxRecDepth 100000 in
theorem cvL_162 : CV RL 162 yX8_tried cX8_tried 5 (some .int) 3 8 := ⟨⟨GT_8 195 rfl rfl, GT_8 192 rfl rfl, GT_1 13 rfl rfl, ⟨by decide, by decide, by decide +kernel⟩⟩, GT_8 193 rfl rfl, GT_8 194 rfl rfl, by decide⟩
set_option maxRecDepth 100000 in
theorem cvL_163 : CV RL 163 yX7_undo cX7_undo 1 (some .int) 0 7 := ⟨⟨GT_5 69 rfl rfl, GT_5 66 rfl rfl, GT_1 1 rfl rfl, ⟨by decide, by decide, by decide +kernel⟩⟩, GT_5 67 rfl rfl, GT_5 68 rfl rfl, by decide⟩
set_option maxRecDepth 100000 in
theorem cvL_166 : CV RL 166 yX8_undo cX8_undo 1 (some .int) 0 8 := ⟨⟨GT_8 199 rfl rfl, GT_8 196 rfl rfl, GT_1 13 rfl rfl, ⟨by decide, by decide, by decide +kernel⟩⟩, GT_8 197 rfl rfl, GT_8 198 rfl rfl, by decide⟩
set_option maxRecDepth 100000 in
theorem cvL_167 : CV RL 167 yX7_keep cX7_keep 1 (some .int) 0 7 := ⟨⟨GT_5 78 rfl rfl, GT_5 75 rfl rfl, GT_1 1 rfl rfl, ⟨by decide, by decide, by decide +kernel⟩⟩, GT_5 76 rfl rfl, GT_5 77 rfl rfl, by decide⟩
set_option maxRecDepth 100000 in
theorem cvL_170 : CV RL 170 yX8_keep cX8_keep 2 (some .int) 0 8 := ⟨⟨GT_8 207 rfl rfl, GT_8 204 rfl rfl, GT_1 13 rfl rfl, ⟨by decide, by decide, by decide +kernel⟩⟩, GT_8 205 rfl rfl, GT_8 206 rfl rfl, by decide⟩
set_option maxRecDepth 100000 in
theorem cvL_171 : CV RL 171 yX7_back cX7_back 1 (some .int) 0 7 := ⟨⟨GT_5 82 rfl rfl, GT_5 79 rfl rfl, GT_1 1 rfl rfl, ⟨by decide, by decide, by decide +kernel⟩⟩, GT_5 80 rfl rfl, GT_5 81 rfl rfl, by decide⟩
set_option maxRecDepth 100000 in
theorem cvL_174 : CV RL 174 yX8_back cX8_back 2 (some .int) 0 8 := ⟨⟨GT_8 211 rfl rfl, GT_8 208 rfl rfl, GT_1 13 rfl rfl, ⟨by decide, by decide, by decide +kernel⟩⟩, GT_8 209 rfl rfl, GT_8 210 rfl rfl, by decide⟩
set_option maxRecDepth 100000 in
theorem cvL_175 : CV RL 175 yX7_count cX7_count 2 (some .int) 1 7 := ⟨⟨GT_5 86 rfl rfl, GT_5 83 rfl rfl, GT_1 1 rfl rfl, ⟨by decide, by decide, by decide +kernel⟩⟩, GT_5 84 rfl rfl, GT_5 85 rfl rfl, by decide⟩
set_option maxRecDepth 100000 in
theorem cvL_178 : CV RL 178 yX8_count cX8_count 2 (some .int) 1 8 := ⟨⟨GT_8 215 rfl rfl, GT_8 212 rfl rfl, GT_1 13 rfl rfl, ⟨by decide, by decide, by decide +kernel⟩⟩, GT_8 213 rfl rfl, GT_8 214 rfl rfl, by decide⟩
