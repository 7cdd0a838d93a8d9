set_option maxRecDepth 100000 in
theorem wd_664 : Cond.constantLong "WeedStrand$Laws" 39 (-9223372036854775808) ∈ GT := GT_3 138 rfl rfl
set_option maxRecDepth 100000 in
theorem wd_668 : Cond.constantLong "WeedStrand$Laws" 47 1000000000000 ∈ GT := GT_3 142 rfl rfl
set_option maxRecDepth 100000 in
theorem wd_669 : Cond.constantLong "WeedStrand$Laws" 49 (-1000000000000) ∈ GT := GT_3 143 rfl rfl
set_option maxRecDepth 100000 in
theorem wd_670 : Cond.constantLong "WeedStrand$Strand" 171 (-9223372036854775808) ∈ GT := GT_3 144 rfl rfl
set_option maxRecDepth 100000 in
theorem wd_690 : Cond.methodLink "WeedStrand$Undos" 25 (⟨"java/lang/System", "arraycopy", "(Ljava/lang/Object;ILjava/lang/Object;II)V"⟩ : MethodName) ∈ GT := GT_3 164 rfl rfl
set_option maxRecDepth 100000 in
theorem wd_728 : Cond.constantLong "WeedStrand$Strand" 101 1103515245 ∈ GT := GT_3 202 rfl rfl
set_option maxRecDepth 100000 in
theorem wd_729 : Cond.constantLong "WeedStrand$Strand" 103 12345 ∈ GT := GT_3 203 rfl rfl
set_option maxRecDepth 100000 in
theorem wd_730 : Cond.constantLong "WeedStrand$Strand" 105 2147483647 ∈ GT := GT_3 204 rfl rfl
set_option maxRecDepth 100000 in
theorem wd_731 : Cond.constant "WeedStrand$Strand" 107 65536 ∈ GT := GT_3 205 rfl rfl
set_option maxRecDepth 100000 in
theorem wd_736 : Cond.methodLink "WeedStrand$Strand" 114 (⟨"java/lang/Math", "min", "(II)I"⟩ : MethodName) ∈ GT := GT_3 210 rfl rfl
set_option maxRecDepth 100000 in
theorem wd_795 : Cond.methodLink "WeedStrand$Strand" 82 (⟨"java/lang/System", "arraycopy", "(Ljava/lang/Object;ILjava/lang/Object;II)V"⟩ : MethodName) ∈ GT := GT_4 29 rfl rfl
set_option maxRecDepth 100000 in
theorem wd_824 : Cond.methodLink "WeedStrand" 281 (⟨"java/lang/System", "arraycopy", "(Ljava/lang/Object;ILjava/lang/Object;II)V"⟩ : MethodName) ∈ GT := GT_4 58 rfl rfl
set_option maxRecDepth 100000 in
theorem wd_865 : Cond.constant "WeedStrand" 377 2147483647 ∈ GT := GT_4 99 rfl rfl
set_option maxRecDepth 100000 in
theorem wd_866 : Cond.constant "WeedStrand" 378 (-2147483648) ∈ GT := GT_4 100 rfl rfl
set_option maxRecDepth 100000 in
theorem wd_867 : Cond.methodLink "WeedStrand" 379 (⟨"java/lang/Math", "min", "(II)I"⟩ : MethodName) ∈ GT := GT_4 101 rfl rfl
set_option maxRecDepth 100000 in
theorem wd_868 : Cond.methodLink "WeedStrand" 310 (⟨"java/lang/Math", "max", "(II)I"⟩ : MethodName) ∈ GT := GT_4 102 rfl rfl
set_option maxRecDepth 100000 in
theorem wd_947 : Cond.methodLink "WeedStrand$Seen" 40 (⟨"java/lang/Math", "max", "(II)I"⟩ : MethodName) ∈ GT := GT_4 181 rfl rfl
set_option maxRecDepth 100000 in
theorem wd_956 : Cond.constant "WeedStrand" 352 999999 ∈ GT := GT_4 190 rfl rfl
set_option maxRecDepth 100000 in
theorem wd_965 : Cond.constant "WeedStrand$Strand" 197 2147483647 ∈ GT := GT_4 199 rfl rfl
set_option maxRecDepth 100000 in
theorem wd_1012 : Cond.methodLink "WeedStrand$Tokens" 34 (⟨"java/lang/Math", "min", "(II)I"⟩ : MethodName) ∈ GT := GT_5 6 rfl rfl
set_option maxRecDepth 100000 in
theorem wd_1031 : Cond.constant "WeedStrand$Tokens" 77 1000000 ∈ GT := GT_5 25 rfl rfl
set_option maxRecDepth 100000 in
theorem wd_1093 : Cond.constant "WeedStrand$Reader" 176 99999 ∈ GT := GT_5 87 rfl rfl
set_option maxRecDepth 100000 in
theorem frX7_10 : FR RX7 10 7 0 (4, 4, 0) := ⟨GT_2 197 rfl rfl, by decide, by decide, rfl⟩
set_option maxRecDepth 100000 in
theorem frX7_19 : FR RX7 19 7 1 (4, 1, 0) := ⟨GT_2 198 rfl rfl, by decide, by decide, rfl⟩
set_option maxRecDepth 100000 in
theorem frX7_26 : FR RX7 26 7 2 (4, 2, 0) := ⟨GT_2 199 rfl rfl, by decide, by decide, rfl⟩
set_option maxRecDepth 100000 in
theorem frX7_33 : FR RX7 33 7 3 (4, 6, 0) := ⟨GT_2 200 rfl rfl, by decide, by decide, rfl⟩
set_option maxRecDepth 100000 in
theorem frX7_37 : FR RX7 37 7 4 (3, 0, 0) := ⟨GT_2 201 rfl rfl, by decide, by decide, rfl⟩
set_option maxRecDepth 100000 in
theorem frX7_41 : FR RX7 41 7 5 (3, 1, 0) := ⟨GT_2 202 rfl rfl, by decide, by decide, rfl⟩
set_option maxRecDepth 100000 in
theorem frX7_44 : FR RX7 44 7 6 (3, 2, 0) := ⟨GT_2 203 rfl rfl, by decide, by decide, rfl⟩
set_option maxRecDepth 100000 in
theorem frX7_47 : FR RX7 47 7 7 (3, 3, 0) := ⟨GT_2 204 rfl rfl, by decide, by decide, rfl⟩
set_option maxRecDepth 100000 in
theorem frX7_50 : FR RX7 50 7 8 (3, 4, 0) := ⟨GT_2 205 rfl rfl, by decide, by decide, rfl⟩
set_option maxRecDepth 100000 in
theorem frX7_56 : FR RX7 56 7 13 (2, 5, 0) := ⟨GT_2 210 rfl rfl, by decide, by decide, rfl⟩
set_option maxRecDepth 100000 in
theorem frX7_60 : FR RX7 60 7 14 (2, 5, 0) := ⟨GT_2 211 rfl rfl, by decide, by decide, rfl⟩
set_option maxRecDepth 100000 in
theorem frX7_68 : FR RX7 68 7 9 (4, 3, 0) := ⟨GT_2 206 rfl rfl, by decide, by decide, rfl⟩
set_option maxRecDepth 100000 in
theorem frX7_72 : FR RX7 72 7 10 (4, 3, 1) := ⟨GT_2 207 rfl rfl, by decide, by decide, rfl⟩
set_option maxRecDepth 100000 in
theorem frX7_78 : FR RX7 78 7 12 (3, 5, 0) := ⟨GT_2 209 rfl rfl, by decide, by decide, rfl⟩
set_option maxRecDepth 100000 in
theorem frX7_82 : FR RX7 82 7 17 (0, 0, 0) := ⟨GT_2 214 rfl rfl, by decide, by decide, rfl⟩
set_option maxRecDepth 100000 in
theorem frX7_86 : FR RX7 86 4 2 (0, 0, 0) := ⟨GT_1 91 rfl rfl, by decide, by decide, rfl⟩
set_option maxRecDepth 100000 in
theorem frX7_97 : FR RX7 97 1 4 (0, 0, 0) := ⟨GT_1 135 rfl rfl, by decide, by decide, rfl⟩
set_option maxRecDepth 100000 in
theorem frX7_100 : FR RX7 100 7 16 (0, 0, 0) := ⟨GT_2 213 rfl rfl, by decide, by decide, rfl⟩
set_option maxRecDepth 100000 in
theorem frX7_103 : FR RX7 103 1 5 (0, 0, 0) := ⟨GT_1 137 rfl rfl, by decide, by decide, rfl⟩
set_option maxRecDepth 100000 in
theorem frX7_113 : FR RX7 113 7 15 (5, 0, 0) := ⟨GT_2 212 rfl rfl, by decide, by decide, rfl⟩
set_option maxRecDepth 100000 in
theorem frX7_117 : FR RX7 117 6 3 (0, 0, 0) := ⟨GT_1 210 rfl rfl, by decide, by decide, rfl⟩
set_option maxRecDepth 100000 in
theorem frX7_123 : FR RX7 123 5 10 (0, 0, 0) := ⟨GT_2 51 rfl rfl, by decide, by decide, rfl⟩
set_option maxRecDepth 100000 in
theorem frX7_149 : FR RX7 149 3 1 (3, 1, 0) := ⟨GT_2 133 rfl rfl, by decide, by decide, rfl⟩
set_option maxRecDepth 100000 in
theorem frX7_155 : FR RX7 155 3 2 (3, 2, 0) := ⟨GT_2 135 rfl rfl, by decide, by decide, rfl⟩
set_option maxRecDepth 100000 in
theorem frX7_158 : FR RX7 158 3 3 (3, 3, 0) := ⟨GT_2 137 rfl rfl, by decide, by decide, rfl⟩
set_option maxRecDepth 100000 in
theorem frX7_161 : FR RX7 161 3 4 (3, 4, 0) := ⟨GT_2 139 rfl rfl, by decide, by decide, rfl⟩
set_option maxRecDepth 100000 in
theorem frX7_164 : FR RX7 164 3 5 (3, 5, 0) := ⟨GT_2 141 rfl rfl, by decide, by decide, rfl⟩
set_option maxRecDepth 100000 in
theorem frX7_167 : FR RX7 167 3 6 (3, 6, 0) := ⟨GT_2 143 rfl rfl, by decide, by decide, rfl⟩
set_option maxRecDepth 100000 in
theorem frX7_170 : FR RX7 170 3 7 (3, 7, 0) := ⟨GT_2 145 rfl rfl, by decide, by decide, rfl⟩
set_option maxRecDepth 100000 in
theorem frX7_179 : FR RX7 179 5 5 (3, 5, 0) := ⟨GT_2 32 rfl rfl, by decide, by decide, rfl⟩
set_option maxRecDepth 100000 in
theorem frX7_182 : FR RX7 182 5 6 (3, 6, 0) := ⟨GT_2 36 rfl rfl, by decide, by decide, rfl⟩
set_option maxRecDepth 100000 in
theorem frX7_185 : FR RX7 185 5 7 (3, 7, 0) := ⟨GT_2 40 rfl rfl, by decide, by decide, rfl⟩
set_option maxRecDepth 100000 in
theorem frX7_188 : FR RX7 188 3 9 (3, 9, 0) := ⟨GT_2 148 rfl rfl, by decide, by decide, rfl⟩
set_option maxRecDepth 100000 in
theorem frX7_210 : FR RX7 210 5 9 (4, 0, 0) := ⟨GT_2 48 rfl rfl, by decide, by decide, rfl⟩
set_option maxRecDepth 100000 in
theorem frX7_221 : FR RX7 221 3 12 (0, 0, 0) := ⟨GT_2 153 rfl rfl, by decide, by decide, rfl⟩
set_option maxRecDepth 100000 in
theorem frX7_231 : FR RX7 231 3 14 (0, 0, 0) := ⟨GT_2 157 rfl rfl, by decide, by decide, rfl⟩
set_option maxRecDepth 100000 in
theorem frX7_241 : FR RX7 241 3 11 (0, 0, 0) := ⟨GT_2 151 rfl rfl, by decide, by decide, rfl⟩
set_option maxRecDepth 100000 in
theorem frX7_259 : FR RX7 259 3 13 (0, 0, 0) := ⟨GT_2 155 rfl rfl, by decide, by decide, rfl⟩
set_option maxRecDepth 100000 in
theorem frX7_307 : FR RX7 307 5 11 (0, 0, 0) := ⟨GT_2 55 rfl rfl, by decide, by decide, rfl⟩
set_option maxRecDepth 100000 in
theorem frX7_315 : FR RX7 315 5 12 (0, 0, 0) := ⟨GT_2 59 rfl rfl, by decide, by decide, rfl⟩
set_option maxRecDepth 100000 in
theorem frX7_328 : FR RX7 328 5 17 (0, 0, 0) := ⟨GT_2 76 rfl rfl, by decide, by decide, rfl⟩
set_option maxRecDepth 100000 in
theorem frX7_336 : FR RX7 336 2 4 (0, 0, 0) := ⟨GT_1 184 rfl rfl, by decide, by decide, rfl⟩
set_option maxRecDepth 100000 in
theorem frX7_337 : FR RX7 337 2 5 (0, 0, 0) := ⟨GT_1 186 rfl rfl, by decide, by decide, rfl⟩
set_option maxRecDepth 100000 in
theorem frX7_353 : FR RX7 353 3 15 (0, 0, 0) := ⟨GT_2 159 rfl rfl, by decide, by decide, rfl⟩
set_option maxRecDepth 100000 in
theorem frX7_362 : FR RX7 362 5 13 (0, 0, 0) := ⟨GT_2 63 rfl rfl, by decide, by decide, rfl⟩
set_option maxRecDepth 100000 in
theorem frX7_365 : FR RX7 365 5 14 (0, 0, 0) := ⟨GT_2 66 rfl rfl, by decide, by decide, rfl⟩
set_option maxRecDepth 100000 in
theorem frX7_368 : FR RX7 368 0 6 (0, 0, 0) := ⟨GT_2 0 rfl rfl, by decide, by decide, rfl⟩
set_option maxRecDepth 100000 in
theorem frX0_11 : FR RX0 11 0 0 (3, 0, 0) := ⟨GT_1 232 rfl rfl, by decide, by decide, rfl⟩
set_option maxRecDepth 100000 in
theorem frX0_15 : FR RX0 15 0 1 (3, 1, 0) := ⟨GT_1 233 rfl rfl, by decide, by decide, rfl⟩
set_option maxRecDepth 100000 in
theorem frX0_18 : FR RX0 18 0 2 (3, 2, 0) := ⟨GT_1 234 rfl rfl, by decide, by decide, rfl⟩
set_option maxRecDepth 100000 in
theorem frX0_21 : FR RX0 21 0 3 (3, 3, 0) := ⟨GT_1 235 rfl rfl, by decide, by decide, rfl⟩
set_option maxRecDepth 100000 in
theorem frX0_24 : FR RX0 24 0 4 (3, 4, 0) := ⟨GT_1 236 rfl rfl, by decide, by decide, rfl⟩
set_option maxRecDepth 100000 in
theorem frX0_28 : FR RX0 28 0 5 (3, 5, 0) := ⟨GT_1 238 rfl rfl, by decide, by decide, rfl⟩
set_option maxRecDepth 100000 in
theorem frX0_31 : FR RX0 31 0 6 (0, 0, 0) := ⟨GT_1 239 rfl rfl, by decide, by decide, rfl⟩
set_option maxRecDepth 100000 in
theorem frX1_13 : FR RX1 13 1 0 (3, 0, 0) := ⟨GT_1 130 rfl rfl, by decide, by decide, rfl⟩
set_option maxRecDepth 100000 in
theorem frX1_17 : FR RX1 17 1 1 (3, 1, 0) := ⟨GT_1 131 rfl rfl, by decide, by decide, rfl⟩
set_option maxRecDepth 100000 in
theorem frX1_21 : FR RX1 21 1 2 (2, 4, 0) := ⟨GT_1 132 rfl rfl, by decide, by decide, rfl⟩
set_option maxRecDepth 100000 in
theorem frX1_25 : FR RX1 25 1 3 (2, 5, 0) := ⟨GT_1 133 rfl rfl, by decide, by decide, rfl⟩
set_option maxRecDepth 100000 in
theorem frX1_34 : FR RX1 34 1 4 (0, 0, 0) := ⟨GT_1 134 rfl rfl, by decide, by decide, rfl⟩
set_option maxRecDepth 100000 in
theorem frX1_38 : FR RX1 38 1 5 (0, 0, 0) := ⟨GT_1 136 rfl rfl, by decide, by decide, rfl⟩
set_option maxRecDepth 100000 in
theorem frX1_41 : FR RX1 41 1 7 (0, 0, 0) := ⟨GT_1 139 rfl rfl, by decide, by decide, rfl⟩
set_option maxRecDepth 100000 in
theorem frX1_44 : FR RX1 44 1 10 (0, 0, 0) := ⟨GT_1 142 rfl rfl, by decide, by decide, rfl⟩
set_option maxRecDepth 100000 in
theorem frX1_53 : FR RX1 53 4 6 (0, 0, 0) := ⟨GT_1 97 rfl rfl, by decide, by decide, rfl⟩
set_option maxRecDepth 100000 in
theorem frX1_63 : FR RX1 63 5 10 (0, 0, 0) := ⟨GT_2 50 rfl rfl, by decide, by decide, rfl⟩
set_option maxRecDepth 100000 in
theorem frX1_97 : FR RX1 97 4 5 (0, 0, 0) := ⟨GT_1 95 rfl rfl, by decide, by decide, rfl⟩
set_option maxRecDepth 100000 in
theorem frX1_103 : FR RX1 103 4 7 (0, 0, 0) := ⟨GT_1 100 rfl rfl, by decide, by decide, rfl⟩
set_option maxRecDepth 100000 in
theorem frX1_106 : FR RX1 106 1 6 (0, 0, 0) := ⟨GT_1 138 rfl rfl, by decide, by decide, rfl⟩
set_option maxRecDepth 100000 in
theorem frX1_109 : FR RX1 109 5 11 (0, 0, 0) := ⟨GT_2 54 rfl rfl, by decide, by decide, rfl⟩
set_option maxRecDepth 100000 in
theorem frX1_115 : FR RX1 115 5 0 (3, 0, 0) := ⟨GT_2 19 rfl rfl, by decide, by decide, rfl⟩
set_option maxRecDepth 100000 in
theorem frX1_118 : FR RX1 118 5 12 (0, 0, 0) := ⟨GT_2 58 rfl rfl, by decide, by decide, rfl⟩
set_option maxRecDepth 100000 in
theorem frX1_121 : FR RX1 121 4 8 (0, 0, 0) := ⟨GT_1 102 rfl rfl, by decide, by decide, rfl⟩
set_option maxRecDepth 100000 in
theorem frX1_128 : FR RX1 128 5 1 (3, 1, 0) := ⟨GT_2 21 rfl rfl, by decide, by decide, rfl⟩
set_option maxRecDepth 100000 in
theorem frX1_131 : FR RX1 131 5 2 (3, 2, 0) := ⟨GT_2 24 rfl rfl, by decide, by decide, rfl⟩
set_option maxRecDepth 100000 in
theorem frX1_134 : FR RX1 134 5 3 (3, 3, 0) := ⟨GT_2 27 rfl rfl, by decide, by decide, rfl⟩
set_option maxRecDepth 100000 in
theorem frX1_137 : FR RX1 137 5 4 (3, 4, 0) := ⟨GT_2 30 rfl rfl, by decide, by decide, rfl⟩
set_option maxRecDepth 100000 in
theorem frX1_140 : FR RX1 140 5 13 (0, 0, 0) := ⟨GT_2 61 rfl rfl, by decide, by decide, rfl⟩
set_option maxRecDepth 100000 in
theorem frX1_143 : FR RX1 143 5 5 (3, 5, 0) := ⟨GT_2 34 rfl rfl, by decide, by decide, rfl⟩
set_option maxRecDepth 100000 in
theorem frX1_146 : FR RX1 146 5 6 (3, 6, 0) := ⟨GT_2 37 rfl rfl, by decide, by decide, rfl⟩
set_option maxRecDepth 100000 in
theorem frX1_149 : FR RX1 149 5 7 (3, 7, 0) := ⟨GT_2 41 rfl rfl, by decide, by decide, rfl⟩
set_option maxRecDepth 100000 in
theorem frX1_152 : FR RX1 152 5 14 (0, 0, 0) := ⟨GT_2 65 rfl rfl, by decide, by decide, rfl⟩
set_option maxRecDepth 100000 in
theorem frX1_158 : FR RX1 158 5 8 (3, 8, 0) := ⟨GT_2 44 rfl rfl, by decide, by decide, rfl⟩
set_option maxRecDepth 100000 in
theorem frX1_164 : FR RX1 164 5 15 (0, 0, 0) := ⟨GT_2 69 rfl rfl, by decide, by decide, rfl⟩
set_option maxRecDepth 100000 in
theorem frX1_167 : FR RX1 167 5 16 (0, 0, 0) := ⟨GT_2 72 rfl rfl, by decide, by decide, rfl⟩
set_option maxRecDepth 100000 in
theorem frX1_170 : FR RX1 170 5 17 (0, 0, 0) := ⟨GT_2 75 rfl rfl, by decide, by decide, rfl⟩
set_option maxRecDepth 100000 in
theorem frX1_173 : FR RX1 173 5 18 (0, 0, 0) := ⟨GT_2 79 rfl rfl, by decide, by decide, rfl⟩
set_option maxRecDepth 100000 in
theorem frX1_177 : FR RX1 177 5 19 (0, 0, 0) := ⟨GT_2 82 rfl rfl, by decide, by decide, rfl⟩
set_option maxRecDepth 100000 in
theorem frX1_180 : FR RX1 180 5 9 (4, 0, 0) := ⟨GT_2 47 rfl rfl, by decide, by decide, rfl⟩
set_option maxRecDepth 100000 in
theorem frX1_191 : FR RX1 191 1 11 (5, 0, 0) := ⟨GT_1 143 rfl rfl, by decide, by decide, rfl⟩
set_option maxRecDepth 100000 in
theorem frX1_204 : FR RX1 204 1 9 (0, 0, 0) := ⟨GT_1 141 rfl rfl, by decide, by decide, rfl⟩
set_option maxRecDepth 100000 in
theorem frX1_216 : FR RX1 216 1 8 (0, 0, 0) := ⟨GT_1 140 rfl rfl, by decide, by decide, rfl⟩
set_option maxRecDepth 100000 in
theorem frX1_219 : FR RX1 219 1 12 (5, 0, 0) := ⟨GT_1 144 rfl rfl, by decide, by decide, rfl⟩
set_option maxRecDepth 100000 in
theorem frX2_9 : FR RX2 9 2 0 (3, 0, 0) := ⟨GT_1 179 rfl rfl, by decide, by decide, rfl⟩
set_option maxRecDepth 100000 in
theorem frX2_15 : FR RX2 15 2 1 (3, 1, 0) := ⟨GT_1 180 rfl rfl, by decide, by decide, rfl⟩
set_option maxRecDepth 100000 in
theorem frX2_18 : FR RX2 18 2 2 (3, 2, 0) := ⟨GT_1 181 rfl rfl, by decide, by decide, rfl⟩
set_option maxRecDepth 100000 in
theorem frX2_21 : FR RX2 21 2 3 (3, 3, 0) := ⟨GT_1 182 rfl rfl, by decide, by decide, rfl⟩
set_option maxRecDepth 100000 in
theorem frX2_25 : FR RX2 25 2 5 (0, 0, 0) := ⟨GT_1 185 rfl rfl, by decide, by decide, rfl⟩
set_option maxRecDepth 100000 in
theorem frX2_29 : FR RX2 29 2 4 (0, 0, 0) := ⟨GT_1 183 rfl rfl, by decide, by decide, rfl⟩
set_option maxRecDepth 100000 in
theorem frX3_11 : FR RX3 11 3 0 (3, 0, 0) := ⟨GT_2 130 rfl rfl, by decide, by decide, rfl⟩
set_option maxRecDepth 100000 in
theorem frX3_17 : FR RX3 17 3 1 (3, 1, 0) := ⟨GT_2 132 rfl rfl, by decide, by decide, rfl⟩
set_option maxRecDepth 100000 in
theorem frX3_20 : FR RX3 20 3 2 (3, 2, 0) := ⟨GT_2 134 rfl rfl, by decide, by decide, rfl⟩
set_option maxRecDepth 100000 in
theorem frX3_23 : FR RX3 23 3 3 (3, 3, 0) := ⟨GT_2 136 rfl rfl, by decide, by decide, rfl⟩
set_option maxRecDepth 100000 in
theorem frX3_26 : FR RX3 26 3 4 (3, 4, 0) := ⟨GT_2 138 rfl rfl, by decide, by decide, rfl⟩
set_option maxRecDepth 100000 in
theorem frX3_29 : FR RX3 29 3 5 (3, 5, 0) := ⟨GT_2 140 rfl rfl, by decide, by decide, rfl⟩
set_option maxRecDepth 100000 in
theorem frX3_32 : FR RX3 32 3 6 (3, 6, 0) := ⟨GT_2 142 rfl rfl, by decide, by decide, rfl⟩
set_option maxRecDepth 100000 in
theorem frX3_35 : FR RX3 35 3 7 (3, 7, 0) := ⟨GT_2 144 rfl rfl, by decide, by decide, rfl⟩
set_option maxRecDepth 100000 in
theorem frX3_38 : FR RX3 38 3 8 (3, 8, 0) := ⟨GT_2 146 rfl rfl, by decide, by decide, rfl⟩
set_option maxRecDepth 100000 in
theorem frX3_41 : FR RX3 41 3 9 (3, 9, 0) := ⟨GT_2 147 rfl rfl, by decide, by decide, rfl⟩
set_option maxRecDepth 100000 in
theorem frX3_44 : FR RX3 44 3 10 (2, 5, 0) := ⟨GT_2 149 rfl rfl, by decide, by decide, rfl⟩
set_option maxRecDepth 100000 in
theorem frX3_48 : FR RX3 48 3 16 (5, 0, 0) := ⟨GT_2 160 rfl rfl, by decide, by decide, rfl⟩
set_option maxRecDepth 100000 in
theorem frX3_52 : FR RX3 52 3 11 (0, 0, 0) := ⟨GT_2 150 rfl rfl, by decide, by decide, rfl⟩
set_option maxRecDepth 100000 in
theorem frX3_56 : FR RX3 56 5 15 (0, 0, 0) := ⟨GT_2 67 rfl rfl, by decide, by decide, rfl⟩
set_option maxRecDepth 100000 in
theorem frX3_61 : FR RX3 61 3 12 (0, 0, 0) := ⟨GT_2 152 rfl rfl, by decide, by decide, rfl⟩
set_option maxRecDepth 100000 in
theorem frX3_62 : FR RX3 62 3 13 (0, 0, 0) := ⟨GT_2 154 rfl rfl, by decide, by decide, rfl⟩
set_option maxRecDepth 100000 in
theorem frX3_65 : FR RX3 65 5 16 (0, 0, 0) := ⟨GT_2 70 rfl rfl, by decide, by decide, rfl⟩
set_option maxRecDepth 100000 in
theorem frX3_68 : FR RX3 68 3 14 (0, 0, 0) := ⟨GT_2 156 rfl rfl, by decide, by decide, rfl⟩
set_option maxRecDepth 100000 in
theorem frX3_69 : FR RX3 69 5 19 (0, 0, 0) := ⟨GT_2 80 rfl rfl, by decide, by decide, rfl⟩
set_option maxRecDepth 100000 in
theorem frX3_72 : FR RX3 72 3 15 (0, 0, 0) := ⟨GT_2 158 rfl rfl, by decide, by decide, rfl⟩
set_option maxRecDepth 100000 in
theorem frX3_75 : FR RX3 75 5 0 (3, 0, 0) := ⟨GT_2 18 rfl rfl, by decide, by decide, rfl⟩
set_option maxRecDepth 100000 in
theorem frX3_76 : FR RX3 76 5 12 (0, 0, 0) := ⟨GT_2 57 rfl rfl, by decide, by decide, rfl⟩
set_option maxRecDepth 100000 in
theorem frX3_79 : FR RX3 79 5 2 (3, 2, 0) := ⟨GT_2 23 rfl rfl, by decide, by decide, rfl⟩
set_option maxRecDepth 100000 in
theorem frX3_80 : FR RX3 80 5 3 (3, 3, 0) := ⟨GT_2 26 rfl rfl, by decide, by decide, rfl⟩
set_option maxRecDepth 100000 in
theorem frX3_81 : FR RX3 81 5 4 (3, 4, 0) := ⟨GT_2 29 rfl rfl, by decide, by decide, rfl⟩
set_option maxRecDepth 100000 in
theorem frX3_91 : FR RX3 91 5 17 (0, 0, 0) := ⟨GT_2 74 rfl rfl, by decide, by decide, rfl⟩
set_option maxRecDepth 100000 in
theorem frX3_108 : FR RX3 108 5 11 (0, 0, 0) := ⟨GT_2 53 rfl rfl, by decide, by decide, rfl⟩
set_option maxRecDepth 100000 in
theorem frX3_111 : FR RX3 111 5 18 (0, 0, 0) := ⟨GT_2 78 rfl rfl, by decide, by decide, rfl⟩
set_option maxRecDepth 100000 in
theorem frX3_144 : FR RX3 144 5 13 (0, 0, 0) := ⟨GT_2 62 rfl rfl, by decide, by decide, rfl⟩
set_option maxRecDepth 100000 in
theorem frX3_147 : FR RX3 147 5 5 (3, 5, 0) := ⟨GT_2 33 rfl rfl, by decide, by decide, rfl⟩
set_option maxRecDepth 100000 in
theorem frX3_161 : FR RX3 161 5 9 (4, 0, 0) := ⟨GT_2 46 rfl rfl, by decide, by decide, rfl⟩
set_option maxRecDepth 100000 in
theorem frX3_180 : FR RX3 180 5 6 (3, 6, 0) := ⟨GT_2 38 rfl rfl, by decide, by decide, rfl⟩
set_option maxRecDepth 100000 in
theorem frX3_183 : FR RX3 183 0 4 (3, 4, 0) := ⟨GT_1 237 rfl rfl, by decide, by decide, rfl⟩
set_option maxRecDepth 100000 in
theorem frX3_187 : FR RX3 187 5 7 (3, 7, 0) := ⟨GT_2 42 rfl rfl, by decide, by decide, rfl⟩
set_option maxRecDepth 100000 in
theorem frX4_9 : FR RX4 9 4 0 (3, 0, 0) := ⟨GT_1 89 rfl rfl, by decide, by decide, rfl⟩
set_option maxRecDepth 100000 in
theorem frX4_15 : FR RX4 15 4 1 (3, 1, 0) := ⟨GT_1 90 rfl rfl, by decide, by decide, rfl⟩
set_option maxRecDepth 100000 in
theorem frX4_30 : FR RX4 30 4 2 (0, 0, 0) := ⟨GT_1 92 rfl rfl, by decide, by decide, rfl⟩
set_option maxRecDepth 100000 in
theorem frX4_40 : FR RX4 40 4 3 (0, 0, 0) := ⟨GT_1 93 rfl rfl, by decide, by decide, rfl⟩
set_option maxRecDepth 100000 in
theorem frX4_42 : FR RX4 42 4 4 (0, 0, 0) := ⟨GT_1 94 rfl rfl, by decide, by decide, rfl⟩
set_option maxRecDepth 100000 in
theorem frX4_48 : FR RX4 48 4 5 (0, 0, 0) := ⟨GT_1 96 rfl rfl, by decide, by decide, rfl⟩
set_option maxRecDepth 100000 in
theorem frX4_51 : FR RX4 51 4 6 (0, 0, 0) := ⟨GT_1 98 rfl rfl, by decide, by decide, rfl⟩
set_option maxRecDepth 100000 in
theorem frX4_71 : FR RX4 71 4 8 (0, 0, 0) := ⟨GT_1 101 rfl rfl, by decide, by decide, rfl⟩
set_option maxRecDepth 100000 in
theorem frX4_74 : FR RX4 74 4 7 (0, 0, 0) := ⟨GT_1 99 rfl rfl, by decide, by decide, rfl⟩
set_option maxRecDepth 100000 in
theorem frX5_15 : FR RX5 15 5 1 (3, 1, 0) := ⟨GT_2 20 rfl rfl, by decide, by decide, rfl⟩
set_option maxRecDepth 100000 in
theorem frX5_36 : FR RX5 36 5 8 (3, 8, 0) := ⟨GT_2 43 rfl rfl, by decide, by decide, rfl⟩
set_option maxRecDepth 100000 in
theorem frX5_42 : FR RX5 42 5 9 (4, 0, 0) := ⟨GT_2 45 rfl rfl, by decide, by decide, rfl⟩
set_option maxRecDepth 100000 in
theorem frX5_49 : FR RX5 49 5 10 (0, 0, 0) := ⟨GT_2 49 rfl rfl, by decide, by decide, rfl⟩
set_option maxRecDepth 100000 in
theorem frX5_53 : FR RX5 53 5 11 (0, 0, 0) := ⟨GT_2 52 rfl rfl, by decide, by decide, rfl⟩
set_option maxRecDepth 100000 in
theorem frX5_56 : FR RX5 56 5 12 (0, 0, 0) := ⟨GT_2 56 rfl rfl, by decide, by decide, rfl⟩
set_option maxRecDepth 100000 in
theorem frX5_59 : FR RX5 59 5 13 (0, 0, 0) := ⟨GT_2 60 rfl rfl, by decide, by decide, rfl⟩
set_option maxRecDepth 100000 in
theorem frX5_62 : FR RX5 62 5 14 (0, 0, 0) := ⟨GT_2 64 rfl rfl, by decide, by decide, rfl⟩
set_option maxRecDepth 100000 in
theorem frX5_65 : FR RX5 65 5 15 (0, 0, 0) := ⟨GT_2 68 rfl rfl, by decide, by decide, rfl⟩
set_option maxRecDepth 100000 in
theorem frX5_68 : FR RX5 68 5 16 (0, 0, 0) := ⟨GT_2 71 rfl rfl, by decide, by decide, rfl⟩
set_option maxRecDepth 100000 in
theorem frX5_71 : FR RX5 71 5 17 (0, 0, 0) := ⟨GT_2 73 rfl rfl, by decide, by decide, rfl⟩
set_option maxRecDepth 100000 in
theorem frX5_74 : FR RX5 74 5 18 (0, 0, 0) := ⟨GT_2 77 rfl rfl, by decide, by decide, rfl⟩
set_option maxRecDepth 100000 in
theorem frX5_77 : FR RX5 77 5 19 (0, 0, 0) := ⟨GT_2 81 rfl rfl, by decide, by decide, rfl⟩
set_option maxRecDepth 100000 in
theorem frX6_9 : FR RX6 9 6 0 (3, 0, 0) := ⟨GT_1 206 rfl rfl, by decide, by decide, rfl⟩
set_option maxRecDepth 100000 in
theorem frX6_15 : FR RX6 15 6 1 (3, 1, 0) := ⟨GT_1 207 rfl rfl, by decide, by decide, rfl⟩
set_option maxRecDepth 100000 in
theorem frX6_18 : FR RX6 18 6 2 (3, 2, 0) := ⟨GT_1 208 rfl rfl, by decide, by decide, rfl⟩
set_option maxRecDepth 100000 in
theorem frX6_21 : FR RX6 21 6 3 (0, 0, 0) := ⟨GT_1 209 rfl rfl, by decide, by decide, rfl⟩
theorem ar_0_0 (o : Nat) (h : o < cnt 0) : AR 0 o 0 0 64 := ⟨by decide, by decide, h, rfl⟩
theorem ar_0_1 (o : Nat) (h : o < cnt 0) : AR 0 o 1 0 64 := ⟨by decide, by decide, h, rfl⟩
theorem ar_0_2 (o : Nat) (h : o < cnt 0) : AR 0 o 2 0 4 := ⟨by decide, by decide, h, rfl⟩
theorem ar_0_3 (o : Nat) (h : o < cnt 0) : AR 0 o 3 0 4 := ⟨by decide, by decide, h, rfl⟩
theorem ar_0_4 (o : Nat) (h : o < cnt 0) : AR 0 o 4 2 7 := ⟨by decide, by decide, h, rfl⟩
theorem ar_0_5 (o : Nat) (h : o < cnt 0) : AR 0 o 5 2 64 := ⟨by decide, by decide, h, rfl⟩
theorem ar_1_0 (o : Nat) (h : o < cnt 1) : AR 1 o 0 0 72 := ⟨by decide, by decide, h, rfl⟩
theorem ar_1_1 (o : Nat) (h : o < cnt 1) : AR 1 o 1 1 9 := ⟨by decide, by decide, h, rfl⟩
theorem ar_2_0 (o : Nat) (h : o < cnt 2) : AR 2 o 0 0 24 := ⟨by decide, by decide, h, rfl⟩
theorem ar_2_1 (o : Nat) (h : o < cnt 2) : AR 2 o 1 0 24 := ⟨by decide, by decide, h, rfl⟩
theorem ar_2_2 (o : Nat) (h : o < cnt 2) : AR 2 o 2 0 24 := ⟨by decide, by decide, h, rfl⟩
theorem ar_2_3 (o : Nat) (h : o < cnt 2) : AR 2 o 3 1 24 := ⟨by decide, by decide, h, rfl⟩
theorem ar_3_0 (o : Nat) (h : o < cnt 3) : AR 3 o 0 0 8 := ⟨by decide, by decide, h, rfl⟩
theorem ar_3_1 (o : Nat) (h : o < cnt 3) : AR 3 o 1 0 8 := ⟨by decide, by decide, h, rfl⟩
theorem ar_3_2 (o : Nat) (h : o < cnt 3) : AR 3 o 2 0 4 := ⟨by decide, by decide, h, rfl⟩
theorem ar_3_3 (o : Nat) (h : o < cnt 3) : AR 3 o 3 0 4 := ⟨by decide, by decide, h, rfl⟩
theorem ar_3_4 (o : Nat) (h : o < cnt 3) : AR 3 o 4 0 4 := ⟨by decide, by decide, h, rfl⟩
theorem ar_3_5 (o : Nat) (h : o < cnt 3) : AR 3 o 5 0 4 := ⟨by decide, by decide, h, rfl⟩
theorem ar_3_6 (o : Nat) (h : o < cnt 3) : AR 3 o 6 0 4 := ⟨by decide, by decide, h, rfl⟩
theorem ar_3_7 (o : Nat) (h : o < cnt 3) : AR 3 o 7 0 4 := ⟨by decide, by decide, h, rfl⟩
theorem ar_3_8 (o : Nat) (h : o < cnt 3) : AR 3 o 8 0 4 := ⟨by decide, by decide, h, rfl⟩
theorem ar_3_9 (o : Nat) (h : o < cnt 3) : AR 3 o 9 0 6 := ⟨by decide, by decide, h, rfl⟩
theorem ar_4_0 (o : Nat) (h : o < cnt 4) : AR 4 o 0 0 700 := ⟨by decide, by decide, h, rfl⟩
theorem ar_4_1 (o : Nat) (h : o < cnt 4) : AR 4 o 1 0 26 := ⟨by decide, by decide, h, rfl⟩
theorem ar_5_0 (o : Nat) (h : o < cnt 5) : AR 5 o 0 0 8 := ⟨by decide, by decide, h, rfl⟩
theorem ar_5_1 (o : Nat) (h : o < cnt 5) : AR 5 o 1 0 4 := ⟨by decide, by decide, h, rfl⟩
theorem ar_5_2 (o : Nat) (h : o < cnt 5) : AR 5 o 2 0 4 := ⟨by decide, by decide, h, rfl⟩
theorem ar_5_3 (o : Nat) (h : o < cnt 5) : AR 5 o 3 0 4 := ⟨by decide, by decide, h, rfl⟩
theorem ar_5_4 (o : Nat) (h : o < cnt 5) : AR 5 o 4 0 4 := ⟨by decide, by decide, h, rfl⟩
theorem ar_5_5 (o : Nat) (h : o < cnt 5) : AR 5 o 5 0 6 := ⟨by decide, by decide, h, rfl⟩
theorem ar_5_6 (o : Nat) (h : o < cnt 5) : AR 5 o 6 0 6 := ⟨by decide, by decide, h, rfl⟩
theorem ar_5_7 (o : Nat) (h : o < cnt 5) : AR 5 o 7 0 6 := ⟨by decide, by decide, h, rfl⟩
theorem ar_5_8 (o : Nat) (h : o < cnt 5) : AR 5 o 8 0 4 := ⟨by decide, by decide, h, rfl⟩
theorem ar_6_0 (o : Nat) (h : o < cnt 6) : AR 6 o 0 0 20 := ⟨by decide, by decide, h, rfl⟩
theorem ar_6_1 (o : Nat) (h : o < cnt 6) : AR 6 o 1 0 20 := ⟨by decide, by decide, h, rfl⟩
theorem ar_6_2 (o : Nat) (h : o < cnt 6) : AR 6 o 2 0 20 := ⟨by decide, by decide, h, rfl⟩
theorem ar_7_0 (o : Nat) (h : o < cnt 7) : AR 7 o 0 0 6 := ⟨by decide, by decide, h, rfl⟩
theorem ar_7_1 (o : Nat) (h : o < cnt 7) : AR 7 o 1 0 6 := ⟨by decide, by decide, h, rfl⟩
theorem ar_7_2 (o : Nat) (h : o < cnt 7) : AR 7 o 2 0 16 := ⟨by decide, by decide, h, rfl⟩
theorem ar_7_3 (o : Nat) (h : o < cnt 7) : AR 7 o 3 0 16 := ⟨by decide, by decide, h, rfl⟩
theorem ar_7_4 (o : Nat) (h : o < cnt 7) : AR 7 o 4 0 3 := ⟨by decide, by decide, h, rfl⟩
theorem ar_7_5 (o : Nat) (h : o < cnt 7) : AR 7 o 5 3 7 := ⟨by decide, by decide, h, rfl⟩
set_option maxRecDepth 100000 in
theorem cvX7_89 : CV RX7 89 yX4_append cX4_append 3 none 1 4 := ⟨⟨GT_4 225 rfl rfl, GT_4 222 rfl rfl, GT_1 2 rfl rfl, ⟨by decide, by decide, by decide +kernel⟩⟩, GT_4 223 rfl rfl, GT_4 224 rfl rfl, by decide⟩
set_option maxRecDepth 100000 in
theorem cvX7_93 : CV RX7 93 yX1_reads cX1_reads 5 (some .boolean) 3 1 := ⟨⟨GT_4 233 rfl rfl, GT_4 230 rfl rfl, GT_1 7 rfl rfl, ⟨by decide, by decide, by decide +kernel⟩⟩, GT_4 231 rfl rfl, GT_4 232 rfl rfl, by decide⟩
set_option maxRecDepth 100000 in
theorem cvX7_106 : CV RX7 106 yX3_begin cX3_begin 3 none 1 3 := ⟨⟨GT_5 142 rfl rfl, GT_5 139 rfl rfl, GT_1 12 rfl rfl, ⟨by decide, by decide, by decide +kernel⟩⟩, GT_5 140 rfl rfl, GT_5 141 rfl rfl, by decide⟩
set_option maxRecDepth 100000 in
theorem cvX7_109 : CV RX7 109 yX3_copy cX3_copy 2 none 1 3 := ⟨⟨GT_4 28 rfl rfl, GT_4 25 rfl rfl, GT_1 12 rfl rfl, ⟨by decide, by decide, by decide +kernel⟩⟩, GT_4 26 rfl rfl, GT_4 27 rfl rfl, by decide⟩
set_option maxRecDepth 100000 in
theorem cvX7_120 : CV RX7 120 yX2_clear cX2_clear 1 none 0 2 := ⟨⟨GT_5 146 rfl rfl, GT_5 143 rfl rfl, GT_1 8 rfl rfl, ⟨by decide, by decide, by decide +kernel⟩⟩, GT_5 144 rfl rfl, GT_5 145 rfl rfl, by decide⟩
set_option maxRecDepth 100000 in
theorem cvX7_130 : CV RX7 130 yX7_isStripe cX7_isStripe 2 (some .boolean) 1 7 := ⟨⟨GT_3 19 rfl rfl, GT_3 16 rfl rfl, GT_1 1 rfl rfl, ⟨by decide, by decide, by decide +kernel⟩⟩, GT_3 18 rfl rfl, GT_p1 0 rfl, by decide⟩
set_option maxRecDepth 100000 in
theorem cvX7_152 : CV RX7 152 yX7_isCroft cX7_isCroft 2 (some .boolean) 1 7 := ⟨⟨GT_3 109 rfl rfl, GT_3 106 rfl rfl, GT_1 1 rfl rfl, ⟨by decide, by decide, by decide +kernel⟩⟩, GT_3 108 rfl rfl, GT_p1 2 rfl, by decide⟩
set_option maxRecDepth 100000 in
theorem cvX7_173 : CV RX7 173 yX3_liesOnLots cX3_liesOnLots 4 (some .int) 1 3 := ⟨⟨GT_3 113 rfl rfl, GT_3 110 rfl rfl, GT_1 12 rfl rfl, ⟨by decide, by decide, by decide +kernel⟩⟩, GT_3 111 rfl rfl, GT_3 112 rfl rfl, by decide⟩
set_option maxRecDepth 100000 in
theorem cvX7_176 : CV RX7 176 yX7_isField cX7_isField 2 (some .boolean) 1 7 := ⟨⟨GT_3 121 rfl rfl, GT_3 118 rfl rfl, GT_1 1 rfl rfl, ⟨by decide, by decide, by decide +kernel⟩⟩, GT_3 120 rfl rfl, GT_p1 3 rfl, by decide⟩
set_option maxRecDepth 100000 in
theorem cvX7_191 : CV RX7 191 yX3_worthOf cX3_worthOf 4 (some .int) 1 3 := ⟨⟨GT_3 125 rfl rfl, GT_3 122 rfl rfl, GT_1 12 rfl rfl, ⟨by decide, by decide, by decide +kernel⟩⟩, GT_3 123 rfl rfl, GT_3 124 rfl rfl, by decide⟩
set_option maxRecDepth 100000 in
theorem cvX7_194 : CV RX7 194 yX3_sourceOf cX3_sourceOf 7 (some .int) 2 3 := ⟨⟨GT_3 155 rfl rfl, GT_3 152 rfl rfl, GT_1 12 rfl rfl, ⟨by decide, by decide, by decide +kernel⟩⟩, GT_3 153 rfl rfl, GT_3 154 rfl rfl, by decide⟩
set_option maxRecDepth 100000 in
theorem cvX7_224 : CV RX7 224 yX6_add cX6_add 4 none 3 6 := ⟨⟨GT_3 163 rfl rfl, GT_3 160 rfl rfl, GT_1 9 rfl rfl, ⟨by decide, by decide, by decide +kernel⟩⟩, GT_3 161 rfl rfl, GT_3 162 rfl rfl, by decide⟩
set_option maxRecDepth 100000 in
theorem cvX7_234 : CV RX7 234 yX7_canLend cX7_canLend 3 (some .boolean) 2 7 := ⟨⟨GT_3 185 rfl rfl, GT_3 182 rfl rfl, GT_1 1 rfl rfl, ⟨by decide, by decide, by decide +kernel⟩⟩, GT_3 184 rfl rfl, GT_p1 4 rfl, by decide⟩
set_option maxRecDepth 100000 in
theorem cvX7_238 : CV RX7 238 yX3_moveCart cX3_moveCart 3 none 2 3 := ⟨⟨GT_3 189 rfl rfl, GT_3 186 rfl rfl, GT_1 12 rfl rfl, ⟨by decide, by decide, by decide +kernel⟩⟩, GT_3 187 rfl rfl, GT_3 188 rfl rfl, by decide⟩
set_option maxRecDepth 100000 in
theorem cvX7_244 : CV RX7 244 yX3_passHoursWithGales cX3_passHoursWithGales 3 none 1 3 := ⟨⟨GT_3 197 rfl rfl, GT_3 194 rfl rfl, GT_1 12 rfl rfl, ⟨by decide, by decide, by decide +kernel⟩⟩, GT_3 195 rfl rfl, GT_3 196 rfl rfl, by decide⟩
set_option maxRecDepth 100000 in
theorem cvX7_251 : CV RX7 251 yX7_ruledBy cX7_ruledBy 5 (some (.object "WeedStrand$Strand")) 2 7 := ⟨⟨GT_4 24 rfl rfl, GT_4 21 rfl rfl, GT_1 1 rfl rfl, ⟨by decide, by decide, by decide +kernel⟩⟩, GT_4 23 rfl rfl, GT_p1 12 rfl, by decide⟩
set_option maxRecDepth 100000 in
theorem cvX7_255 : CV RX7 255 yX3_allGot cX3_allGot 1 (some .int) 0 3 := ⟨⟨GT_4 37 rfl rfl, GT_4 34 rfl rfl, GT_1 12 rfl rfl, ⟨by decide, by decide, by decide +kernel⟩⟩, GT_4 35 rfl rfl, GT_4 36 rfl rfl, by decide⟩
set_option maxRecDepth 100000 in
theorem cvX7_262 : CV RX7 262 yX3_allGains cX3_allGains 1 (some .int) 0 3 := ⟨⟨GT_4 41 rfl rfl, GT_4 38 rfl rfl, GT_1 12 rfl rfl, ⟨by decide, by decide, by decide +kernel⟩⟩, GT_4 39 rfl rfl, GT_4 40 rfl rfl, by decide⟩
set_option maxRecDepth 100000 in
theorem cvX7_265 : CV RX7 265 yX3_passHours cX3_passHours 3 none 1 3 := ⟨⟨GT_4 33 rfl rfl, GT_4 30 rfl rfl, GT_1 12 rfl rfl, ⟨by decide, by decide, by decide +kernel⟩⟩, GT_4 31 rfl rfl, GT_4 32 rfl rfl, by decide⟩
set_option maxRecDepth 100000 in
theorem cvX7_268 : CV RX7 268 yX7_planFor cX7_planFor 9 (some .int) 2 7 := ⟨⟨GT_4 49 rfl rfl, GT_4 46 rfl rfl, GT_1 1 rfl rfl, ⟨by decide, by decide, by decide +kernel⟩⟩, GT_4 48 rfl rfl, GT_p1 13 rfl, by decide⟩
set_option maxRecDepth 100000 in
theorem cvX7_272 : CV RX7 272 yX7_startWays cX7_startWays 4 none 2 7 := ⟨⟨GT_4 53 rfl rfl, GT_4 50 rfl rfl, GT_1 1 rfl rfl, ⟨by decide, by decide, by decide +kernel⟩⟩, GT_4 52 rfl rfl, GT_p1 14 rfl, by decide⟩
set_option maxRecDepth 100000 in
theorem cvX7_278 : CV RX7 278 yX3_passHour cX3_passHour 3 none 0 3 := ⟨⟨GT_3 216 rfl rfl, GT_4 57 rfl rfl, GT_1 12 rfl rfl, ⟨by decide, by decide, by decide +kernel⟩⟩, GT_3 214 rfl rfl, GT_3 215 rfl rfl, by decide⟩
set_option maxRecDepth 100000 in
theorem cvX7_287 : CV RX7 287 yX7_nextWay cX7_nextWay 5 (some .int) 3 7 := ⟨⟨GT_4 62 rfl rfl, GT_4 59 rfl rfl, GT_1 1 rfl rfl, ⟨by decide, by decide, by decide +kernel⟩⟩, GT_4 61 rfl rfl, GT_p1 15 rfl, by decide⟩
set_option maxRecDepth 100000 in
theorem cvX7_291 : CV RX7 291 yX7_mayCome cX7_mayCome 4 (some .boolean) 3 7 := ⟨⟨GT_4 74 rfl rfl, GT_4 71 rfl rfl, GT_1 1 rfl rfl, ⟨by decide, by decide, by decide +kernel⟩⟩, GT_4 73 rfl rfl, GT_p2 0 rfl, by decide⟩
set_option maxRecDepth 100000 in
theorem cvX7_294 : CV RX7 294 yX7_workOutComing cX7_workOutComing 6 none 3 7 := ⟨⟨GT_4 78 rfl rfl, GT_4 75 rfl rfl, GT_1 1 rfl rfl, ⟨by decide, by decide, by decide +kernel⟩⟩, GT_4 77 rfl rfl, GT_p2 1 rfl, by decide⟩
set_option maxRecDepth 100000 in
theorem cvX7_297 : CV RX7 297 yX7_isRest cX7_isRest 5 (some .boolean) 1 7 := ⟨⟨GT_4 82 rfl rfl, GT_4 79 rfl rfl, GT_1 1 rfl rfl, ⟨by decide, by decide, by decide +kernel⟩⟩, GT_4 81 rfl rfl, GT_p2 2 rfl, by decide⟩
set_option maxRecDepth 100000 in
theorem cvX7_300 : CV RX7 300 yX3_unlikeLots cX3_unlikeLots 2 (some .int) 0 3 := ⟨⟨GT_4 94 rfl rfl, GT_4 91 rfl rfl, GT_1 12 rfl rfl, ⟨by decide, by decide, by decide +kernel⟩⟩, GT_4 92 rfl rfl, GT_4 93 rfl rfl, by decide⟩
set_option maxRecDepth 100000 in
theorem cvX7_303 : CV RX7 303 yX7_findSwap cX7_findSwap 7 (some .boolean) 0 7 := ⟨⟨GT_4 112 rfl rfl, GT_4 109 rfl rfl, GT_1 1 rfl rfl, ⟨by decide, by decide, by decide +kernel⟩⟩, GT_4 111 rfl rfl, GT_p2 3 rfl, by decide⟩
set_option maxRecDepth 100000 in
theorem cvX7_318 : CV RX7 318 yX7_findTurns cX7_findTurns 9 (some .int) 1 7 := ⟨⟨GT_4 124 rfl rfl, GT_4 121 rfl rfl, GT_1 1 rfl rfl, ⟨by decide, by decide, by decide +kernel⟩⟩, GT_4 123 rfl rfl, GT_p2 4 rfl, by decide⟩
set_option maxRecDepth 100000 in
theorem cvX7_321 : CV RX7 321 yX3_letForkAlone cX3_letForkAlone 3 none 1 3 := ⟨⟨GT_4 128 rfl rfl, GT_4 125 rfl rfl, GT_1 12 rfl rfl, ⟨by decide, by decide, by decide +kernel⟩⟩, GT_4 126 rfl rfl, GT_4 127 rfl rfl, by decide⟩
set_option maxRecDepth 100000 in
theorem cvX7_334 : CV RX7 334 yX2_add cX2_add 4 (some .int) 3 2 := ⟨⟨GT_4 148 rfl rfl, GT_4 145 rfl rfl, GT_1 8 rfl rfl, ⟨by decide, by decide, by decide +kernel⟩⟩, GT_4 146 rfl rfl, GT_4 147 rfl rfl, by decide⟩
set_option maxRecDepth 100000 in
theorem cvX7_340 : CV RX7 340 yX2_sift cX2_sift 2 none 0 2 := ⟨⟨GT_4 164 rfl rfl, GT_4 161 rfl rfl, GT_1 8 rfl rfl, ⟨by decide, by decide, by decide +kernel⟩⟩, GT_4 162 rfl rfl, GT_4 163 rfl rfl, by decide⟩
set_option maxRecDepth 100000 in
theorem cvX7_343 : CV RX7 343 yX7_agreesWithSeen cX7_agreesWithSeen 6 (some .boolean) 2 7 := ⟨⟨GT_4 172 rfl rfl, GT_4 169 rfl rfl, GT_1 1 rfl rfl, ⟨by decide, by decide, by decide +kernel⟩⟩, GT_4 171 rfl rfl, GT_p2 5 rfl, by decide⟩
set_option maxRecDepth 100000 in
theorem cvX7_346 : CV RX7 346 yX2_lastHour cX2_lastHour 3 (some .int) 0 2 := ⟨⟨GT_4 176 rfl rfl, GT_4 173 rfl rfl, GT_1 8 rfl rfl, ⟨by decide, by decide, by decide +kernel⟩⟩, GT_4 174 rfl rfl, GT_4 175 rfl rfl, by decide⟩
set_option maxRecDepth 100000 in
theorem cvX7_349 : CV RX7 349 yX2_agrees cX2_agrees 4 (some .boolean) 2 2 := ⟨⟨GT_4 185 rfl rfl, GT_4 182 rfl rfl, GT_1 8 rfl rfl, ⟨by decide, by decide, by decide +kernel⟩⟩, GT_4 183 rfl rfl, GT_4 184 rfl rfl, by decide⟩
set_option maxRecDepth 100000 in
theorem cvX7_356 : CV RX7 356 yX3_tryOut cX3_tryOut 4 none 2 3 := ⟨⟨GT_4 198 rfl rfl, GT_4 195 rfl rfl, GT_1 12 rfl rfl, ⟨by decide, by decide, by decide +kernel⟩⟩, GT_4 196 rfl rfl, GT_4 197 rfl rfl, by decide⟩
set_option maxRecDepth 100000 in
theorem cvX7_369 : CV RX7 369 yX3_allLying cX3_allLying 1 (some .int) 0 3 := ⟨⟨GT_3 224 rfl rfl, GT_4 204 rfl rfl, GT_1 12 rfl rfl, ⟨by decide, by decide, by decide +kernel⟩⟩, GT_3 222 rfl rfl, GT_3 223 rfl rfl, by decide⟩
set_option maxRecDepth 100000 in
theorem cvX7_372 : CV RX7 372 yX2_knownSize cX2_knownSize 1 (some .int) 0 2 := ⟨⟨GT_4 168 rfl rfl, GT_4 205 rfl rfl, GT_1 8 rfl rfl, ⟨by decide, by decide, by decide +kernel⟩⟩, GT_4 166 rfl rfl, GT_4 167 rfl rfl, by decide⟩
set_option maxRecDepth 100000 in
theorem cvX0_35 : CV RX0 35 yX0_isTold cX0_isTold 2 (some .boolean) 1 0 := ⟨⟨GT_3 137 rfl rfl, GT_3 134 rfl rfl, GT_1 11 rfl rfl, ⟨by decide, by decide, by decide +kernel⟩⟩, GT_3 135 rfl rfl, GT_3 136 rfl rfl, by decide⟩
set_option maxRecDepth 100000 in
theorem cvX1_29 : CV RX1 29 yX5_clear cX5_clear 1 none 0 5 := ⟨⟨GT_4 237 rfl rfl, GT_4 234 rfl rfl, GT_1 10 rfl rfl, ⟨by decide, by decide, by decide +kernel⟩⟩, GT_4 235 rfl rfl, GT_4 236 rfl rfl, by decide⟩
set_option maxRecDepth 100000 in
theorem cvX1_47 : CV RX1 47 yX4_begin cX4_begin 2 none 1 4 := ⟨⟨GT_5 5 rfl rfl, GT_5 2 rfl rfl, GT_1 2 rfl rfl, ⟨by decide, by decide, by decide +kernel⟩⟩, GT_5 3 rfl rfl, GT_5 4 rfl rfl, by decide⟩
set_option maxRecDepth 100000 in
theorem cvX1_56 : CV RX1 56 yX1_readLine cX1_readLine 1 (some .boolean) 0 1 := ⟨⟨GT_5 36 rfl rfl, GT_5 33 rfl rfl, GT_1 7 rfl rfl, ⟨by decide, by decide, by decide +kernel⟩⟩, GT_5 35 rfl rfl, GT_p2 10 rfl, by decide⟩
set_option maxRecDepth 100000 in
theorem cvX1_60 : CV RX1 60 yX1_takeSemicolon cX1_takeSemicolon 1 (some .boolean) 0 1 := ⟨⟨GT_5 138 rfl rfl, GT_5 135 rfl rfl, GT_1 7 rfl rfl, ⟨by decide, by decide, by decide +kernel⟩⟩, GT_5 137 rfl rfl, GT_p3 13 rfl, by decide⟩
set_option maxRecDepth 100000 in
theorem cvX1_66 : CV RX1 66 yX1_readStripe cX1_readStripe 1 (some .boolean) 0 1 := ⟨⟨GT_5 40 rfl rfl, GT_5 37 rfl rfl, GT_1 7 rfl rfl, ⟨by decide, by decide, by decide +kernel⟩⟩, GT_5 39 rfl rfl, GT_p2 11 rfl, by decide⟩
set_option maxRecDepth 100000 in
theorem cvX1_69 : CV RX1 69 yX1_readCroft cX1_readCroft 2 (some .boolean) 0 1 := ⟨⟨GT_5 53 rfl rfl, GT_5 50 rfl rfl, GT_1 7 rfl rfl, ⟨by decide, by decide, by decide +kernel⟩⟩, GT_5 52 rfl rfl, GT_p2 14 rfl, by decide⟩
set_option maxRecDepth 100000 in
theorem cvX1_72 : CV RX1 72 yX1_readField cX1_readField 3 (some .boolean) 0 1 := ⟨⟨GT_5 61 rfl rfl, GT_5 58 rfl rfl, GT_1 7 rfl rfl, ⟨by decide, by decide, by decide +kernel⟩⟩, GT_5 60 rfl rfl, GT_p2 15 rfl, by decide⟩
set_option maxRecDepth 100000 in
theorem cvX1_75 : CV RX1 75 yX1_readTide cX1_readTide 1 (some .boolean) 0 1 := ⟨⟨GT_5 65 rfl rfl, GT_5 62 rfl rfl, GT_1 7 rfl rfl, ⟨by decide, by decide, by decide +kernel⟩⟩, GT_5 64 rfl rfl, GT_p3 0 rfl, by decide⟩
set_option maxRecDepth 100000 in
theorem cvX1_78 : CV RX1 78 yX1_readHeap cX1_readHeap 1 (some .boolean) 0 1 := ⟨⟨GT_5 70 rfl rfl, GT_5 67 rfl rfl, GT_1 7 rfl rfl, ⟨by decide, by decide, by decide +kernel⟩⟩, GT_5 69 rfl rfl, GT_p3 1 rfl, by decide⟩
set_option maxRecDepth 100000 in
theorem cvX1_81 : CV RX1 81 yX1_readRule cX1_readRule 1 (some .boolean) 0 1 := ⟨⟨GT_5 78 rfl rfl, GT_5 75 rfl rfl, GT_1 7 rfl rfl, ⟨by decide, by decide, by decide +kernel⟩⟩, GT_5 77 rfl rfl, GT_p3 3 rfl, by decide⟩
set_option maxRecDepth 100000 in
theorem cvX1_84 : CV RX1 84 yX1_readGale cX1_readGale 1 (some .boolean) 0 1 := ⟨⟨GT_5 82 rfl rfl, GT_5 79 rfl rfl, GT_1 7 rfl rfl, ⟨by decide, by decide, by decide +kernel⟩⟩, GT_5 81 rfl rfl, GT_p3 4 rfl, by decide⟩
set_option maxRecDepth 100000 in
theorem cvX1_87 : CV RX1 87 yX1_readSeed cX1_readSeed 1 (some .boolean) 0 1 := ⟨⟨GT_5 86 rfl rfl, GT_5 83 rfl rfl, GT_1 7 rfl rfl, ⟨by decide, by decide, by decide +kernel⟩⟩, GT_5 85 rfl rfl, GT_p3 5 rfl, by decide⟩
set_option maxRecDepth 100000 in
theorem cvX1_90 : CV RX1 90 yX1_readLaw cX1_readLaw 3 (some .boolean) 0 1 := ⟨⟨GT_5 91 rfl rfl, GT_5 88 rfl rfl, GT_1 7 rfl rfl, ⟨by decide, by decide, by decide +kernel⟩⟩, GT_5 90 rfl rfl, GT_p3 6 rfl, by decide⟩
set_option maxRecDepth 100000 in
theorem cvX1_93 : CV RX1 93 yX1_fails cX1_fails 2 (some .boolean) 1 1 := ⟨⟨GT_5 44 rfl rfl, GT_5 41 rfl rfl, GT_1 7 rfl rfl, ⟨by decide, by decide, by decide +kernel⟩⟩, GT_5 43 rfl rfl, GT_p2 12 rfl, by decide⟩
set_option maxRecDepth 100000 in
theorem cvX1_100 : CV RX1 100 yX4_advance cX4_advance 1 none 0 4 := ⟨⟨GT_5 10 rfl rfl, GT_5 45 rfl rfl, GT_1 2 rfl rfl, ⟨by decide, by decide, by decide +kernel⟩⟩, GT_5 8 rfl rfl, GT_5 9 rfl rfl, by decide⟩
set_option maxRecDepth 100000 in
theorem cvX1_112 : CV RX1 112 yX1_takeNumber cX1_takeNumber 2 (some .boolean) 1 1 := ⟨⟨GT_5 49 rfl rfl, GT_5 46 rfl rfl, GT_1 7 rfl rfl, ⟨by decide, by decide, by decide +kernel⟩⟩, GT_5 48 rfl rfl, GT_p2 13 rfl, by decide⟩
set_option maxRecDepth 100000 in
theorem cvX1_124 : CV RX1 124 yX5_croftNamed cX5_croftNamed 3 (some .int) 1 5 := ⟨⟨GT_5 57 rfl rfl, GT_5 54 rfl rfl, GT_1 10 rfl rfl, ⟨by decide, by decide, by decide +kernel⟩⟩, GT_5 55 rfl rfl, GT_5 56 rfl rfl, by decide⟩
set_option maxRecDepth 100000 in
theorem cvX1_155 : CV RX1 155 yX5_hasTide cX5_hasTide 3 (some .boolean) 1 5 := ⟨⟨GT_4 9 rfl rfl, GT_5 66 rfl rfl, GT_1 10 rfl rfl, ⟨by decide, by decide, by decide +kernel⟩⟩, GT_4 7 rfl rfl, GT_4 8 rfl rfl, by decide⟩
set_option maxRecDepth 100000 in
theorem cvX1_161 : CV RX1 161 yX1_takeOnce cX1_takeOnce 2 (some .boolean) 0 1 := ⟨⟨GT_5 74 rfl rfl, GT_5 71 rfl rfl, GT_1 7 rfl rfl, ⟨by decide, by decide, by decide +kernel⟩⟩, GT_5 73 rfl rfl, GT_p3 2 rfl, by decide⟩
set_option maxRecDepth 100000 in
theorem cvX1_184 : CV RX1 184 yX0_isTold cX0_isTold 2 (some .boolean) 1 0 := ⟨⟨GT_3 137 rfl rfl, GT_5 92 rfl rfl, GT_1 11 rfl rfl, ⟨by decide, by decide, by decide +kernel⟩⟩, GT_3 135 rfl rfl, GT_3 136 rfl rfl, by decide⟩
set_option maxRecDepth 100000 in
theorem cvX1_187 : CV RX1 187 yX0_begin cX0_begin 2 none 1 0 := ⟨⟨GT_5 96 rfl rfl, GT_5 93 rfl rfl, GT_1 11 rfl rfl, ⟨by decide, by decide, by decide +kernel⟩⟩, GT_5 94 rfl rfl, GT_5 95 rfl rfl, by decide⟩
set_option maxRecDepth 100000 in
theorem cvX1_188 : CV RX1 188 yX1_beginExpression cX1_beginExpression 1 none 0 1 := ⟨⟨GT_5 100 rfl rfl, GT_5 97 rfl rfl, GT_1 7 rfl rfl, ⟨by decide, by decide, by decide +kernel⟩⟩, GT_5 99 rfl rfl, GT_p3 7 rfl, by decide⟩
set_option maxRecDepth 100000 in
theorem cvX1_195 : CV RX1 195 yX1_readOperand cX1_readOperand 3 (some .boolean) 0 1 := ⟨⟨GT_5 104 rfl rfl, GT_5 101 rfl rfl, GT_1 7 rfl rfl, ⟨by decide, by decide, by decide +kernel⟩⟩, GT_5 103 rfl rfl, GT_p3 8 rfl, by decide⟩
set_option maxRecDepth 100000 in
theorem cvX1_201 : CV RX1 201 yX1_readJoin cX1_readJoin 2 (some .boolean) 0 1 := ⟨⟨GT_5 122 rfl rfl, GT_5 119 rfl rfl, GT_1 7 rfl rfl, ⟨by decide, by decide, by decide +kernel⟩⟩, GT_5 121 rfl rfl, GT_p3 10 rfl, by decide⟩
set_option maxRecDepth 100000 in
theorem cvX1_207 : CV RX1 207 yX1_closeParenthesis cX1_closeParenthesis 1 none 0 1 := ⟨⟨GT_5 130 rfl rfl, GT_5 127 rfl rfl, GT_1 7 rfl rfl, ⟨by decide, by decide, by decide +kernel⟩⟩, GT_5 129 rfl rfl, GT_p3 12 rfl, by decide⟩
set_option maxRecDepth 100000 in
theorem cvX1_210 : CV RX1 210 yX1_putWaiting cX1_putWaiting 2 none 1 1 := ⟨⟨GT_5 126 rfl rfl, GT_5 123 rfl rfl, GT_1 7 rfl rfl, ⟨by decide, by decide, by decide +kernel⟩⟩, GT_5 125 rfl rfl, GT_p3 11 rfl, by decide⟩
set_option maxRecDepth 100000 in
theorem cvX1_213 : CV RX1 213 yX0_end cX0_end 2 none 1 0 := ⟨⟨GT_5 134 rfl rfl, GT_5 131 rfl rfl, GT_1 11 rfl rfl, ⟨by decide, by decide, by decide +kernel⟩⟩, GT_5 132 rfl rfl, GT_5 133 rfl rfl, by decide⟩
set_option maxRecDepth 100000 in
theorem cvX1_222 : CV RX1 222 yX0_put cX0_put 3 none 2 0 := ⟨⟨GT_5 108 rfl rfl, GT_5 105 rfl rfl, GT_1 11 rfl rfl, ⟨by decide, by decide, by decide +kernel⟩⟩, GT_5 106 rfl rfl, GT_5 107 rfl rfl, by decide⟩
set_option maxRecDepth 100000 in
theorem cvX1_226 : CV RX1 226 yX1_push cX1_push 2 none 1 1 := ⟨⟨GT_5 112 rfl rfl, GT_5 109 rfl rfl, GT_1 7 rfl rfl, ⟨by decide, by decide, by decide +kernel⟩⟩, GT_5 111 rfl rfl, GT_p3 9 rfl, by decide⟩
set_option maxRecDepth 100000 in
theorem cvX2_32 : CV RX2 32 yX2_knownSize cX2_knownSize 1 (some .int) 0 2 := ⟨⟨GT_4 168 rfl rfl, GT_4 165 rfl rfl, GT_1 8 rfl rfl, ⟨by decide, by decide, by decide +kernel⟩⟩, GT_4 166 rfl rfl, GT_4 167 rfl rfl, by decide⟩
set_option maxRecDepth 100000 in
theorem cvX2_36 : CV RX2 36 yX2_counts cX2_counts 2 (some .boolean) 1 2 := ⟨⟨GT_4 180 rfl rfl, GT_4 177 rfl rfl, GT_1 8 rfl rfl, ⟨by decide, by decide, by decide +kernel⟩⟩, GT_4 179 rfl rfl, GT_p2 6 rfl, by decide⟩
set_option maxRecDepth 100000 in
theorem cvX3_88 : CV RX3 88 yX3_passHour cX3_passHour 3 none 0 3 := ⟨⟨GT_3 216 rfl rfl, GT_3 213 rfl rfl, GT_1 12 rfl rfl, ⟨by decide, by decide, by decide +kernel⟩⟩, GT_3 214 rfl rfl, GT_3 215 rfl rfl, by decide⟩
set_option maxRecDepth 100000 in
theorem cvX3_94 : CV RX3 94 yX3_drawNumber cX3_drawNumber 1 (some .int) 0 3 := ⟨⟨GT_3 201 rfl rfl, GT_3 198 rfl rfl, GT_1 12 rfl rfl, ⟨by decide, by decide, by decide +kernel⟩⟩, GT_3 200 rfl rfl, GT_p1 5 rfl, by decide⟩
set_option maxRecDepth 100000 in
theorem cvX3_98 : CV RX3 98 yX3_blow cX3_blow 2 none 0 3 := ⟨⟨GT_3 209 rfl rfl, GT_3 206 rfl rfl, GT_1 12 rfl rfl, ⟨by decide, by decide, by decide +kernel⟩⟩, GT_3 208 rfl rfl, GT_p1 6 rfl, by decide⟩
set_option maxRecDepth 100000 in
theorem cvX3_120 : CV RX3 120 yX3_ruledAct cX3_ruledAct 1 (some .int) 0 3 := ⟨⟨GT_3 220 rfl rfl, GT_3 217 rfl rfl, GT_1 12 rfl rfl, ⟨by decide, by decide, by decide +kernel⟩⟩, GT_3 219 rfl rfl, GT_p1 7 rfl, by decide⟩
set_option maxRecDepth 100000 in
theorem cvX3_123 : CV RX3 123 yX3_cart cX3_cart 7 none 1 3 := ⟨⟨GT_3 231 rfl rfl, GT_3 228 rfl rfl, GT_1 12 rfl rfl, ⟨by decide, by decide, by decide +kernel⟩⟩, GT_3 230 rfl rfl, GT_p1 8 rfl, by decide⟩
set_option maxRecDepth 100000 in
theorem cvX3_127 : CV RX3 127 yX3_fork cX3_fork 7 none 1 3 := ⟨⟨GT_4 5 rfl rfl, GT_4 2 rfl rfl, GT_1 12 rfl rfl, ⟨by decide, by decide, by decide +kernel⟩⟩, GT_4 4 rfl rfl, GT_p1 10 rfl, by decide⟩
set_option maxRecDepth 100000 in
theorem cvX3_130 : CV RX3 130 yX5_hasTide cX5_hasTide 3 (some .boolean) 1 5 := ⟨⟨GT_4 9 rfl rfl, GT_4 6 rfl rfl, GT_1 10 rfl rfl, ⟨by decide, by decide, by decide +kernel⟩⟩, GT_4 7 rfl rfl, GT_4 8 rfl rfl, by decide⟩
set_option maxRecDepth 100000 in
theorem cvX3_134 : CV RX3 134 yX3_ebb cX3_ebb 5 none 0 3 := ⟨⟨GT_4 13 rfl rfl, GT_4 10 rfl rfl, GT_1 12 rfl rfl, ⟨by decide, by decide, by decide +kernel⟩⟩, GT_4 12 rfl rfl, GT_p1 11 rfl, by decide⟩
set_option maxRecDepth 100000 in
theorem cvX3_137 : CV RX3 137 yX3_allLying cX3_allLying 1 (some .int) 0 3 := ⟨⟨GT_3 224 rfl rfl, GT_3 221 rfl rfl, GT_1 12 rfl rfl, ⟨by decide, by decide, by decide +kernel⟩⟩, GT_3 222 rfl rfl, GT_3 223 rfl rfl, by decide⟩
set_option maxRecDepth 100000 in
theorem cvX3_140 : CV RX3 140 yX3_sourceOf cX3_sourceOf 7 (some .int) 2 3 := ⟨⟨GT_3 155 rfl rfl, GT_3 232 rfl rfl, GT_1 12 rfl rfl, ⟨by decide, by decide, by decide +kernel⟩⟩, GT_3 153 rfl rfl, GT_3 154 rfl rfl, by decide⟩
set_option maxRecDepth 100000 in
theorem cvX3_150 : CV RX3 150 yX3_worthOf cX3_worthOf 4 (some .int) 1 3 := ⟨⟨GT_3 125 rfl rfl, GT_3 233 rfl rfl, GT_1 12 rfl rfl, ⟨by decide, by decide, by decide +kernel⟩⟩, GT_3 123 rfl rfl, GT_3 124 rfl rfl, by decide⟩
set_option maxRecDepth 100000 in
theorem cvX3_154 : CV RX3 154 yX3_loadOf cX3_loadOf 5 (some .int) 2 3 := ⟨⟨GT_3 237 rfl rfl, GT_3 234 rfl rfl, GT_1 12 rfl rfl, ⟨by decide, by decide, by decide +kernel⟩⟩, GT_3 236 rfl rfl, GT_p1 9 rfl, by decide⟩
set_option maxRecDepth 100000 in
theorem cvX3_157 : CV RX3 157 yX3_namePlace cX3_namePlace 4 none 2 3 := ⟨⟨GT_4 1 rfl rfl, GT_3 238 rfl rfl, GT_1 12 rfl rfl, ⟨by decide, by decide, by decide +kernel⟩⟩, GT_3 239 rfl rfl, GT_4 0 rfl rfl, by decide⟩
set_option maxRecDepth 100000 in
theorem cvX3_165 : CV RX3 165 yX0_value cX0_value 7 (some .long) 1 0 := ⟨⟨GT_3 133 rfl rfl, GT_3 130 rfl rfl, GT_1 11 rfl rfl, ⟨by decide, by decide, by decide +kernel⟩⟩, GT_3 131 rfl rfl, GT_3 132 rfl rfl, by decide⟩
set_option maxRecDepth 100000 in
theorem cvX3_177 : CV RX3 177 yX3_nameField cX3_nameField 4 none 1 3 := ⟨⟨GT_3 129 rfl rfl, GT_3 126 rfl rfl, GT_1 12 rfl rfl, ⟨by decide, by decide, by decide +kernel⟩⟩, GT_3 127 rfl rfl, GT_3 128 rfl rfl, by decide⟩
set_option maxRecDepth 100000 in
theorem cvX3_190 : CV RX3 190 yX3_liesOnLots cX3_liesOnLots 4 (some .int) 1 3 := ⟨⟨GT_3 113 rfl rfl, GT_4 95 rfl rfl, GT_1 12 rfl rfl, ⟨by decide, by decide, by decide +kernel⟩⟩, GT_3 111 rfl rfl, GT_3 112 rfl rfl, by decide⟩
set_option maxRecDepth 100000 in
theorem cvX4_45 : CV RX4 45 yX4_advance cX4_advance 1 none 0 4 := ⟨⟨GT_5 10 rfl rfl, GT_5 7 rfl rfl, GT_1 2 rfl rfl, ⟨by decide, by decide, by decide +kernel⟩⟩, GT_5 8 rfl rfl, GT_5 9 rfl rfl, by decide⟩
set_option maxRecDepth 100000 in
theorem cvX4_58 : CV RX4 58 yX4_readWord cX4_readWord 3 none 0 4 := ⟨⟨GT_5 17 rfl rfl, GT_5 14 rfl rfl, GT_1 2 rfl rfl, ⟨by decide, by decide, by decide +kernel⟩⟩, GT_5 16 rfl rfl, GT_p2 7 rfl, by decide⟩
set_option maxRecDepth 100000 in
theorem cvX4_64 : CV RX4 64 yX4_readNumber cX4_readNumber 1 none 0 4 := ⟨⟨GT_5 24 rfl rfl, GT_5 21 rfl rfl, GT_1 2 rfl rfl, ⟨by decide, by decide, by decide +kernel⟩⟩, GT_5 23 rfl rfl, GT_p2 8 rfl, by decide⟩
set_option maxRecDepth 100000 in
theorem cvX4_67 : CV RX4 67 yX4_readSign cX4_readSign 3 none 1 4 := ⟨⟨GT_5 29 rfl rfl, GT_5 26 rfl rfl, GT_1 2 rfl rfl, ⟨by decide, by decide, by decide +kernel⟩⟩, GT_5 28 rfl rfl, GT_p2 9 rfl, by decide⟩
set_option maxRecDepth 100000 in
theorem cvX5_46 : CV RX5 46 yX0_clear cX0_clear 2 none 0 0 := ⟨⟨GT_5 1 rfl rfl, GT_4 238 rfl rfl, GT_1 11 rfl rfl, ⟨by decide, by decide, by decide +kernel⟩⟩, GT_4 239 rfl rfl, GT_5 0 rfl rfl, by decide⟩
set_option maxRecDepth 100000 in
theorem csX7_228 : CS RX7 228 yX7_isRule cX7_isRule 1 (some .boolean) 1 := ⟨⟨GT_3 173 rfl rfl, GT_3 171 rfl rfl, GT_1 1 rfl rfl, ⟨by decide, by decide, by decide +kernel⟩⟩, GT_3 172 rfl rfl⟩
set_option maxRecDepth 100000 in
theorem csX7_247 : CS RX7 247 yX7_isIn cX7_isIn 3 (some .boolean) 3 := ⟨⟨GT_4 20 rfl rfl, GT_4 18 rfl rfl, GT_1 1 rfl rfl, ⟨by decide, by decide, by decide +kernel⟩⟩, GT_4 19 rfl rfl⟩
set_option maxRecDepth 100000 in
theorem csX7_275 : CS RX7 275 yX7_power cX7_power 4 (some .int) 2 := ⟨⟨GT_4 56 rfl rfl, GT_4 54 rfl rfl, GT_1 1 rfl rfl, ⟨by decide, by decide, by decide +kernel⟩⟩, GT_4 55 rfl rfl⟩
set_option maxRecDepth 100000 in
theorem csX7_324 : CS RX7 324 yX7_spread cX7_spread 5 (some .int) 2 := ⟨⟨GT_4 98 rfl rfl, GT_4 129 rfl rfl, GT_1 1 rfl rfl, ⟨by decide, by decide, by decide +kernel⟩⟩, GT_4 97 rfl rfl⟩
set_option maxRecDepth 100000 in
theorem csX7_331 : CS RX7 331 yX7_commonDivisor cX7_commonDivisor 6 (some .int) 2 := ⟨⟨GT_4 140 rfl rfl, GT_4 138 rfl rfl, GT_1 1 rfl rfl, ⟨by decide, by decide, by decide +kernel⟩⟩, GT_4 139 rfl rfl⟩
set_option maxRecDepth 100000 in
theorem csX0_43 : CS RX0 43 yX0_joined cX0_joined 9 (some .long) 3 := ⟨⟨GT_3 141 rfl rfl, GT_3 139 rfl rfl, GT_1 11 rfl rfl, ⟨by decide, by decide, by decide +kernel⟩⟩, GT_3 140 rfl rfl⟩
set_option maxRecDepth 100000 in
theorem csX1_198 : CS RX1 198 yX1_joins cX1_joins 1 (some .boolean) 1 := ⟨⟨GT_5 115 rfl rfl, GT_5 113 rfl rfl, GT_1 7 rfl rfl, ⟨by decide, by decide, by decide +kernel⟩⟩, GT_5 114 rfl rfl⟩
set_option maxRecDepth 100000 in
theorem csX1_229 : CS RX1 229 yX1_bindingOf cX1_bindingOf 1 (some .int) 1 := ⟨⟨GT_5 118 rfl rfl, GT_5 116 rfl rfl, GT_1 7 rfl rfl, ⟨by decide, by decide, by decide +kernel⟩⟩, GT_5 117 rfl rfl⟩
set_option maxRecDepth 100000 in
theorem csX3_173 : CS RX3 173 yX3_putWithin cX3_putWithin 3 (some .int) 2 := ⟨⟨GT_3 147 rfl rfl, GT_3 145 rfl rfl, GT_1 12 rfl rfl, ⟨by decide, by decide, by decide +kernel⟩⟩, GT_3 146 rfl rfl⟩
set_option maxRecDepth 100000 in
theorem csX3_198 : CS RX3 198 yX3_sum cX3_sum 4 (some .int) 2 := ⟨⟨GT_3 227 rfl rfl, GT_3 225 rfl rfl, GT_1 12 rfl rfl, ⟨by decide, by decide, by decide +kernel⟩⟩, GT_3 226 rfl rfl⟩
set_option maxRecDepth 100000 in
theorem csX4_54 : CS RX4 54 yX4_isLetter cX4_isLetter 1 (some .boolean) 1 := ⟨⟨GT_5 13 rfl rfl, GT_5 11 rfl rfl, GT_1 2 rfl rfl, ⟨by decide, by decide, by decide +kernel⟩⟩, GT_5 12 rfl rfl⟩
set_option maxRecDepth 100000 in
theorem csX4_61 : CS RX4 61 yX4_isDigit cX4_isDigit 1 (some .boolean) 1 := ⟨⟨GT_5 20 rfl rfl, GT_5 18 rfl rfl, GT_1 2 rfl rfl, ⟨by decide, by decide, by decide +kernel⟩⟩, GT_5 19 rfl rfl⟩
set_option maxRecDepth 100000 in
theorem csX4_78 : CS RX4 78 yX4_isSign cX4_isSign 1 (some .boolean) 1 := ⟨⟨GT_5 32 rfl rfl, GT_5 30 rfl rfl, GT_1 2 rfl rfl, ⟨by decide, by decide, by decide +kernel⟩⟩, GT_5 31 rfl rfl⟩
set_option maxRecDepth 100000 in
theorem cnX3_193 : CN RX3 193 yX7_spread "WeedStrand" cX7_spread 5 (some .int) 2 := ⟨GT_4 98 rfl rfl, LW_4 96 rfl, GT_1 1 rfl rfl, ⟨by decide, by decide, by decide +kernel⟩, GT_4 97 rfl rfl⟩
set_option maxRecDepth 100000 in
theorem ws_copy : Cond.native arraycopyName ∈ GT ∧ Cond.static arraycopyName ∈ GT ∧ Cond.initialized "java/lang/System" ∈ GT := ⟨GT_3 166 rfl rfl, GT_3 165 rfl rfl, GT_1 18 rfl rfl⟩
set_option maxRecDepth 100000 in
theorem ws_max : Cond.static Lib.Math.max.name ∈ GT ∧ Cond.initialized "java/lang/Math" ∈ GT ∧ Cond.code Lib.Math.max.name Lib.Math.max.code 2 (some .int) ∈ GT := ⟨GT_4 103 rfl rfl, GT_1 16 rfl rfl, GT_4 104 rfl rfl⟩
set_option maxRecDepth 100000 in
theorem ws_min : Cond.static Lib.Math.min.name ∈ GT ∧ Cond.initialized "java/lang/Math" ∈ GT ∧ Cond.code Lib.Math.min.name Lib.Math.min.code 2 (some .int) ∈ GT := ⟨GT_3 211 rfl rfl, GT_1 16 rfl rfl, GT_3 212 rfl rfl⟩
