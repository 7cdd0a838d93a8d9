set_option maxRecDepth 100000 in
theorem wd_641 : Cond.methodLink "WeedStrand$Tokens" 34 (⟨"java/lang/Math", "min", "(II)I"⟩ : MethodName) ∈ GT := GT_3 38 rfl rfl
set_option maxRecDepth 100000 in
theorem wd_662 : Cond.constant "WeedStrand$Tokens" 77 1000000 ∈ GT := GT_3 59 rfl rfl
set_option maxRecDepth 100000 in
theorem wd_727 : Cond.constant "WeedStrand$Reader" 176 99999 ∈ GT := GT_3 124 rfl rfl
set_option maxRecDepth 100000 in
theorem wd_790 : Cond.methodLink "WeedStrand$Strand" 82 (⟨"java/lang/System", "arraycopy", "(Ljava/lang/Object;ILjava/lang/Object;II)V"⟩ : MethodName) ∈ GT := GT_3 187 rfl rfl
set_option maxRecDepth 100000 in
theorem wd_839 : Cond.constantLong "WeedStrand$Laws" 39 (-9223372036854775808) ∈ GT := GT_3 236 rfl rfl
set_option maxRecDepth 100000 in
theorem wd_843 : Cond.constantLong "WeedStrand$Laws" 47 1000000000000 ∈ GT := GT_4 0 rfl rfl
set_option maxRecDepth 100000 in
theorem wd_844 : Cond.constantLong "WeedStrand$Laws" 49 (-1000000000000) ∈ GT := GT_4 1 rfl rfl
set_option maxRecDepth 100000 in
theorem wd_845 : Cond.constantLong "WeedStrand$Strand" 171 (-9223372036854775808) ∈ GT := GT_4 2 rfl rfl
set_option maxRecDepth 100000 in
theorem wd_869 : Cond.constantLong "WeedStrand" 204 (-9223372036854775808) ∈ GT := GT_4 26 rfl rfl
set_option maxRecDepth 100000 in
theorem wd_884 : Cond.methodLink "WeedStrand$Undos" 25 (⟨"java/lang/System", "arraycopy", "(Ljava/lang/Object;ILjava/lang/Object;II)V"⟩ : MethodName) ∈ GT := GT_4 41 rfl rfl
set_option maxRecDepth 100000 in
theorem wd_920 : Cond.constantLong "WeedStrand$Strand" 101 1103515245 ∈ GT := GT_4 77 rfl rfl
set_option maxRecDepth 100000 in
theorem wd_921 : Cond.constantLong "WeedStrand$Strand" 103 12345 ∈ GT := GT_4 78 rfl rfl
set_option maxRecDepth 100000 in
theorem wd_922 : Cond.constantLong "WeedStrand$Strand" 105 2147483647 ∈ GT := GT_4 79 rfl rfl
set_option maxRecDepth 100000 in
theorem wd_923 : Cond.constant "WeedStrand$Strand" 107 65536 ∈ GT := GT_4 80 rfl rfl
set_option maxRecDepth 100000 in
theorem wd_928 : Cond.methodLink "WeedStrand$Strand" 114 (⟨"java/lang/Math", "min", "(II)I"⟩ : MethodName) ∈ GT := GT_4 85 rfl rfl
set_option maxRecDepth 100000 in
theorem wd_1007 : Cond.methodLink "WeedStrand" 281 (⟨"java/lang/System", "arraycopy", "(Ljava/lang/Object;ILjava/lang/Object;II)V"⟩ : MethodName) ∈ GT := GT_4 164 rfl rfl
set_option maxRecDepth 100000 in
theorem wd_1048 : Cond.constant "WeedStrand" 377 2147483647 ∈ GT := GT_4 205 rfl rfl
set_option maxRecDepth 100000 in
theorem wd_1049 : Cond.constant "WeedStrand" 378 (-2147483648) ∈ GT := GT_4 206 rfl rfl
set_option maxRecDepth 100000 in
theorem wd_1050 : Cond.methodLink "WeedStrand" 379 (⟨"java/lang/Math", "min", "(II)I"⟩ : MethodName) ∈ GT := GT_4 207 rfl rfl
set_option maxRecDepth 100000 in
theorem wd_1051 : Cond.methodLink "WeedStrand" 310 (⟨"java/lang/Math", "max", "(II)I"⟩ : MethodName) ∈ GT := GT_4 208 rfl rfl
set_option maxRecDepth 100000 in
theorem wd_1130 : Cond.methodLink "WeedStrand$Seen" 40 (⟨"java/lang/Math", "max", "(II)I"⟩ : MethodName) ∈ GT := GT_5 47 rfl rfl
set_option maxRecDepth 100000 in
theorem wd_1139 : Cond.constant "WeedStrand" 352 999999 ∈ GT := GT_5 56 rfl rfl
set_option maxRecDepth 100000 in
theorem wd_1148 : Cond.constant "WeedStrand$Strand" 197 2147483647 ∈ GT := GT_5 65 rfl rfl
set_option maxRecDepth 100000 in
theorem wd_1589 : Cond.constant "WeedStrandModel" 201 99999 ∈ GT := GT_7 26 rfl rfl
set_option maxRecDepth 100000 in
theorem wd_1747 : Cond.constantLong "WeedStrandModel" 344 1000000000000 ∈ GT := GT_7 184 rfl rfl
set_option maxRecDepth 100000 in
theorem wd_1748 : Cond.constantLong "WeedStrandModel" 346 (-1000000000000) ∈ GT := GT_7 185 rfl rfl
set_option maxRecDepth 100000 in
theorem wd_1768 : Cond.constantLong "WeedStrandModel" 471 (-9223372036854775808) ∈ GT := GT_7 205 rfl rfl
set_option maxRecDepth 100000 in
theorem wd_1813 : Cond.constantLong "WeedStrandModel" 431 1103515245 ∈ GT := GT_8 10 rfl rfl
set_option maxRecDepth 100000 in
theorem wd_1814 : Cond.constantLong "WeedStrandModel" 433 12345 ∈ GT := GT_8 11 rfl rfl
set_option maxRecDepth 100000 in
theorem wd_1815 : Cond.constantLong "WeedStrandModel" 435 2147483647 ∈ GT := GT_8 12 rfl rfl
set_option maxRecDepth 100000 in
theorem wd_1816 : Cond.constantLong "WeedStrandModel" 437 65536 ∈ GT := GT_8 13 rfl rfl
set_option maxRecDepth 100000 in
theorem wd_1951 : Cond.constant "WeedStrandModel" 525 999999 ∈ GT := GT_8 148 rfl rfl
set_option maxRecDepth 100000 in
theorem frX7_10 : FR RX7 10 7 0 (4, 4, 0) := ⟨GT_2 195 rfl rfl, by decide, by decide, rfl⟩
set_option maxRecDepth 100000 in
theorem frX7_19 : FR RX7 19 7 1 (4, 1, 0) := ⟨GT_2 196 rfl rfl, by decide, by decide, rfl⟩
set_option maxRecDepth 100000 in
theorem frX7_26 : FR RX7 26 7 2 (4, 2, 0) := ⟨GT_2 197 rfl rfl, by decide, by decide, rfl⟩
set_option maxRecDepth 100000 in
theorem frX7_33 : FR RX7 33 7 3 (4, 6, 0) := ⟨GT_2 198 rfl rfl, by decide, by decide, rfl⟩
set_option maxRecDepth 100000 in
theorem frX7_37 : FR RX7 37 7 4 (3, 0, 0) := ⟨GT_2 199 rfl rfl, by decide, by decide, rfl⟩
set_option maxRecDepth 100000 in
theorem frX7_41 : FR RX7 41 7 5 (3, 1, 0) := ⟨GT_2 200 rfl rfl, by decide, by decide, rfl⟩
set_option maxRecDepth 100000 in
theorem frX7_44 : FR RX7 44 7 6 (3, 2, 0) := ⟨GT_2 201 rfl rfl, by decide, by decide, rfl⟩
set_option maxRecDepth 100000 in
theorem frX7_47 : FR RX7 47 7 7 (3, 3, 0) := ⟨GT_2 202 rfl rfl, by decide, by decide, rfl⟩
set_option maxRecDepth 100000 in
theorem frX7_50 : FR RX7 50 7 8 (3, 4, 0) := ⟨GT_2 203 rfl rfl, by decide, by decide, rfl⟩
set_option maxRecDepth 100000 in
theorem frX7_56 : FR RX7 56 7 13 (2, 5, 0) := ⟨GT_2 208 rfl rfl, by decide, by decide, rfl⟩
set_option maxRecDepth 100000 in
theorem frX7_60 : FR RX7 60 7 14 (2, 5, 0) := ⟨GT_2 209 rfl rfl, by decide, by decide, rfl⟩
set_option maxRecDepth 100000 in
theorem frX7_68 : FR RX7 68 7 9 (4, 3, 0) := ⟨GT_2 204 rfl rfl, by decide, by decide, rfl⟩
set_option maxRecDepth 100000 in
theorem frX7_72 : FR RX7 72 7 10 (4, 3, 1) := ⟨GT_2 205 rfl rfl, by decide, by decide, rfl⟩
set_option maxRecDepth 100000 in
theorem frX7_75 : FR RX7 75 7 11 (4, 3, 2) := ⟨GT_2 206 rfl rfl, by decide, by decide, rfl⟩
set_option maxRecDepth 100000 in
theorem frX7_78 : FR RX7 78 7 12 (3, 5, 0) := ⟨GT_2 207 rfl rfl, by decide, by decide, rfl⟩
set_option maxRecDepth 100000 in
theorem frX7_82 : FR RX7 82 7 17 (0, 0, 0) := ⟨GT_2 212 rfl rfl, by decide, by decide, rfl⟩
set_option maxRecDepth 100000 in
theorem frX7_86 : FR RX7 86 4 2 (0, 0, 0) := ⟨GT_1 86 rfl rfl, by decide, by decide, rfl⟩
set_option maxRecDepth 100000 in
theorem frX7_97 : FR RX7 97 1 4 (0, 0, 0) := ⟨GT_1 130 rfl rfl, by decide, by decide, rfl⟩
set_option maxRecDepth 100000 in
theorem frX7_100 : FR RX7 100 7 16 (0, 0, 0) := ⟨GT_2 211 rfl rfl, by decide, by decide, rfl⟩
set_option maxRecDepth 100000 in
theorem frX7_103 : FR RX7 103 1 5 (0, 0, 0) := ⟨GT_1 132 rfl rfl, by decide, by decide, rfl⟩
set_option maxRecDepth 100000 in
theorem frX7_113 : FR RX7 113 7 15 (5, 0, 0) := ⟨GT_2 210 rfl rfl, by decide, by decide, rfl⟩
set_option maxRecDepth 100000 in
theorem frX7_117 : FR RX7 117 6 3 (0, 0, 0) := ⟨GT_1 205 rfl rfl, by decide, by decide, rfl⟩
set_option maxRecDepth 100000 in
theorem frX7_123 : FR RX7 123 5 10 (0, 0, 0) := ⟨GT_2 46 rfl rfl, by decide, by decide, rfl⟩
set_option maxRecDepth 100000 in
theorem frX7_146 : FR RX7 146 3 0 (3, 0, 0) := ⟨GT_2 126 rfl rfl, by decide, by decide, rfl⟩
set_option maxRecDepth 100000 in
theorem frX7_149 : FR RX7 149 3 1 (3, 1, 0) := ⟨GT_2 129 rfl rfl, by decide, by decide, rfl⟩
set_option maxRecDepth 100000 in
theorem frX7_155 : FR RX7 155 3 2 (3, 2, 0) := ⟨GT_2 131 rfl rfl, by decide, by decide, rfl⟩
set_option maxRecDepth 100000 in
theorem frX7_158 : FR RX7 158 3 3 (3, 3, 0) := ⟨GT_2 133 rfl rfl, by decide, by decide, rfl⟩
set_option maxRecDepth 100000 in
theorem frX7_161 : FR RX7 161 3 4 (3, 4, 0) := ⟨GT_2 135 rfl rfl, by decide, by decide, rfl⟩
set_option maxRecDepth 100000 in
theorem frX7_164 : FR RX7 164 3 5 (3, 5, 0) := ⟨GT_2 138 rfl rfl, by decide, by decide, rfl⟩
set_option maxRecDepth 100000 in
theorem frX7_167 : FR RX7 167 3 6 (3, 6, 0) := ⟨GT_2 140 rfl rfl, by decide, by decide, rfl⟩
set_option maxRecDepth 100000 in
theorem frX7_170 : FR RX7 170 3 7 (3, 7, 0) := ⟨GT_2 142 rfl rfl, by decide, by decide, rfl⟩
set_option maxRecDepth 100000 in
theorem frX7_179 : FR RX7 179 5 5 (3, 5, 0) := ⟨GT_2 27 rfl rfl, by decide, by decide, rfl⟩
set_option maxRecDepth 100000 in
theorem frX7_182 : FR RX7 182 5 6 (3, 6, 0) := ⟨GT_2 31 rfl rfl, by decide, by decide, rfl⟩
set_option maxRecDepth 100000 in
theorem frX7_185 : FR RX7 185 5 7 (3, 7, 0) := ⟨GT_2 35 rfl rfl, by decide, by decide, rfl⟩
set_option maxRecDepth 100000 in
theorem frX7_188 : FR RX7 188 3 9 (3, 9, 0) := ⟨GT_2 145 rfl rfl, by decide, by decide, rfl⟩
set_option maxRecDepth 100000 in
theorem frX7_210 : FR RX7 210 5 9 (4, 0, 0) := ⟨GT_2 41 rfl rfl, by decide, by decide, rfl⟩
set_option maxRecDepth 100000 in
theorem frX7_221 : FR RX7 221 3 12 (0, 0, 0) := ⟨GT_2 150 rfl rfl, by decide, by decide, rfl⟩
set_option maxRecDepth 100000 in
theorem frX7_231 : FR RX7 231 3 14 (0, 0, 0) := ⟨GT_2 155 rfl rfl, by decide, by decide, rfl⟩
set_option maxRecDepth 100000 in
theorem frX7_241 : FR RX7 241 3 11 (0, 0, 0) := ⟨GT_2 148 rfl rfl, by decide, by decide, rfl⟩
set_option maxRecDepth 100000 in
theorem frX7_259 : FR RX7 259 3 13 (0, 0, 0) := ⟨GT_2 152 rfl rfl, by decide, by decide, rfl⟩
set_option maxRecDepth 100000 in
theorem frX7_307 : FR RX7 307 5 11 (0, 0, 0) := ⟨GT_2 50 rfl rfl, by decide, by decide, rfl⟩
set_option maxRecDepth 100000 in
theorem frX7_315 : FR RX7 315 5 12 (0, 0, 0) := ⟨GT_2 54 rfl rfl, by decide, by decide, rfl⟩
set_option maxRecDepth 100000 in
theorem frX7_328 : FR RX7 328 5 17 (0, 0, 0) := ⟨GT_2 71 rfl rfl, by decide, by decide, rfl⟩
set_option maxRecDepth 100000 in
theorem frX7_336 : FR RX7 336 2 4 (0, 0, 0) := ⟨GT_1 179 rfl rfl, by decide, by decide, rfl⟩
set_option maxRecDepth 100000 in
theorem frX7_337 : FR RX7 337 2 5 (0, 0, 0) := ⟨GT_1 181 rfl rfl, by decide, by decide, rfl⟩
set_option maxRecDepth 100000 in
theorem frX7_353 : FR RX7 353 3 15 (0, 0, 0) := ⟨GT_2 157 rfl rfl, by decide, by decide, rfl⟩
set_option maxRecDepth 100000 in
theorem frX7_362 : FR RX7 362 5 13 (0, 0, 0) := ⟨GT_2 58 rfl rfl, by decide, by decide, rfl⟩
set_option maxRecDepth 100000 in
theorem frX7_365 : FR RX7 365 5 14 (0, 0, 0) := ⟨GT_2 61 rfl rfl, by decide, by decide, rfl⟩
set_option maxRecDepth 100000 in
theorem frX7_368 : FR RX7 368 0 6 (0, 0, 0) := ⟨GT_1 235 rfl rfl, by decide, by decide, rfl⟩
set_option maxRecDepth 100000 in
theorem frX0_11 : FR RX0 11 0 0 (3, 0, 0) := ⟨GT_1 227 rfl rfl, by decide, by decide, rfl⟩
set_option maxRecDepth 100000 in
theorem frX0_15 : FR RX0 15 0 1 (3, 1, 0) := ⟨GT_1 228 rfl rfl, by decide, by decide, rfl⟩
set_option maxRecDepth 100000 in
theorem frX0_18 : FR RX0 18 0 2 (3, 2, 0) := ⟨GT_1 229 rfl rfl, by decide, by decide, rfl⟩
set_option maxRecDepth 100000 in
theorem frX0_21 : FR RX0 21 0 3 (3, 3, 0) := ⟨GT_1 230 rfl rfl, by decide, by decide, rfl⟩
set_option maxRecDepth 100000 in
theorem frX0_24 : FR RX0 24 0 4 (3, 4, 0) := ⟨GT_1 231 rfl rfl, by decide, by decide, rfl⟩
set_option maxRecDepth 100000 in
theorem frX0_28 : FR RX0 28 0 5 (3, 5, 0) := ⟨GT_1 233 rfl rfl, by decide, by decide, rfl⟩
set_option maxRecDepth 100000 in
theorem frX0_31 : FR RX0 31 0 6 (0, 0, 0) := ⟨GT_1 234 rfl rfl, by decide, by decide, rfl⟩
set_option maxRecDepth 100000 in
theorem frX1_13 : FR RX1 13 1 0 (3, 0, 0) := ⟨GT_1 125 rfl rfl, by decide, by decide, rfl⟩
set_option maxRecDepth 100000 in
theorem frX1_17 : FR RX1 17 1 1 (3, 1, 0) := ⟨GT_1 126 rfl rfl, by decide, by decide, rfl⟩
set_option maxRecDepth 100000 in
theorem frX1_21 : FR RX1 21 1 2 (2, 4, 0) := ⟨GT_1 127 rfl rfl, by decide, by decide, rfl⟩
set_option maxRecDepth 100000 in
theorem frX1_25 : FR RX1 25 1 3 (2, 5, 0) := ⟨GT_1 128 rfl rfl, by decide, by decide, rfl⟩
set_option maxRecDepth 100000 in
theorem frX1_34 : FR RX1 34 1 4 (0, 0, 0) := ⟨GT_1 129 rfl rfl, by decide, by decide, rfl⟩
set_option maxRecDepth 100000 in
theorem frX1_38 : FR RX1 38 1 5 (0, 0, 0) := ⟨GT_1 131 rfl rfl, by decide, by decide, rfl⟩
set_option maxRecDepth 100000 in
theorem frX1_41 : FR RX1 41 1 7 (0, 0, 0) := ⟨GT_1 134 rfl rfl, by decide, by decide, rfl⟩
set_option maxRecDepth 100000 in
theorem frX1_44 : FR RX1 44 1 10 (0, 0, 0) := ⟨GT_1 137 rfl rfl, by decide, by decide, rfl⟩
set_option maxRecDepth 100000 in
theorem frX1_53 : FR RX1 53 4 6 (0, 0, 0) := ⟨GT_1 92 rfl rfl, by decide, by decide, rfl⟩
set_option maxRecDepth 100000 in
theorem frX1_63 : FR RX1 63 5 10 (0, 0, 0) := ⟨GT_2 45 rfl rfl, by decide, by decide, rfl⟩
set_option maxRecDepth 100000 in
theorem frX1_97 : FR RX1 97 4 5 (0, 0, 0) := ⟨GT_1 90 rfl rfl, by decide, by decide, rfl⟩
set_option maxRecDepth 100000 in
theorem frX1_103 : FR RX1 103 4 7 (0, 0, 0) := ⟨GT_1 95 rfl rfl, by decide, by decide, rfl⟩
set_option maxRecDepth 100000 in
theorem frX1_106 : FR RX1 106 1 6 (0, 0, 0) := ⟨GT_1 133 rfl rfl, by decide, by decide, rfl⟩
set_option maxRecDepth 100000 in
theorem frX1_109 : FR RX1 109 5 11 (0, 0, 0) := ⟨GT_2 49 rfl rfl, by decide, by decide, rfl⟩
set_option maxRecDepth 100000 in
theorem frX1_115 : FR RX1 115 5 0 (3, 0, 0) := ⟨GT_2 14 rfl rfl, by decide, by decide, rfl⟩
set_option maxRecDepth 100000 in
theorem frX1_118 : FR RX1 118 5 12 (0, 0, 0) := ⟨GT_2 53 rfl rfl, by decide, by decide, rfl⟩
set_option maxRecDepth 100000 in
theorem frX1_121 : FR RX1 121 4 8 (0, 0, 0) := ⟨GT_1 97 rfl rfl, by decide, by decide, rfl⟩
set_option maxRecDepth 100000 in
theorem frX1_128 : FR RX1 128 5 1 (3, 1, 0) := ⟨GT_2 16 rfl rfl, by decide, by decide, rfl⟩
set_option maxRecDepth 100000 in
theorem frX1_131 : FR RX1 131 5 2 (3, 2, 0) := ⟨GT_2 19 rfl rfl, by decide, by decide, rfl⟩
set_option maxRecDepth 100000 in
theorem frX1_134 : FR RX1 134 5 3 (3, 3, 0) := ⟨GT_2 22 rfl rfl, by decide, by decide, rfl⟩
set_option maxRecDepth 100000 in
theorem frX1_137 : FR RX1 137 5 4 (3, 4, 0) := ⟨GT_2 25 rfl rfl, by decide, by decide, rfl⟩
set_option maxRecDepth 100000 in
theorem frX1_140 : FR RX1 140 5 13 (0, 0, 0) := ⟨GT_2 56 rfl rfl, by decide, by decide, rfl⟩
set_option maxRecDepth 100000 in
theorem frX1_143 : FR RX1 143 5 5 (3, 5, 0) := ⟨GT_2 29 rfl rfl, by decide, by decide, rfl⟩
set_option maxRecDepth 100000 in
theorem frX1_146 : FR RX1 146 5 6 (3, 6, 0) := ⟨GT_2 32 rfl rfl, by decide, by decide, rfl⟩
set_option maxRecDepth 100000 in
theorem frX1_149 : FR RX1 149 5 7 (3, 7, 0) := ⟨GT_2 36 rfl rfl, by decide, by decide, rfl⟩
set_option maxRecDepth 100000 in
theorem frX1_152 : FR RX1 152 5 14 (0, 0, 0) := ⟨GT_2 60 rfl rfl, by decide, by decide, rfl⟩
set_option maxRecDepth 100000 in
theorem frX1_158 : FR RX1 158 5 8 (3, 8, 0) := ⟨GT_2 39 rfl rfl, by decide, by decide, rfl⟩
set_option maxRecDepth 100000 in
theorem frX1_164 : FR RX1 164 5 15 (0, 0, 0) := ⟨GT_2 64 rfl rfl, by decide, by decide, rfl⟩
set_option maxRecDepth 100000 in
theorem frX1_167 : FR RX1 167 5 16 (0, 0, 0) := ⟨GT_2 67 rfl rfl, by decide, by decide, rfl⟩
set_option maxRecDepth 100000 in
theorem frX1_170 : FR RX1 170 5 17 (0, 0, 0) := ⟨GT_2 70 rfl rfl, by decide, by decide, rfl⟩
set_option maxRecDepth 100000 in
theorem frX1_173 : FR RX1 173 5 18 (0, 0, 0) := ⟨GT_2 74 rfl rfl, by decide, by decide, rfl⟩
set_option maxRecDepth 100000 in
theorem frX1_177 : FR RX1 177 5 19 (0, 0, 0) := ⟨GT_2 77 rfl rfl, by decide, by decide, rfl⟩
set_option maxRecDepth 100000 in
theorem frX1_180 : FR RX1 180 5 9 (4, 0, 0) := ⟨GT_2 43 rfl rfl, by decide, by decide, rfl⟩
set_option maxRecDepth 100000 in
theorem frX1_191 : FR RX1 191 1 11 (5, 0, 0) := ⟨GT_1 138 rfl rfl, by decide, by decide, rfl⟩
set_option maxRecDepth 100000 in
theorem frX1_204 : FR RX1 204 1 9 (0, 0, 0) := ⟨GT_1 136 rfl rfl, by decide, by decide, rfl⟩
set_option maxRecDepth 100000 in
theorem frX1_216 : FR RX1 216 1 8 (0, 0, 0) := ⟨GT_1 135 rfl rfl, by decide, by decide, rfl⟩
set_option maxRecDepth 100000 in
theorem frX1_219 : FR RX1 219 1 12 (5, 0, 0) := ⟨GT_1 139 rfl rfl, by decide, by decide, rfl⟩
set_option maxRecDepth 100000 in
theorem frX2_9 : FR RX2 9 2 0 (3, 0, 0) := ⟨GT_1 174 rfl rfl, by decide, by decide, rfl⟩
set_option maxRecDepth 100000 in
theorem frX2_15 : FR RX2 15 2 1 (3, 1, 0) := ⟨GT_1 175 rfl rfl, by decide, by decide, rfl⟩
set_option maxRecDepth 100000 in
theorem frX2_18 : FR RX2 18 2 2 (3, 2, 0) := ⟨GT_1 176 rfl rfl, by decide, by decide, rfl⟩
set_option maxRecDepth 100000 in
theorem frX2_21 : FR RX2 21 2 3 (3, 3, 0) := ⟨GT_1 177 rfl rfl, by decide, by decide, rfl⟩
set_option maxRecDepth 100000 in
theorem frX2_25 : FR RX2 25 2 5 (0, 0, 0) := ⟨GT_1 180 rfl rfl, by decide, by decide, rfl⟩
set_option maxRecDepth 100000 in
theorem frX2_29 : FR RX2 29 2 4 (0, 0, 0) := ⟨GT_1 178 rfl rfl, by decide, by decide, rfl⟩
set_option maxRecDepth 100000 in
theorem frX3_11 : FR RX3 11 3 0 (3, 0, 0) := ⟨GT_2 125 rfl rfl, by decide, by decide, rfl⟩
set_option maxRecDepth 100000 in
theorem frX3_17 : FR RX3 17 3 1 (3, 1, 0) := ⟨GT_2 127 rfl rfl, by decide, by decide, rfl⟩
set_option maxRecDepth 100000 in
theorem frX3_20 : FR RX3 20 3 2 (3, 2, 0) := ⟨GT_2 130 rfl rfl, by decide, by decide, rfl⟩
set_option maxRecDepth 100000 in
theorem frX3_23 : FR RX3 23 3 3 (3, 3, 0) := ⟨GT_2 132 rfl rfl, by decide, by decide, rfl⟩
set_option maxRecDepth 100000 in
theorem frX3_26 : FR RX3 26 3 4 (3, 4, 0) := ⟨GT_2 134 rfl rfl, by decide, by decide, rfl⟩
set_option maxRecDepth 100000 in
theorem frX3_29 : FR RX3 29 3 5 (3, 5, 0) := ⟨GT_2 136 rfl rfl, by decide, by decide, rfl⟩
set_option maxRecDepth 100000 in
theorem frX3_32 : FR RX3 32 3 6 (3, 6, 0) := ⟨GT_2 139 rfl rfl, by decide, by decide, rfl⟩
set_option maxRecDepth 100000 in
theorem frX3_35 : FR RX3 35 3 7 (3, 7, 0) := ⟨GT_2 141 rfl rfl, by decide, by decide, rfl⟩
set_option maxRecDepth 100000 in
theorem frX3_38 : FR RX3 38 3 8 (3, 8, 0) := ⟨GT_2 143 rfl rfl, by decide, by decide, rfl⟩
set_option maxRecDepth 100000 in
theorem frX3_41 : FR RX3 41 3 9 (3, 9, 0) := ⟨GT_2 144 rfl rfl, by decide, by decide, rfl⟩
set_option maxRecDepth 100000 in
theorem frX3_44 : FR RX3 44 3 10 (2, 5, 0) := ⟨GT_2 146 rfl rfl, by decide, by decide, rfl⟩
set_option maxRecDepth 100000 in
theorem frX3_48 : FR RX3 48 3 16 (5, 0, 0) := ⟨GT_2 158 rfl rfl, by decide, by decide, rfl⟩
set_option maxRecDepth 100000 in
theorem frX3_52 : FR RX3 52 3 11 (0, 0, 0) := ⟨GT_2 147 rfl rfl, by decide, by decide, rfl⟩
set_option maxRecDepth 100000 in
theorem frX3_56 : FR RX3 56 5 15 (0, 0, 0) := ⟨GT_2 62 rfl rfl, by decide, by decide, rfl⟩
set_option maxRecDepth 100000 in
theorem frX3_61 : FR RX3 61 3 12 (0, 0, 0) := ⟨GT_2 149 rfl rfl, by decide, by decide, rfl⟩
set_option maxRecDepth 100000 in
theorem frX3_62 : FR RX3 62 3 13 (0, 0, 0) := ⟨GT_2 151 rfl rfl, by decide, by decide, rfl⟩
set_option maxRecDepth 100000 in
theorem frX3_65 : FR RX3 65 5 16 (0, 0, 0) := ⟨GT_2 65 rfl rfl, by decide, by decide, rfl⟩
set_option maxRecDepth 100000 in
theorem frX3_68 : FR RX3 68 3 14 (0, 0, 0) := ⟨GT_2 153 rfl rfl, by decide, by decide, rfl⟩
set_option maxRecDepth 100000 in
theorem frX3_69 : FR RX3 69 5 19 (0, 0, 0) := ⟨GT_2 75 rfl rfl, by decide, by decide, rfl⟩
set_option maxRecDepth 100000 in
theorem frX3_72 : FR RX3 72 3 15 (0, 0, 0) := ⟨GT_2 156 rfl rfl, by decide, by decide, rfl⟩
set_option maxRecDepth 100000 in
theorem frX3_75 : FR RX3 75 5 0 (3, 0, 0) := ⟨GT_2 13 rfl rfl, by decide, by decide, rfl⟩
set_option maxRecDepth 100000 in
theorem frX3_76 : FR RX3 76 5 12 (0, 0, 0) := ⟨GT_2 52 rfl rfl, by decide, by decide, rfl⟩
set_option maxRecDepth 100000 in
theorem frX3_79 : FR RX3 79 5 2 (3, 2, 0) := ⟨GT_2 18 rfl rfl, by decide, by decide, rfl⟩
set_option maxRecDepth 100000 in
theorem frX3_80 : FR RX3 80 5 3 (3, 3, 0) := ⟨GT_2 21 rfl rfl, by decide, by decide, rfl⟩
set_option maxRecDepth 100000 in
theorem frX3_81 : FR RX3 81 5 4 (3, 4, 0) := ⟨GT_2 24 rfl rfl, by decide, by decide, rfl⟩
set_option maxRecDepth 100000 in
theorem frX3_91 : FR RX3 91 5 17 (0, 0, 0) := ⟨GT_2 69 rfl rfl, by decide, by decide, rfl⟩
set_option maxRecDepth 100000 in
theorem frX3_108 : FR RX3 108 5 11 (0, 0, 0) := ⟨GT_2 48 rfl rfl, by decide, by decide, rfl⟩
set_option maxRecDepth 100000 in
theorem frX3_111 : FR RX3 111 5 18 (0, 0, 0) := ⟨GT_2 73 rfl rfl, by decide, by decide, rfl⟩
set_option maxRecDepth 100000 in
theorem frX3_144 : FR RX3 144 5 13 (0, 0, 0) := ⟨GT_2 57 rfl rfl, by decide, by decide, rfl⟩
set_option maxRecDepth 100000 in
theorem frX3_147 : FR RX3 147 5 5 (3, 5, 0) := ⟨GT_2 28 rfl rfl, by decide, by decide, rfl⟩
set_option maxRecDepth 100000 in
theorem frX3_161 : FR RX3 161 5 9 (4, 0, 0) := ⟨GT_2 42 rfl rfl, by decide, by decide, rfl⟩
set_option maxRecDepth 100000 in
theorem frX3_180 : FR RX3 180 5 6 (3, 6, 0) := ⟨GT_2 33 rfl rfl, by decide, by decide, rfl⟩
set_option maxRecDepth 100000 in
theorem frX3_183 : FR RX3 183 0 4 (3, 4, 0) := ⟨GT_1 232 rfl rfl, by decide, by decide, rfl⟩
set_option maxRecDepth 100000 in
theorem frX3_187 : FR RX3 187 5 7 (3, 7, 0) := ⟨GT_2 37 rfl rfl, by decide, by decide, rfl⟩
set_option maxRecDepth 100000 in
theorem frX4_9 : FR RX4 9 4 0 (3, 0, 0) := ⟨GT_1 84 rfl rfl, by decide, by decide, rfl⟩
set_option maxRecDepth 100000 in
theorem frX4_15 : FR RX4 15 4 1 (3, 1, 0) := ⟨GT_1 85 rfl rfl, by decide, by decide, rfl⟩
set_option maxRecDepth 100000 in
theorem frX4_30 : FR RX4 30 4 2 (0, 0, 0) := ⟨GT_1 87 rfl rfl, by decide, by decide, rfl⟩
set_option maxRecDepth 100000 in
theorem frX4_40 : FR RX4 40 4 3 (0, 0, 0) := ⟨GT_1 88 rfl rfl, by decide, by decide, rfl⟩
set_option maxRecDepth 100000 in
theorem frX4_42 : FR RX4 42 4 4 (0, 0, 0) := ⟨GT_1 89 rfl rfl, by decide, by decide, rfl⟩
set_option maxRecDepth 100000 in
theorem frX4_48 : FR RX4 48 4 5 (0, 0, 0) := ⟨GT_1 91 rfl rfl, by decide, by decide, rfl⟩
set_option maxRecDepth 100000 in
theorem frX4_51 : FR RX4 51 4 6 (0, 0, 0) := ⟨GT_1 93 rfl rfl, by decide, by decide, rfl⟩
set_option maxRecDepth 100000 in
theorem frX4_71 : FR RX4 71 4 8 (0, 0, 0) := ⟨GT_1 96 rfl rfl, by decide, by decide, rfl⟩
set_option maxRecDepth 100000 in
theorem frX4_74 : FR RX4 74 4 7 (0, 0, 0) := ⟨GT_1 94 rfl rfl, by decide, by decide, rfl⟩
set_option maxRecDepth 100000 in
theorem frX5_15 : FR RX5 15 5 1 (3, 1, 0) := ⟨GT_2 15 rfl rfl, by decide, by decide, rfl⟩
set_option maxRecDepth 100000 in
theorem frX5_36 : FR RX5 36 5 8 (3, 8, 0) := ⟨GT_2 38 rfl rfl, by decide, by decide, rfl⟩
set_option maxRecDepth 100000 in
theorem frX5_42 : FR RX5 42 5 9 (4, 0, 0) := ⟨GT_2 40 rfl rfl, by decide, by decide, rfl⟩
set_option maxRecDepth 100000 in
theorem frX5_49 : FR RX5 49 5 10 (0, 0, 0) := ⟨GT_2 44 rfl rfl, by decide, by decide, rfl⟩
set_option maxRecDepth 100000 in
theorem frX5_53 : FR RX5 53 5 11 (0, 0, 0) := ⟨GT_2 47 rfl rfl, by decide, by decide, rfl⟩
set_option maxRecDepth 100000 in
theorem frX5_56 : FR RX5 56 5 12 (0, 0, 0) := ⟨GT_2 51 rfl rfl, by decide, by decide, rfl⟩
set_option maxRecDepth 100000 in
theorem frX5_59 : FR RX5 59 5 13 (0, 0, 0) := ⟨GT_2 55 rfl rfl, by decide, by decide, rfl⟩
set_option maxRecDepth 100000 in
theorem frX5_62 : FR RX5 62 5 14 (0, 0, 0) := ⟨GT_2 59 rfl rfl, by decide, by decide, rfl⟩
set_option maxRecDepth 100000 in
theorem frX5_65 : FR RX5 65 5 15 (0, 0, 0) := ⟨GT_2 63 rfl rfl, by decide, by decide, rfl⟩
set_option maxRecDepth 100000 in
theorem frX5_68 : FR RX5 68 5 16 (0, 0, 0) := ⟨GT_2 66 rfl rfl, by decide, by decide, rfl⟩
set_option maxRecDepth 100000 in
theorem frX5_71 : FR RX5 71 5 17 (0, 0, 0) := ⟨GT_2 68 rfl rfl, by decide, by decide, rfl⟩
set_option maxRecDepth 100000 in
theorem frX5_74 : FR RX5 74 5 18 (0, 0, 0) := ⟨GT_2 72 rfl rfl, by decide, by decide, rfl⟩
set_option maxRecDepth 100000 in
theorem frX5_77 : FR RX5 77 5 19 (0, 0, 0) := ⟨GT_2 76 rfl rfl, by decide, by decide, rfl⟩
set_option maxRecDepth 100000 in
theorem frX6_9 : FR RX6 9 6 0 (3, 0, 0) := ⟨GT_1 201 rfl rfl, by decide, by decide, rfl⟩
set_option maxRecDepth 100000 in
theorem frX6_15 : FR RX6 15 6 1 (3, 1, 0) := ⟨GT_1 202 rfl rfl, by decide, by decide, rfl⟩
set_option maxRecDepth 100000 in
theorem frX6_18 : FR RX6 18 6 2 (3, 2, 0) := ⟨GT_1 203 rfl rfl, by decide, by decide, rfl⟩
set_option maxRecDepth 100000 in
theorem frX6_21 : FR RX6 21 6 3 (0, 0, 0) := ⟨GT_1 204 rfl rfl, by decide, by decide, rfl⟩
set_option maxRecDepth 100000 in
theorem frX6_31 : FR RX6 31 3 5 (3, 5, 0) := ⟨GT_2 137 rfl rfl, by decide, by decide, rfl⟩
set_option maxRecDepth 100000 in
theorem frX6_36 : FR RX6 36 3 14 (0, 0, 0) := ⟨GT_2 154 rfl rfl, by decide, by decide, rfl⟩
set_option maxRecDepth 100000 in
theorem frX6_39 : FR RX6 39 3 1 (3, 1, 0) := ⟨GT_2 128 rfl rfl, by decide, by decide, rfl⟩
set_option maxRecDepth 100000 in
theorem frX8_7 : FR RX8 7 8 0 (3, 0, 0) := ⟨GT_5 209 rfl rfl, by decide, by decide, rfl⟩
set_option maxRecDepth 100000 in
theorem frX8_13 : FR RX8 13 8 3 (3, 1, 0) := ⟨GT_5 212 rfl rfl, by decide, by decide, rfl⟩
set_option maxRecDepth 100000 in
theorem frX8_16 : FR RX8 16 8 5 (0, 0, 0) := ⟨GT_5 214 rfl rfl, by decide, by decide, rfl⟩
set_option maxRecDepth 100000 in
theorem frX8_20 : FR RX8 20 8 22 (3, 2, 0) := ⟨GT_5 231 rfl rfl, by decide, by decide, rfl⟩
set_option maxRecDepth 100000 in
theorem frX8_24 : FR RX8 24 8 23 (3, 3, 0) := ⟨GT_5 232 rfl rfl, by decide, by decide, rfl⟩
set_option maxRecDepth 100000 in
theorem frX8_27 : FR RX8 27 8 24 (3, 4, 0) := ⟨GT_5 233 rfl rfl, by decide, by decide, rfl⟩
set_option maxRecDepth 100000 in
theorem frX8_30 : FR RX8 30 8 25 (3, 5, 0) := ⟨GT_5 234 rfl rfl, by decide, by decide, rfl⟩
set_option maxRecDepth 100000 in
theorem frX8_33 : FR RX8 33 8 26 (3, 6, 0) := ⟨GT_5 235 rfl rfl, by decide, by decide, rfl⟩
set_option maxRecDepth 100000 in
theorem frX8_36 : FR RX8 36 8 27 (3, 7, 0) := ⟨GT_5 236 rfl rfl, by decide, by decide, rfl⟩
set_option maxRecDepth 100000 in
theorem frX8_39 : FR RX8 39 8 28 (3, 8, 0) := ⟨GT_5 237 rfl rfl, by decide, by decide, rfl⟩
set_option maxRecDepth 100000 in
theorem frX8_42 : FR RX8 42 8 29 (3, 9, 0) := ⟨GT_5 238 rfl rfl, by decide, by decide, rfl⟩
set_option maxRecDepth 100000 in
theorem frX8_45 : FR RX8 45 8 30 (3, 10, 0) := ⟨GT_5 239 rfl rfl, by decide, by decide, rfl⟩
set_option maxRecDepth 100000 in
theorem frX8_48 : FR RX8 48 8 31 (3, 11, 0) := ⟨GT_6 0 rfl rfl, by decide, by decide, rfl⟩
set_option maxRecDepth 100000 in
theorem frX8_51 : FR RX8 51 8 32 (3, 12, 0) := ⟨GT_6 1 rfl rfl, by decide, by decide, rfl⟩
set_option maxRecDepth 100000 in
theorem frX8_54 : FR RX8 54 8 33 (3, 13, 0) := ⟨GT_6 2 rfl rfl, by decide, by decide, rfl⟩
set_option maxRecDepth 100000 in
theorem frX8_57 : FR RX8 57 8 34 (3, 14, 0) := ⟨GT_6 3 rfl rfl, by decide, by decide, rfl⟩
set_option maxRecDepth 100000 in
theorem frX8_60 : FR RX8 60 8 35 (3, 15, 0) := ⟨GT_6 4 rfl rfl, by decide, by decide, rfl⟩
set_option maxRecDepth 100000 in
theorem frX8_63 : FR RX8 63 8 36 (3, 16, 0) := ⟨GT_6 5 rfl rfl, by decide, by decide, rfl⟩
set_option maxRecDepth 100000 in
theorem frX8_66 : FR RX8 66 8 37 (3, 17, 0) := ⟨GT_6 6 rfl rfl, by decide, by decide, rfl⟩
set_option maxRecDepth 100000 in
theorem frX8_69 : FR RX8 69 8 38 (3, 18, 0) := ⟨GT_6 7 rfl rfl, by decide, by decide, rfl⟩
set_option maxRecDepth 100000 in
theorem frX8_72 : FR RX8 72 8 39 (3, 19, 0) := ⟨GT_6 8 rfl rfl, by decide, by decide, rfl⟩
set_option maxRecDepth 100000 in
theorem frX8_75 : FR RX8 75 8 40 (3, 20, 0) := ⟨GT_6 9 rfl rfl, by decide, by decide, rfl⟩
set_option maxRecDepth 100000 in
theorem frX8_78 : FR RX8 78 8 47 (3, 21, 0) := ⟨GT_6 16 rfl rfl, by decide, by decide, rfl⟩
set_option maxRecDepth 100000 in
theorem frX8_82 : FR RX8 82 8 48 (3, 22, 0) := ⟨GT_6 17 rfl rfl, by decide, by decide, rfl⟩
set_option maxRecDepth 100000 in
theorem frX8_85 : FR RX8 85 8 50 (3, 23, 0) := ⟨GT_6 19 rfl rfl, by decide, by decide, rfl⟩
set_option maxRecDepth 100000 in
theorem frX8_88 : FR RX8 88 8 51 (3, 24, 0) := ⟨GT_6 20 rfl rfl, by decide, by decide, rfl⟩
set_option maxRecDepth 100000 in
theorem frX8_91 : FR RX8 91 8 52 (3, 25, 0) := ⟨GT_6 21 rfl rfl, by decide, by decide, rfl⟩
set_option maxRecDepth 100000 in
theorem frX8_94 : FR RX8 94 8 53 (3, 26, 0) := ⟨GT_6 22 rfl rfl, by decide, by decide, rfl⟩
set_option maxRecDepth 100000 in
theorem frX8_97 : FR RX8 97 8 54 (3, 27, 0) := ⟨GT_6 23 rfl rfl, by decide, by decide, rfl⟩
set_option maxRecDepth 100000 in
theorem frX8_100 : FR RX8 100 8 55 (3, 28, 0) := ⟨GT_6 24 rfl rfl, by decide, by decide, rfl⟩
set_option maxRecDepth 100000 in
theorem frX8_103 : FR RX8 103 8 56 (3, 29, 0) := ⟨GT_6 25 rfl rfl, by decide, by decide, rfl⟩
set_option maxRecDepth 100000 in
theorem frX8_106 : FR RX8 106 8 57 (3, 30, 0) := ⟨GT_6 26 rfl rfl, by decide, by decide, rfl⟩
set_option maxRecDepth 100000 in
theorem frX8_109 : FR RX8 109 8 58 (3, 31, 0) := ⟨GT_6 27 rfl rfl, by decide, by decide, rfl⟩
set_option maxRecDepth 100000 in
theorem frX8_112 : FR RX8 112 8 59 (3, 32, 0) := ⟨GT_6 28 rfl rfl, by decide, by decide, rfl⟩
set_option maxRecDepth 100000 in
theorem frX8_115 : FR RX8 115 8 60 (3, 33, 0) := ⟨GT_6 29 rfl rfl, by decide, by decide, rfl⟩
set_option maxRecDepth 100000 in
theorem frX8_118 : FR RX8 118 8 66 (0, 0, 0) := ⟨GT_6 35 rfl rfl, by decide, by decide, rfl⟩
set_option maxRecDepth 100000 in
theorem frX8_121 : FR RX8 121 8 67 (3, 34, 0) := ⟨GT_6 36 rfl rfl, by decide, by decide, rfl⟩
set_option maxRecDepth 100000 in
theorem frX8_124 : FR RX8 124 8 69 (3, 35, 0) := ⟨GT_6 38 rfl rfl, by decide, by decide, rfl⟩
set_option maxRecDepth 100000 in
theorem frX8_127 : FR RX8 127 8 70 (3, 36, 0) := ⟨GT_6 39 rfl rfl, by decide, by decide, rfl⟩
set_option maxRecDepth 100000 in
theorem frX8_130 : FR RX8 130 8 73 (0, 0, 0) := ⟨GT_6 42 rfl rfl, by decide, by decide, rfl⟩
set_option maxRecDepth 100000 in
theorem frX8_133 : FR RX8 133 8 74 (3, 37, 0) := ⟨GT_6 43 rfl rfl, by decide, by decide, rfl⟩
set_option maxRecDepth 100000 in
theorem frX8_136 : FR RX8 136 8 75 (3, 38, 0) := ⟨GT_6 44 rfl rfl, by decide, by decide, rfl⟩
set_option maxRecDepth 100000 in
theorem frX8_139 : FR RX8 139 8 77 (3, 39, 0) := ⟨GT_6 46 rfl rfl, by decide, by decide, rfl⟩
set_option maxRecDepth 100000 in
theorem frX8_142 : FR RX8 142 8 79 (3, 40, 0) := ⟨GT_6 48 rfl rfl, by decide, by decide, rfl⟩
set_option maxRecDepth 100000 in
theorem frX8_145 : FR RX8 145 8 80 (3, 41, 0) := ⟨GT_6 49 rfl rfl, by decide, by decide, rfl⟩
set_option maxRecDepth 100000 in
theorem frX8_148 : FR RX8 148 8 81 (3, 42, 0) := ⟨GT_6 50 rfl rfl, by decide, by decide, rfl⟩
set_option maxRecDepth 100000 in
theorem frX8_151 : FR RX8 151 8 82 (3, 43, 0) := ⟨GT_6 51 rfl rfl, by decide, by decide, rfl⟩
set_option maxRecDepth 100000 in
theorem frX8_154 : FR RX8 154 8 83 (3, 44, 0) := ⟨GT_6 52 rfl rfl, by decide, by decide, rfl⟩
set_option maxRecDepth 100000 in
theorem frX8_163 : FR RX8 163 8 2 (0, 0, 0) := ⟨GT_5 211 rfl rfl, by decide, by decide, rfl⟩
set_option maxRecDepth 100000 in
theorem frX8_166 : FR RX8 166 8 1 (0, 0, 0) := ⟨GT_5 210 rfl rfl, by decide, by decide, rfl⟩
set_option maxRecDepth 100000 in
theorem frX8_169 : FR RX8 169 8 4 (0, 0, 0) := ⟨GT_5 213 rfl rfl, by decide, by decide, rfl⟩
set_option maxRecDepth 100000 in
theorem frX8_172 : FR RX8 172 8 10 (0, 0, 0) := ⟨GT_5 219 rfl rfl, by decide, by decide, rfl⟩
set_option maxRecDepth 100000 in
theorem frX8_175 : FR RX8 175 8 6 (0, 0, 0) := ⟨GT_5 215 rfl rfl, by decide, by decide, rfl⟩
set_option maxRecDepth 100000 in
theorem frX8_178 : FR RX8 178 8 7 (0, 0, 0) := ⟨GT_5 216 rfl rfl, by decide, by decide, rfl⟩
set_option maxRecDepth 100000 in
theorem frX8_181 : FR RX8 181 8 8 (0, 0, 0) := ⟨GT_5 217 rfl rfl, by decide, by decide, rfl⟩
set_option maxRecDepth 100000 in
theorem frX8_192 : FR RX8 192 8 9 (0, 0, 0) := ⟨GT_5 218 rfl rfl, by decide, by decide, rfl⟩
set_option maxRecDepth 100000 in
theorem frX8_212 : FR RX8 212 8 11 (0, 0, 0) := ⟨GT_5 220 rfl rfl, by decide, by decide, rfl⟩
set_option maxRecDepth 100000 in
theorem frX8_225 : FR RX8 225 8 17 (0, 0, 0) := ⟨GT_5 226 rfl rfl, by decide, by decide, rfl⟩
set_option maxRecDepth 100000 in
theorem frX8_228 : FR RX8 228 8 18 (0, 0, 0) := ⟨GT_5 227 rfl rfl, by decide, by decide, rfl⟩
set_option maxRecDepth 100000 in
theorem frX8_231 : FR RX8 231 8 19 (0, 0, 0) := ⟨GT_5 228 rfl rfl, by decide, by decide, rfl⟩
set_option maxRecDepth 100000 in
theorem frX8_234 : FR RX8 234 8 20 (0, 0, 0) := ⟨GT_5 229 rfl rfl, by decide, by decide, rfl⟩
set_option maxRecDepth 100000 in
theorem frX8_237 : FR RX8 237 8 21 (0, 0, 0) := ⟨GT_5 230 rfl rfl, by decide, by decide, rfl⟩
set_option maxRecDepth 100000 in
theorem frX8_240 : FR RX8 240 8 44 (0, 0, 0) := ⟨GT_6 13 rfl rfl, by decide, by decide, rfl⟩
set_option maxRecDepth 100000 in
theorem frX8_243 : FR RX8 243 8 12 (0, 0, 0) := ⟨GT_5 221 rfl rfl, by decide, by decide, rfl⟩
set_option maxRecDepth 100000 in
theorem frX8_246 : FR RX8 246 8 13 (0, 0, 0) := ⟨GT_5 222 rfl rfl, by decide, by decide, rfl⟩
set_option maxRecDepth 100000 in
theorem frX8_249 : FR RX8 249 8 14 (0, 0, 0) := ⟨GT_5 223 rfl rfl, by decide, by decide, rfl⟩
set_option maxRecDepth 100000 in
theorem frX8_252 : FR RX8 252 8 15 (0, 0, 0) := ⟨GT_5 224 rfl rfl, by decide, by decide, rfl⟩
set_option maxRecDepth 100000 in
theorem frX8_255 : FR RX8 255 8 16 (0, 0, 0) := ⟨GT_5 225 rfl rfl, by decide, by decide, rfl⟩
set_option maxRecDepth 100000 in
theorem frX8_291 : FR RX8 291 8 42 (0, 0, 0) := ⟨GT_6 11 rfl rfl, by decide, by decide, rfl⟩
set_option maxRecDepth 100000 in
theorem frX8_294 : FR RX8 294 8 41 (0, 0, 0) := ⟨GT_6 10 rfl rfl, by decide, by decide, rfl⟩
set_option maxRecDepth 100000 in
theorem frX8_309 : FR RX8 309 8 43 (0, 0, 0) := ⟨GT_6 12 rfl rfl, by decide, by decide, rfl⟩
set_option maxRecDepth 100000 in
theorem frX8_316 : FR RX8 316 8 46 (5, 0, 0) := ⟨GT_6 15 rfl rfl, by decide, by decide, rfl⟩
set_option maxRecDepth 100000 in
theorem frX8_329 : FR RX8 329 8 45 (5, 0, 0) := ⟨GT_6 14 rfl rfl, by decide, by decide, rfl⟩
set_option maxRecDepth 100000 in
theorem frX8_341 : FR RX8 341 8 49 (5, 0, 0) := ⟨GT_6 18 rfl rfl, by decide, by decide, rfl⟩
set_option maxRecDepth 100000 in
theorem frX8_363 : FR RX8 363 8 61 (0, 0, 0) := ⟨GT_6 30 rfl rfl, by decide, by decide, rfl⟩
set_option maxRecDepth 100000 in
theorem frX8_366 : FR RX8 366 8 62 (1, 0, 0) := ⟨GT_6 31 rfl rfl, by decide, by decide, rfl⟩
set_option maxRecDepth 100000 in
theorem frX8_373 : FR RX8 373 8 72 (0, 0, 0) := ⟨GT_6 41 rfl rfl, by decide, by decide, rfl⟩
set_option maxRecDepth 100000 in
theorem frX8_376 : FR RX8 376 8 76 (0, 0, 0) := ⟨GT_6 45 rfl rfl, by decide, by decide, rfl⟩
set_option maxRecDepth 100000 in
theorem frX8_379 : FR RX8 379 8 78 (5, 0, 0) := ⟨GT_6 47 rfl rfl, by decide, by decide, rfl⟩
set_option maxRecDepth 100000 in
theorem frX8_382 : FR RX8 382 8 63 (5, 0, 0) := ⟨GT_6 32 rfl rfl, by decide, by decide, rfl⟩
set_option maxRecDepth 100000 in
theorem frX8_385 : FR RX8 385 8 64 (5, 0, 0) := ⟨GT_6 33 rfl rfl, by decide, by decide, rfl⟩
set_option maxRecDepth 100000 in
theorem frX8_388 : FR RX8 388 8 65 (5, 0, 0) := ⟨GT_6 34 rfl rfl, by decide, by decide, rfl⟩
set_option maxRecDepth 100000 in
theorem frX8_503 : FR RX8 503 8 68 (0, 0, 0) := ⟨GT_6 37 rfl rfl, by decide, by decide, rfl⟩
set_option maxRecDepth 100000 in
theorem frX8_526 : FR RX8 526 8 71 (0, 0, 0) := ⟨GT_6 40 rfl rfl, by decide, by decide, rfl⟩
set_option maxRecDepth 100000 in
theorem frX8_553 : FR RX8 553 8 84 (0, 0, 0) := ⟨GT_6 53 rfl rfl, by decide, by decide, rfl⟩
set_option maxRecDepth 100000 in
theorem frX8_556 : FR RX8 556 8 85 (0, 0, 0) := ⟨GT_6 54 rfl rfl, by decide, by decide, rfl⟩
set_option maxRecDepth 100000 in
theorem frX8_559 : FR RX8 559 8 86 (0, 0, 0) := ⟨GT_6 55 rfl rfl, by decide, by decide, rfl⟩
set_option maxRecDepth 100000 in
theorem frX8_562 : FR RX8 562 8 87 (1, 0, 0) := ⟨GT_6 56 rfl rfl, by decide, by decide, rfl⟩
theorem ar_0_0 (o : Nat) (h : o < cnt 0) : AR 0 o 0 0 64 := ⟨by decide, by decide, h, rfl⟩
theorem ar_0_1 (o : Nat) (h : o < cnt 0) : AR 0 o 1 0 64 := ⟨by decide, by decide, h, rfl⟩
theorem ar_0_2 (o : Nat) (h : o < cnt 0) : AR 0 o 2 0 4 := ⟨by decide, by decide, h, rfl⟩
theorem ar_0_3 (o : Nat) (h : o < cnt 0) : AR 0 o 3 0 4 := ⟨by decide, by decide, h, rfl⟩
theorem ar_0_4 (o : Nat) (h : o < cnt 0) : AR 0 o 4 2 7 := ⟨by decide, by decide, h, rfl⟩
theorem ar_0_5 (o : Nat) (h : o < cnt 0) : AR 0 o 5 2 64 := ⟨by decide, by decide, h, rfl⟩
theorem ar_1_0 (o : Nat) (h : o < cnt 1) : AR 1 o 0 0 72 := ⟨by decide, by decide, h, rfl⟩
theorem ar_1_1 (o : Nat) (h : o < cnt 1) : AR 1 o 1 1 9 := ⟨by decide, by decide, h, rfl⟩
theorem ar_2_0 (o : Nat) (h : o < cnt 2) : AR 2 o 0 0 24 := ⟨by decide, by decide, h, rfl⟩
theorem ar_2_1 (o : Nat) (h : o < cnt 2) : AR 2 o 1 0 24 := ⟨by decide, by decide, h, rfl⟩
theorem ar_2_2 (o : Nat) (h : o < cnt 2) : AR 2 o 2 0 24 := ⟨by decide, by decide, h, rfl⟩
theorem ar_2_3 (o : Nat) (h : o < cnt 2) : AR 2 o 3 1 24 := ⟨by decide, by decide, h, rfl⟩
theorem ar_3_0 (o : Nat) (h : o < cnt 3) : AR 3 o 0 0 8 := ⟨by decide, by decide, h, rfl⟩
theorem ar_3_1 (o : Nat) (h : o < cnt 3) : AR 3 o 1 0 8 := ⟨by decide, by decide, h, rfl⟩
theorem ar_3_2 (o : Nat) (h : o < cnt 3) : AR 3 o 2 0 4 := ⟨by decide, by decide, h, rfl⟩
theorem ar_3_3 (o : Nat) (h : o < cnt 3) : AR 3 o 3 0 4 := ⟨by decide, by decide, h, rfl⟩
theorem ar_3_4 (o : Nat) (h : o < cnt 3) : AR 3 o 4 0 4 := ⟨by decide, by decide, h, rfl⟩
theorem ar_3_5 (o : Nat) (h : o < cnt 3) : AR 3 o 5 0 4 := ⟨by decide, by decide, h, rfl⟩
theorem ar_3_6 (o : Nat) (h : o < cnt 3) : AR 3 o 6 0 4 := ⟨by decide, by decide, h, rfl⟩
theorem ar_3_7 (o : Nat) (h : o < cnt 3) : AR 3 o 7 0 4 := ⟨by decide, by decide, h, rfl⟩
theorem ar_3_8 (o : Nat) (h : o < cnt 3) : AR 3 o 8 0 4 := ⟨by decide, by decide, h, rfl⟩
theorem ar_3_9 (o : Nat) (h : o < cnt 3) : AR 3 o 9 0 6 := ⟨by decide, by decide, h, rfl⟩
theorem ar_4_0 (o : Nat) (h : o < cnt 4) : AR 4 o 0 0 700 := ⟨by decide, by decide, h, rfl⟩
theorem ar_4_1 (o : Nat) (h : o < cnt 4) : AR 4 o 1 0 26 := ⟨by decide, by decide, h, rfl⟩
theorem ar_5_0 (o : Nat) (h : o < cnt 5) : AR 5 o 0 0 8 := ⟨by decide, by decide, h, rfl⟩
theorem ar_5_1 (o : Nat) (h : o < cnt 5) : AR 5 o 1 0 4 := ⟨by decide, by decide, h, rfl⟩
theorem ar_5_2 (o : Nat) (h : o < cnt 5) : AR 5 o 2 0 4 := ⟨by decide, by decide, h, rfl⟩
theorem ar_5_3 (o : Nat) (h : o < cnt 5) : AR 5 o 3 0 4 := ⟨by decide, by decide, h, rfl⟩
theorem ar_5_4 (o : Nat) (h : o < cnt 5) : AR 5 o 4 0 4 := ⟨by decide, by decide, h, rfl⟩
theorem ar_5_5 (o : Nat) (h : o < cnt 5) : AR 5 o 5 0 6 := ⟨by decide, by decide, h, rfl⟩
theorem ar_5_6 (o : Nat) (h : o < cnt 5) : AR 5 o 6 0 6 := ⟨by decide, by decide, h, rfl⟩
theorem ar_5_7 (o : Nat) (h : o < cnt 5) : AR 5 o 7 0 6 := ⟨by decide, by decide, h, rfl⟩
theorem ar_5_8 (o : Nat) (h : o < cnt 5) : AR 5 o 8 0 4 := ⟨by decide, by decide, h, rfl⟩
theorem ar_6_0 (o : Nat) (h : o < cnt 6) : AR 6 o 0 0 20 := ⟨by decide, by decide, h, rfl⟩
theorem ar_6_1 (o : Nat) (h : o < cnt 6) : AR 6 o 1 0 20 := ⟨by decide, by decide, h, rfl⟩
theorem ar_6_2 (o : Nat) (h : o < cnt 6) : AR 6 o 2 0 20 := ⟨by decide, by decide, h, rfl⟩
theorem ar_7_0 (o : Nat) (h : o < cnt 7) : AR 7 o 0 0 6 := ⟨by decide, by decide, h, rfl⟩
theorem ar_7_1 (o : Nat) (h : o < cnt 7) : AR 7 o 1 0 6 := ⟨by decide, by decide, h, rfl⟩
theorem ar_7_2 (o : Nat) (h : o < cnt 7) : AR 7 o 2 0 16 := ⟨by decide, by decide, h, rfl⟩
theorem ar_7_3 (o : Nat) (h : o < cnt 7) : AR 7 o 3 0 16 := ⟨by decide, by decide, h, rfl⟩
theorem ar_7_4 (o : Nat) (h : o < cnt 7) : AR 7 o 4 0 3 := ⟨by decide, by decide, h, rfl⟩
theorem ar_7_5 (o : Nat) (h : o < cnt 7) : AR 7 o 5 3 7 := ⟨by decide, by decide, h, rfl⟩
theorem ar_8_0 (o : Nat) (h : o < cnt 8) : AR 8 o 0 0 700 := ⟨by decide, by decide, h, rfl⟩
theorem ar_8_1 (o : Nat) (h : o < cnt 8) : AR 8 o 1 0 131 := ⟨by decide, by decide, h, rfl⟩
theorem ar_8_2 (o : Nat) (h : o < cnt 8) : AR 8 o 2 1 4 := ⟨by decide, by decide, h, rfl⟩
theorem ar_8_3 (o : Nat) (h : o < cnt 8) : AR 8 o 3 0 10 := ⟨by decide, by decide, h, rfl⟩
theorem ar_8_4 (o : Nat) (h : o < cnt 8) : AR 8 o 4 0 16 := ⟨by decide, by decide, h, rfl⟩
theorem ar_8_5 (o : Nat) (h : o < cnt 8) : AR 8 o 5 0 8 := ⟨by decide, by decide, h, rfl⟩
theorem ar_8_6 (o : Nat) (h : o < cnt 8) : AR 8 o 6 0 8 := ⟨by decide, by decide, h, rfl⟩
theorem ar_8_7 (o : Nat) (h : o < cnt 8) : AR 8 o 7 0 8 := ⟨by decide, by decide, h, rfl⟩
theorem ar_8_8 (o : Nat) (h : o < cnt 8) : AR 8 o 8 0 8 := ⟨by decide, by decide, h, rfl⟩
theorem ar_8_9 (o : Nat) (h : o < cnt 8) : AR 8 o 9 0 12 := ⟨by decide, by decide, h, rfl⟩
theorem ar_8_10 (o : Nat) (h : o < cnt 8) : AR 8 o 10 0 12 := ⟨by decide, by decide, h, rfl⟩
theorem ar_8_11 (o : Nat) (h : o < cnt 8) : AR 8 o 11 0 12 := ⟨by decide, by decide, h, rfl⟩
theorem ar_8_12 (o : Nat) (h : o < cnt 8) : AR 8 o 12 0 8 := ⟨by decide, by decide, h, rfl⟩
theorem ar_8_13 (o : Nat) (h : o < cnt 8) : AR 8 o 13 1 8 := ⟨by decide, by decide, h, rfl⟩
theorem ar_8_14 (o : Nat) (h : o < cnt 8) : AR 8 o 14 0 8 := ⟨by decide, by decide, h, rfl⟩
theorem ar_8_15 (o : Nat) (h : o < cnt 8) : AR 8 o 15 0 8 := ⟨by decide, by decide, h, rfl⟩
theorem ar_8_16 (o : Nat) (h : o < cnt 8) : AR 8 o 16 0 128 := ⟨by decide, by decide, h, rfl⟩
theorem ar_8_17 (o : Nat) (h : o < cnt 8) : AR 8 o 17 0 128 := ⟨by decide, by decide, h, rfl⟩
theorem ar_8_18 (o : Nat) (h : o < cnt 8) : AR 8 o 18 0 128 := ⟨by decide, by decide, h, rfl⟩
theorem ar_8_19 (o : Nat) (h : o < cnt 8) : AR 8 o 19 0 96 := ⟨by decide, by decide, h, rfl⟩
theorem ar_8_20 (o : Nat) (h : o < cnt 8) : AR 8 o 20 0 96 := ⟨by decide, by decide, h, rfl⟩
theorem ar_8_21 (o : Nat) (h : o < cnt 8) : AR 8 o 21 2 7 := ⟨by decide, by decide, h, rfl⟩
theorem ar_8_22 (o : Nat) (h : o < cnt 8) : AR 8 o 22 2 64 := ⟨by decide, by decide, h, rfl⟩
theorem ar_8_23 (o : Nat) (h : o < cnt 8) : AR 8 o 23 0 16 := ⟨by decide, by decide, h, rfl⟩
theorem ar_8_24 (o : Nat) (h : o < cnt 8) : AR 8 o 24 0 16 := ⟨by decide, by decide, h, rfl⟩
theorem ar_8_25 (o : Nat) (h : o < cnt 8) : AR 8 o 25 0 8 := ⟨by decide, by decide, h, rfl⟩
theorem ar_8_26 (o : Nat) (h : o < cnt 8) : AR 8 o 26 0 8 := ⟨by decide, by decide, h, rfl⟩
theorem ar_8_27 (o : Nat) (h : o < cnt 8) : AR 8 o 27 0 8 := ⟨by decide, by decide, h, rfl⟩
theorem ar_8_28 (o : Nat) (h : o < cnt 8) : AR 8 o 28 0 8 := ⟨by decide, by decide, h, rfl⟩
theorem ar_8_29 (o : Nat) (h : o < cnt 8) : AR 8 o 29 0 8 := ⟨by decide, by decide, h, rfl⟩
theorem ar_8_30 (o : Nat) (h : o < cnt 8) : AR 8 o 30 0 12 := ⟨by decide, by decide, h, rfl⟩
theorem ar_8_31 (o : Nat) (h : o < cnt 8) : AR 8 o 31 0 2 := ⟨by decide, by decide, h, rfl⟩
theorem ar_8_32 (o : Nat) (h : o < cnt 8) : AR 8 o 32 0 2 := ⟨by decide, by decide, h, rfl⟩
theorem ar_8_33 (o : Nat) (h : o < cnt 8) : AR 8 o 33 0 2 := ⟨by decide, by decide, h, rfl⟩
theorem ar_8_34 (o : Nat) (h : o < cnt 8) : AR 8 o 34 0 6 := ⟨by decide, by decide, h, rfl⟩
theorem ar_8_35 (o : Nat) (h : o < cnt 8) : AR 8 o 35 0 16 := ⟨by decide, by decide, h, rfl⟩
theorem ar_8_36 (o : Nat) (h : o < cnt 8) : AR 8 o 36 0 16 := ⟨by decide, by decide, h, rfl⟩
theorem ar_8_37 (o : Nat) (h : o < cnt 8) : AR 8 o 37 0 72 := ⟨by decide, by decide, h, rfl⟩
theorem ar_8_38 (o : Nat) (h : o < cnt 8) : AR 8 o 38 1 24 := ⟨by decide, by decide, h, rfl⟩
theorem ar_8_39 (o : Nat) (h : o < cnt 8) : AR 8 o 39 0 340 := ⟨by decide, by decide, h, rfl⟩
theorem ar_8_40 (o : Nat) (h : o < cnt 8) : AR 8 o 40 0 17 := ⟨by decide, by decide, h, rfl⟩
theorem ar_8_41 (o : Nat) (h : o < cnt 8) : AR 8 o 41 0 8 := ⟨by decide, by decide, h, rfl⟩
theorem ar_8_42 (o : Nat) (h : o < cnt 8) : AR 8 o 42 0 4 := ⟨by decide, by decide, h, rfl⟩
theorem ar_8_43 (o : Nat) (h : o < cnt 8) : AR 8 o 43 0 4 := ⟨by decide, by decide, h, rfl⟩
theorem ar_8_44 (o : Nat) (h : o < cnt 8) : AR 8 o 44 0 6 := ⟨by decide, by decide, h, rfl⟩
set_option maxRecDepth 100000 in
theorem cvX7_89 : CV RX7 89 yX4_append cX4_append 3 none 1 4 := ⟨⟨GT_3 17 rfl rfl, GT_3 14 rfl rfl, GT_1 2 rfl rfl, ⟨by decide, by decide, by decide +kernel⟩⟩, GT_3 15 rfl rfl, GT_3 16 rfl rfl, by decide⟩
set_option maxRecDepth 100000 in
theorem cvX7_93 : CV RX7 93 yX1_reads cX1_reads 5 (some .boolean) 3 1 := ⟨⟨GT_3 25 rfl rfl, GT_3 22 rfl rfl, GT_1 7 rfl rfl, ⟨by decide, by decide, by decide +kernel⟩⟩, GT_3 23 rfl rfl, GT_3 24 rfl rfl, by decide⟩
set_option maxRecDepth 100000 in
theorem cvX7_106 : CV RX7 106 yX3_begin cX3_begin 3 none 1 3 := ⟨⟨GT_3 182 rfl rfl, GT_3 179 rfl rfl, GT_1 12 rfl rfl, ⟨by decide, by decide, by decide +kernel⟩⟩, GT_3 180 rfl rfl, GT_3 181 rfl rfl, by decide⟩
set_option maxRecDepth 100000 in
theorem cvX7_109 : CV RX7 109 yX3_copy cX3_copy 2 none 1 3 := ⟨⟨GT_3 186 rfl rfl, GT_3 183 rfl rfl, GT_1 12 rfl rfl, ⟨by decide, by decide, by decide +kernel⟩⟩, GT_3 184 rfl rfl, GT_3 185 rfl rfl, by decide⟩
set_option maxRecDepth 100000 in
theorem cvX7_120 : CV RX7 120 yX2_clear cX2_clear 1 none 0 2 := ⟨⟨GT_3 193 rfl rfl, GT_3 190 rfl rfl, GT_1 8 rfl rfl, ⟨by decide, by decide, by decide +kernel⟩⟩, GT_3 191 rfl rfl, GT_3 192 rfl rfl, by decide⟩
set_option maxRecDepth 100000 in
theorem cvX7_126 : CV RX7 126 yX5_croftNamed cX5_croftNamed 3 (some .int) 1 5 := ⟨⟨GT_3 91 rfl rfl, GT_3 202 rfl rfl, GT_1 10 rfl rfl, ⟨by decide, by decide, by decide +kernel⟩⟩, GT_3 89 rfl rfl, GT_3 90 rfl rfl, by decide⟩
set_option maxRecDepth 100000 in
theorem cvX7_130 : CV RX7 130 yX7_isStripe cX7_isStripe 2 (some .boolean) 1 7 := ⟨⟨GT_4 25 rfl rfl, GT_4 22 rfl rfl, GT_1 1 rfl rfl, ⟨by decide, by decide, by decide +kernel⟩⟩, GT_4 24 rfl rfl, GT_p2 10 rfl, by decide⟩
set_option maxRecDepth 100000 in
theorem cvX7_152 : CV RX7 152 yX7_isCroft cX7_isCroft 2 (some .boolean) 1 7 := ⟨⟨GT_3 210 rfl rfl, GT_3 207 rfl rfl, GT_1 1 rfl rfl, ⟨by decide, by decide, by decide +kernel⟩⟩, GT_3 209 rfl rfl, GT_p2 7 rfl, by decide⟩
set_option maxRecDepth 100000 in
theorem cvX7_173 : CV RX7 173 yX3_liesOnLots cX3_liesOnLots 4 (some .int) 1 3 := ⟨⟨GT_3 214 rfl rfl, GT_3 211 rfl rfl, GT_1 12 rfl rfl, ⟨by decide, by decide, by decide +kernel⟩⟩, GT_3 212 rfl rfl, GT_3 213 rfl rfl, by decide⟩
set_option maxRecDepth 100000 in
theorem cvX7_176 : CV RX7 176 yX7_isField cX7_isField 2 (some .boolean) 1 7 := ⟨⟨GT_3 222 rfl rfl, GT_3 219 rfl rfl, GT_1 1 rfl rfl, ⟨by decide, by decide, by decide +kernel⟩⟩, GT_3 221 rfl rfl, GT_p2 8 rfl, by decide⟩
set_option maxRecDepth 100000 in
theorem cvX7_191 : CV RX7 191 yX3_worthOf cX3_worthOf 4 (some .int) 1 3 := ⟨⟨GT_3 226 rfl rfl, GT_3 223 rfl rfl, GT_1 12 rfl rfl, ⟨by decide, by decide, by decide +kernel⟩⟩, GT_3 224 rfl rfl, GT_3 225 rfl rfl, by decide⟩
set_option maxRecDepth 100000 in
theorem cvX7_194 : CV RX7 194 yX3_sourceOf cX3_sourceOf 7 (some .int) 2 3 := ⟨⟨GT_4 13 rfl rfl, GT_4 10 rfl rfl, GT_1 12 rfl rfl, ⟨by decide, by decide, by decide +kernel⟩⟩, GT_4 11 rfl rfl, GT_4 12 rfl rfl, by decide⟩
set_option maxRecDepth 100000 in
theorem cvX7_198 : CV RX7 198 yX7_croftLaw cX7_croftLaw 5 (some .long) 3 7 := ⟨⟨GT_4 21 rfl rfl, GT_4 18 rfl rfl, GT_1 1 rfl rfl, ⟨by decide, by decide, by decide +kernel⟩⟩, GT_4 20 rfl rfl, GT_p2 9 rfl, by decide⟩
set_option maxRecDepth 100000 in
theorem cvX7_206 : CV RX7 206 yX3_namePlace cX3_namePlace 4 none 2 3 := ⟨⟨GT_4 30 rfl rfl, GT_4 27 rfl rfl, GT_1 12 rfl rfl, ⟨by decide, by decide, by decide +kernel⟩⟩, GT_4 28 rfl rfl, GT_4 29 rfl rfl, by decide⟩
set_option maxRecDepth 100000 in
theorem cvX7_214 : CV RX7 214 yX0_value cX0_value 7 (some .long) 1 0 := ⟨⟨GT_3 234 rfl rfl, GT_4 31 rfl rfl, GT_1 11 rfl rfl, ⟨by decide, by decide, by decide +kernel⟩⟩, GT_3 232 rfl rfl, GT_3 233 rfl rfl, by decide⟩
set_option maxRecDepth 100000 in
theorem cvX7_218 : CV RX7 218 yX3_nameField cX3_nameField 4 none 1 3 := ⟨⟨GT_3 230 rfl rfl, GT_4 32 rfl rfl, GT_1 12 rfl rfl, ⟨by decide, by decide, by decide +kernel⟩⟩, GT_3 228 rfl rfl, GT_3 229 rfl rfl, by decide⟩
set_option maxRecDepth 100000 in
theorem cvX7_224 : CV RX7 224 yX6_add cX6_add 4 none 3 6 := ⟨⟨GT_4 40 rfl rfl, GT_4 37 rfl rfl, GT_1 9 rfl rfl, ⟨by decide, by decide, by decide +kernel⟩⟩, GT_4 38 rfl rfl, GT_4 39 rfl rfl, by decide⟩
set_option maxRecDepth 100000 in
theorem cvX7_234 : CV RX7 234 yX7_canLend cX7_canLend 3 (some .boolean) 2 7 := ⟨⟨GT_4 60 rfl rfl, GT_4 57 rfl rfl, GT_1 1 rfl rfl, ⟨by decide, by decide, by decide +kernel⟩⟩, GT_4 59 rfl rfl, GT_p2 11 rfl, by decide⟩
set_option maxRecDepth 100000 in
theorem cvX7_238 : CV RX7 238 yX3_moveCart cX3_moveCart 3 none 2 3 := ⟨⟨GT_4 64 rfl rfl, GT_4 61 rfl rfl, GT_1 12 rfl rfl, ⟨by decide, by decide, by decide +kernel⟩⟩, GT_4 62 rfl rfl, GT_4 63 rfl rfl, by decide⟩
set_option maxRecDepth 100000 in
theorem cvX7_244 : CV RX7 244 yX3_passHoursWithGales cX3_passHoursWithGales 3 none 1 3 := ⟨⟨GT_4 72 rfl rfl, GT_4 69 rfl rfl, GT_1 12 rfl rfl, ⟨by decide, by decide, by decide +kernel⟩⟩, GT_4 70 rfl rfl, GT_4 71 rfl rfl, by decide⟩
set_option maxRecDepth 100000 in
theorem cvX7_251 : CV RX7 251 yX7_ruledBy cX7_ruledBy 5 (some (.object "WeedStrand$Strand")) 2 7 := ⟨⟨GT_4 131 rfl rfl, GT_4 128 rfl rfl, GT_1 1 rfl rfl, ⟨by decide, by decide, by decide +kernel⟩⟩, GT_4 130 rfl rfl, GT_p3 3 rfl, by decide⟩
set_option maxRecDepth 100000 in
theorem cvX7_255 : CV RX7 255 yX3_allGot cX3_allGot 1 (some .int) 0 3 := ⟨⟨GT_4 139 rfl rfl, GT_4 136 rfl rfl, GT_1 12 rfl rfl, ⟨by decide, by decide, by decide +kernel⟩⟩, GT_4 137 rfl rfl, GT_4 138 rfl rfl, by decide⟩
set_option maxRecDepth 100000 in
theorem cvX7_262 : CV RX7 262 yX3_allGains cX3_allGains 1 (some .int) 0 3 := ⟨⟨GT_4 143 rfl rfl, GT_4 140 rfl rfl, GT_1 12 rfl rfl, ⟨by decide, by decide, by decide +kernel⟩⟩, GT_4 141 rfl rfl, GT_4 142 rfl rfl, by decide⟩
set_option maxRecDepth 100000 in
theorem cvX7_265 : CV RX7 265 yX3_passHours cX3_passHours 3 none 1 3 := ⟨⟨GT_4 135 rfl rfl, GT_4 132 rfl rfl, GT_1 12 rfl rfl, ⟨by decide, by decide, by decide +kernel⟩⟩, GT_4 133 rfl rfl, GT_4 134 rfl rfl, by decide⟩
set_option maxRecDepth 100000 in
theorem cvX7_268 : CV RX7 268 yX7_planFor cX7_planFor 9 (some .int) 2 7 := ⟨⟨GT_4 155 rfl rfl, GT_4 152 rfl rfl, GT_1 1 rfl rfl, ⟨by decide, by decide, by decide +kernel⟩⟩, GT_4 154 rfl rfl, GT_p3 4 rfl, by decide⟩
set_option maxRecDepth 100000 in
theorem cvX7_272 : CV RX7 272 yX7_startWays cX7_startWays 4 none 2 7 := ⟨⟨GT_4 159 rfl rfl, GT_4 156 rfl rfl, GT_1 1 rfl rfl, ⟨by decide, by decide, by decide +kernel⟩⟩, GT_4 158 rfl rfl, GT_p3 5 rfl, by decide⟩
set_option maxRecDepth 100000 in
theorem cvX7_278 : CV RX7 278 yX3_passHour cX3_passHour 3 none 0 3 := ⟨⟨GT_4 89 rfl rfl, GT_4 163 rfl rfl, GT_1 12 rfl rfl, ⟨by decide, by decide, by decide +kernel⟩⟩, GT_4 87 rfl rfl, GT_4 88 rfl rfl, by decide⟩
set_option maxRecDepth 100000 in
theorem cvX7_287 : CV RX7 287 yX7_nextWay cX7_nextWay 5 (some .int) 3 7 := ⟨⟨GT_4 168 rfl rfl, GT_4 165 rfl rfl, GT_1 1 rfl rfl, ⟨by decide, by decide, by decide +kernel⟩⟩, GT_4 167 rfl rfl, GT_p3 6 rfl, by decide⟩
set_option maxRecDepth 100000 in
theorem cvX7_291 : CV RX7 291 yX7_mayCome cX7_mayCome 4 (some .boolean) 3 7 := ⟨⟨GT_4 180 rfl rfl, GT_4 177 rfl rfl, GT_1 1 rfl rfl, ⟨by decide, by decide, by decide +kernel⟩⟩, GT_4 179 rfl rfl, GT_p3 7 rfl, by decide⟩
set_option maxRecDepth 100000 in
theorem cvX7_294 : CV RX7 294 yX7_workOutComing cX7_workOutComing 6 none 3 7 := ⟨⟨GT_4 184 rfl rfl, GT_4 181 rfl rfl, GT_1 1 rfl rfl, ⟨by decide, by decide, by decide +kernel⟩⟩, GT_4 183 rfl rfl, GT_p3 8 rfl, by decide⟩
set_option maxRecDepth 100000 in
theorem cvX7_297 : CV RX7 297 yX7_isRest cX7_isRest 5 (some .boolean) 1 7 := ⟨⟨GT_4 188 rfl rfl, GT_4 185 rfl rfl, GT_1 1 rfl rfl, ⟨by decide, by decide, by decide +kernel⟩⟩, GT_4 187 rfl rfl, GT_p3 9 rfl, by decide⟩
set_option maxRecDepth 100000 in
theorem cvX7_300 : CV RX7 300 yX3_unlikeLots cX3_unlikeLots 2 (some .int) 0 3 := ⟨⟨GT_4 200 rfl rfl, GT_4 197 rfl rfl, GT_1 12 rfl rfl, ⟨by decide, by decide, by decide +kernel⟩⟩, GT_4 198 rfl rfl, GT_4 199 rfl rfl, by decide⟩
set_option maxRecDepth 100000 in
theorem cvX7_303 : CV RX7 303 yX7_findSwap cX7_findSwap 7 (some .boolean) 0 7 := ⟨⟨GT_4 218 rfl rfl, GT_4 215 rfl rfl, GT_1 1 rfl rfl, ⟨by decide, by decide, by decide +kernel⟩⟩, GT_4 217 rfl rfl, GT_p3 10 rfl, by decide⟩
set_option maxRecDepth 100000 in
theorem cvX7_318 : CV RX7 318 yX7_findTurns cX7_findTurns 9 (some .int) 1 7 := ⟨⟨GT_4 230 rfl rfl, GT_4 227 rfl rfl, GT_1 1 rfl rfl, ⟨by decide, by decide, by decide +kernel⟩⟩, GT_4 229 rfl rfl, GT_p3 11 rfl, by decide⟩
set_option maxRecDepth 100000 in
theorem cvX7_321 : CV RX7 321 yX3_letForkAlone cX3_letForkAlone 3 none 1 3 := ⟨⟨GT_4 234 rfl rfl, GT_4 231 rfl rfl, GT_1 12 rfl rfl, ⟨by decide, by decide, by decide +kernel⟩⟩, GT_4 232 rfl rfl, GT_4 233 rfl rfl, by decide⟩
set_option maxRecDepth 100000 in
theorem cvX7_334 : CV RX7 334 yX2_add cX2_add 4 (some .int) 3 2 := ⟨⟨GT_5 14 rfl rfl, GT_5 11 rfl rfl, GT_1 8 rfl rfl, ⟨by decide, by decide, by decide +kernel⟩⟩, GT_5 12 rfl rfl, GT_5 13 rfl rfl, by decide⟩
set_option maxRecDepth 100000 in
theorem cvX7_340 : CV RX7 340 yX2_sift cX2_sift 2 none 0 2 := ⟨⟨GT_5 30 rfl rfl, GT_5 27 rfl rfl, GT_1 8 rfl rfl, ⟨by decide, by decide, by decide +kernel⟩⟩, GT_5 28 rfl rfl, GT_5 29 rfl rfl, by decide⟩
set_option maxRecDepth 100000 in
theorem cvX7_343 : CV RX7 343 yX7_agreesWithSeen cX7_agreesWithSeen 6 (some .boolean) 2 7 := ⟨⟨GT_5 38 rfl rfl, GT_5 35 rfl rfl, GT_1 1 rfl rfl, ⟨by decide, by decide, by decide +kernel⟩⟩, GT_5 37 rfl rfl, GT_p3 12 rfl, by decide⟩
set_option maxRecDepth 100000 in
theorem cvX7_346 : CV RX7 346 yX2_lastHour cX2_lastHour 3 (some .int) 0 2 := ⟨⟨GT_5 42 rfl rfl, GT_5 39 rfl rfl, GT_1 8 rfl rfl, ⟨by decide, by decide, by decide +kernel⟩⟩, GT_5 40 rfl rfl, GT_5 41 rfl rfl, by decide⟩
set_option maxRecDepth 100000 in
theorem cvX7_349 : CV RX7 349 yX2_agrees cX2_agrees 4 (some .boolean) 2 2 := ⟨⟨GT_5 51 rfl rfl, GT_5 48 rfl rfl, GT_1 8 rfl rfl, ⟨by decide, by decide, by decide +kernel⟩⟩, GT_5 49 rfl rfl, GT_5 50 rfl rfl, by decide⟩
set_option maxRecDepth 100000 in
theorem cvX7_356 : CV RX7 356 yX3_tryOut cX3_tryOut 4 none 2 3 := ⟨⟨GT_5 64 rfl rfl, GT_5 61 rfl rfl, GT_1 12 rfl rfl, ⟨by decide, by decide, by decide +kernel⟩⟩, GT_5 62 rfl rfl, GT_5 63 rfl rfl, by decide⟩
set_option maxRecDepth 100000 in
theorem cvX7_359 : CV RX7 359 yX6_takeBack cX6_takeBack 3 none 1 6 := ⟨⟨GT_5 73 rfl rfl, GT_5 70 rfl rfl, GT_1 9 rfl rfl, ⟨by decide, by decide, by decide +kernel⟩⟩, GT_5 71 rfl rfl, GT_5 72 rfl rfl, by decide⟩
set_option maxRecDepth 100000 in
theorem cvX7_369 : CV RX7 369 yX3_allLying cX3_allLying 1 (some .int) 0 3 := ⟨⟨GT_4 97 rfl rfl, GT_5 87 rfl rfl, GT_1 12 rfl rfl, ⟨by decide, by decide, by decide +kernel⟩⟩, GT_4 95 rfl rfl, GT_4 96 rfl rfl, by decide⟩
set_option maxRecDepth 100000 in
theorem cvX7_372 : CV RX7 372 yX2_knownSize cX2_knownSize 1 (some .int) 0 2 := ⟨⟨GT_5 34 rfl rfl, GT_5 88 rfl rfl, GT_1 8 rfl rfl, ⟨by decide, by decide, by decide +kernel⟩⟩, GT_5 32 rfl rfl, GT_5 33 rfl rfl, by decide⟩
set_option maxRecDepth 100000 in
theorem cvX0_35 : CV RX0 35 yX0_isTold cX0_isTold 2 (some .boolean) 1 0 := ⟨⟨GT_3 132 rfl rfl, GT_3 235 rfl rfl, GT_1 11 rfl rfl, ⟨by decide, by decide, by decide +kernel⟩⟩, GT_3 130 rfl rfl, GT_3 131 rfl rfl, by decide⟩
set_option maxRecDepth 100000 in
theorem cvX1_29 : CV RX1 29 yX5_clear cX5_clear 1 none 0 5 := ⟨⟨GT_3 29 rfl rfl, GT_3 26 rfl rfl, GT_1 10 rfl rfl, ⟨by decide, by decide, by decide +kernel⟩⟩, GT_3 27 rfl rfl, GT_3 28 rfl rfl, by decide⟩
set_option maxRecDepth 100000 in
theorem cvX1_47 : CV RX1 47 yX4_begin cX4_begin 2 none 1 4 := ⟨⟨GT_3 37 rfl rfl, GT_3 34 rfl rfl, GT_1 2 rfl rfl, ⟨by decide, by decide, by decide +kernel⟩⟩, GT_3 35 rfl rfl, GT_3 36 rfl rfl, by decide⟩
set_option maxRecDepth 100000 in
theorem cvX1_56 : CV RX1 56 yX1_readLine cX1_readLine 1 (some .boolean) 0 1 := ⟨⟨GT_3 70 rfl rfl, GT_3 67 rfl rfl, GT_1 7 rfl rfl, ⟨by decide, by decide, by decide +kernel⟩⟩, GT_3 69 rfl rfl, GT_p1 3 rfl, by decide⟩
set_option maxRecDepth 100000 in
theorem cvX1_60 : CV RX1 60 yX1_takeSemicolon cX1_takeSemicolon 1 (some .boolean) 0 1 := ⟨⟨GT_3 178 rfl rfl, GT_3 175 rfl rfl, GT_1 7 rfl rfl, ⟨by decide, by decide, by decide +kernel⟩⟩, GT_3 177 rfl rfl, GT_p2 6 rfl, by decide⟩
set_option maxRecDepth 100000 in
theorem cvX1_66 : CV RX1 66 yX1_readStripe cX1_readStripe 1 (some .boolean) 0 1 := ⟨⟨GT_3 74 rfl rfl, GT_3 71 rfl rfl, GT_1 7 rfl rfl, ⟨by decide, by decide, by decide +kernel⟩⟩, GT_3 73 rfl rfl, GT_p1 4 rfl, by decide⟩
set_option maxRecDepth 100000 in
theorem cvX1_69 : CV RX1 69 yX1_readCroft cX1_readCroft 2 (some .boolean) 0 1 := ⟨⟨GT_3 87 rfl rfl, GT_3 84 rfl rfl, GT_1 7 rfl rfl, ⟨by decide, by decide, by decide +kernel⟩⟩, GT_3 86 rfl rfl, GT_p1 7 rfl, by decide⟩
set_option maxRecDepth 100000 in
theorem cvX1_72 : CV RX1 72 yX1_readField cX1_readField 3 (some .boolean) 0 1 := ⟨⟨GT_3 95 rfl rfl, GT_3 92 rfl rfl, GT_1 7 rfl rfl, ⟨by decide, by decide, by decide +kernel⟩⟩, GT_3 94 rfl rfl, GT_p1 8 rfl, by decide⟩
set_option maxRecDepth 100000 in
theorem cvX1_75 : CV RX1 75 yX1_readTide cX1_readTide 1 (some .boolean) 0 1 := ⟨⟨GT_3 99 rfl rfl, GT_3 96 rfl rfl, GT_1 7 rfl rfl, ⟨by decide, by decide, by decide +kernel⟩⟩, GT_3 98 rfl rfl, GT_p1 9 rfl, by decide⟩
set_option maxRecDepth 100000 in
theorem cvX1_78 : CV RX1 78 yX1_readHeap cX1_readHeap 1 (some .boolean) 0 1 := ⟨⟨GT_3 107 rfl rfl, GT_3 104 rfl rfl, GT_1 7 rfl rfl, ⟨by decide, by decide, by decide +kernel⟩⟩, GT_3 106 rfl rfl, GT_p1 10 rfl, by decide⟩
set_option maxRecDepth 100000 in
theorem cvX1_81 : CV RX1 81 yX1_readRule cX1_readRule 1 (some .boolean) 0 1 := ⟨⟨GT_3 115 rfl rfl, GT_3 112 rfl rfl, GT_1 7 rfl rfl, ⟨by decide, by decide, by decide +kernel⟩⟩, GT_3 114 rfl rfl, GT_p1 12 rfl, by decide⟩
set_option maxRecDepth 100000 in
theorem cvX1_84 : CV RX1 84 yX1_readGale cX1_readGale 1 (some .boolean) 0 1 := ⟨⟨GT_3 119 rfl rfl, GT_3 116 rfl rfl, GT_1 7 rfl rfl, ⟨by decide, by decide, by decide +kernel⟩⟩, GT_3 118 rfl rfl, GT_p1 13 rfl, by decide⟩
set_option maxRecDepth 100000 in
theorem cvX1_87 : CV RX1 87 yX1_readSeed cX1_readSeed 1 (some .boolean) 0 1 := ⟨⟨GT_3 123 rfl rfl, GT_3 120 rfl rfl, GT_1 7 rfl rfl, ⟨by decide, by decide, by decide +kernel⟩⟩, GT_3 122 rfl rfl, GT_p1 14 rfl, by decide⟩
set_option maxRecDepth 100000 in
theorem cvX1_90 : CV RX1 90 yX1_readLaw cX1_readLaw 3 (some .boolean) 0 1 := ⟨⟨GT_3 128 rfl rfl, GT_3 125 rfl rfl, GT_1 7 rfl rfl, ⟨by decide, by decide, by decide +kernel⟩⟩, GT_3 127 rfl rfl, GT_p1 15 rfl, by decide⟩
set_option maxRecDepth 100000 in
theorem cvX1_93 : CV RX1 93 yX1_fails cX1_fails 2 (some .boolean) 1 1 := ⟨⟨GT_3 78 rfl rfl, GT_3 75 rfl rfl, GT_1 7 rfl rfl, ⟨by decide, by decide, by decide +kernel⟩⟩, GT_3 77 rfl rfl, GT_p1 5 rfl, by decide⟩
set_option maxRecDepth 100000 in
theorem cvX1_100 : CV RX1 100 yX4_advance cX4_advance 1 none 0 4 := ⟨⟨GT_3 44 rfl rfl, GT_3 79 rfl rfl, GT_1 2 rfl rfl, ⟨by decide, by decide, by decide +kernel⟩⟩, GT_3 42 rfl rfl, GT_3 43 rfl rfl, by decide⟩
set_option maxRecDepth 100000 in
theorem cvX1_112 : CV RX1 112 yX1_takeNumber cX1_takeNumber 2 (some .boolean) 1 1 := ⟨⟨GT_3 83 rfl rfl, GT_3 80 rfl rfl, GT_1 7 rfl rfl, ⟨by decide, by decide, by decide +kernel⟩⟩, GT_3 82 rfl rfl, GT_p1 6 rfl, by decide⟩
set_option maxRecDepth 100000 in
theorem cvX1_124 : CV RX1 124 yX5_croftNamed cX5_croftNamed 3 (some .int) 1 5 := ⟨⟨GT_3 91 rfl rfl, GT_3 88 rfl rfl, GT_1 10 rfl rfl, ⟨by decide, by decide, by decide +kernel⟩⟩, GT_3 89 rfl rfl, GT_3 90 rfl rfl, by decide⟩
set_option maxRecDepth 100000 in
theorem cvX1_155 : CV RX1 155 yX5_hasTide cX5_hasTide 3 (some .boolean) 1 5 := ⟨⟨GT_3 103 rfl rfl, GT_3 100 rfl rfl, GT_1 10 rfl rfl, ⟨by decide, by decide, by decide +kernel⟩⟩, GT_3 101 rfl rfl, GT_3 102 rfl rfl, by decide⟩
set_option maxRecDepth 100000 in
theorem cvX1_161 : CV RX1 161 yX1_takeOnce cX1_takeOnce 2 (some .boolean) 0 1 := ⟨⟨GT_3 111 rfl rfl, GT_3 108 rfl rfl, GT_1 7 rfl rfl, ⟨by decide, by decide, by decide +kernel⟩⟩, GT_3 110 rfl rfl, GT_p1 11 rfl, by decide⟩
set_option maxRecDepth 100000 in
theorem cvX1_184 : CV RX1 184 yX0_isTold cX0_isTold 2 (some .boolean) 1 0 := ⟨⟨GT_3 132 rfl rfl, GT_3 129 rfl rfl, GT_1 11 rfl rfl, ⟨by decide, by decide, by decide +kernel⟩⟩, GT_3 130 rfl rfl, GT_3 131 rfl rfl, by decide⟩
set_option maxRecDepth 100000 in
theorem cvX1_187 : CV RX1 187 yX0_begin cX0_begin 2 none 1 0 := ⟨⟨GT_3 136 rfl rfl, GT_3 133 rfl rfl, GT_1 11 rfl rfl, ⟨by decide, by decide, by decide +kernel⟩⟩, GT_3 134 rfl rfl, GT_3 135 rfl rfl, by decide⟩
set_option maxRecDepth 100000 in
theorem cvX1_188 : CV RX1 188 yX1_beginExpression cX1_beginExpression 1 none 0 1 := ⟨⟨GT_3 140 rfl rfl, GT_3 137 rfl rfl, GT_1 7 rfl rfl, ⟨by decide, by decide, by decide +kernel⟩⟩, GT_3 139 rfl rfl, GT_p2 0 rfl, by decide⟩
set_option maxRecDepth 100000 in
theorem cvX1_195 : CV RX1 195 yX1_readOperand cX1_readOperand 3 (some .boolean) 0 1 := ⟨⟨GT_3 144 rfl rfl, GT_3 141 rfl rfl, GT_1 7 rfl rfl, ⟨by decide, by decide, by decide +kernel⟩⟩, GT_3 143 rfl rfl, GT_p2 1 rfl, by decide⟩
set_option maxRecDepth 100000 in
theorem cvX1_201 : CV RX1 201 yX1_readJoin cX1_readJoin 2 (some .boolean) 0 1 := ⟨⟨GT_3 162 rfl rfl, GT_3 159 rfl rfl, GT_1 7 rfl rfl, ⟨by decide, by decide, by decide +kernel⟩⟩, GT_3 161 rfl rfl, GT_p2 3 rfl, by decide⟩
set_option maxRecDepth 100000 in
theorem cvX1_207 : CV RX1 207 yX1_closeParenthesis cX1_closeParenthesis 1 none 0 1 := ⟨⟨GT_3 170 rfl rfl, GT_3 167 rfl rfl, GT_1 7 rfl rfl, ⟨by decide, by decide, by decide +kernel⟩⟩, GT_3 169 rfl rfl, GT_p2 5 rfl, by decide⟩
set_option maxRecDepth 100000 in
theorem cvX1_210 : CV RX1 210 yX1_putWaiting cX1_putWaiting 2 none 1 1 := ⟨⟨GT_3 166 rfl rfl, GT_3 163 rfl rfl, GT_1 7 rfl rfl, ⟨by decide, by decide, by decide +kernel⟩⟩, GT_3 165 rfl rfl, GT_p2 4 rfl, by decide⟩
set_option maxRecDepth 100000 in
theorem cvX1_213 : CV RX1 213 yX0_end cX0_end 2 none 1 0 := ⟨⟨GT_3 174 rfl rfl, GT_3 171 rfl rfl, GT_1 11 rfl rfl, ⟨by decide, by decide, by decide +kernel⟩⟩, GT_3 172 rfl rfl, GT_3 173 rfl rfl, by decide⟩
set_option maxRecDepth 100000 in
theorem cvX1_222 : CV RX1 222 yX0_put cX0_put 3 none 2 0 := ⟨⟨GT_3 148 rfl rfl, GT_3 145 rfl rfl, GT_1 11 rfl rfl, ⟨by decide, by decide, by decide +kernel⟩⟩, GT_3 146 rfl rfl, GT_3 147 rfl rfl, by decide⟩
set_option maxRecDepth 100000 in
theorem cvX1_226 : CV RX1 226 yX1_push cX1_push 2 none 1 1 := ⟨⟨GT_3 152 rfl rfl, GT_3 149 rfl rfl, GT_1 7 rfl rfl, ⟨by decide, by decide, by decide +kernel⟩⟩, GT_3 151 rfl rfl, GT_p2 2 rfl, by decide⟩
set_option maxRecDepth 100000 in
theorem cvX2_32 : CV RX2 32 yX2_knownSize cX2_knownSize 1 (some .int) 0 2 := ⟨⟨GT_5 34 rfl rfl, GT_5 31 rfl rfl, GT_1 8 rfl rfl, ⟨by decide, by decide, by decide +kernel⟩⟩, GT_5 32 rfl rfl, GT_5 33 rfl rfl, by decide⟩
set_option maxRecDepth 100000 in
theorem cvX2_36 : CV RX2 36 yX2_counts cX2_counts 2 (some .boolean) 1 2 := ⟨⟨GT_5 46 rfl rfl, GT_5 43 rfl rfl, GT_1 8 rfl rfl, ⟨by decide, by decide, by decide +kernel⟩⟩, GT_5 45 rfl rfl, GT_p3 13 rfl, by decide⟩
set_option maxRecDepth 100000 in
theorem cvX3_88 : CV RX3 88 yX3_passHour cX3_passHour 3 none 0 3 := ⟨⟨GT_4 89 rfl rfl, GT_4 86 rfl rfl, GT_1 12 rfl rfl, ⟨by decide, by decide, by decide +kernel⟩⟩, GT_4 87 rfl rfl, GT_4 88 rfl rfl, by decide⟩
set_option maxRecDepth 100000 in
theorem cvX3_94 : CV RX3 94 yX3_drawNumber cX3_drawNumber 1 (some .int) 0 3 := ⟨⟨GT_4 76 rfl rfl, GT_4 73 rfl rfl, GT_1 12 rfl rfl, ⟨by decide, by decide, by decide +kernel⟩⟩, GT_4 75 rfl rfl, GT_p2 12 rfl, by decide⟩
set_option maxRecDepth 100000 in
theorem cvX3_98 : CV RX3 98 yX3_blow cX3_blow 2 none 0 3 := ⟨⟨GT_4 84 rfl rfl, GT_4 81 rfl rfl, GT_1 12 rfl rfl, ⟨by decide, by decide, by decide +kernel⟩⟩, GT_4 83 rfl rfl, GT_p2 13 rfl, by decide⟩
set_option maxRecDepth 100000 in
theorem cvX3_120 : CV RX3 120 yX3_ruledAct cX3_ruledAct 1 (some .int) 0 3 := ⟨⟨GT_4 93 rfl rfl, GT_4 90 rfl rfl, GT_1 12 rfl rfl, ⟨by decide, by decide, by decide +kernel⟩⟩, GT_4 92 rfl rfl, GT_p2 14 rfl, by decide⟩
set_option maxRecDepth 100000 in
theorem cvX3_123 : CV RX3 123 yX3_cart cX3_cart 7 none 1 3 := ⟨⟨GT_4 104 rfl rfl, GT_4 101 rfl rfl, GT_1 12 rfl rfl, ⟨by decide, by decide, by decide +kernel⟩⟩, GT_4 103 rfl rfl, GT_p2 15 rfl, by decide⟩
set_option maxRecDepth 100000 in
theorem cvX3_127 : CV RX3 127 yX3_fork cX3_fork 7 none 1 3 := ⟨⟨GT_4 115 rfl rfl, GT_4 112 rfl rfl, GT_1 12 rfl rfl, ⟨by decide, by decide, by decide +kernel⟩⟩, GT_4 114 rfl rfl, GT_p3 1 rfl, by decide⟩
set_option maxRecDepth 100000 in
theorem cvX3_130 : CV RX3 130 yX5_hasTide cX5_hasTide 3 (some .boolean) 1 5 := ⟨⟨GT_3 103 rfl rfl, GT_4 116 rfl rfl, GT_1 10 rfl rfl, ⟨by decide, by decide, by decide +kernel⟩⟩, GT_3 101 rfl rfl, GT_3 102 rfl rfl, by decide⟩
set_option maxRecDepth 100000 in
theorem cvX3_134 : CV RX3 134 yX3_ebb cX3_ebb 5 none 0 3 := ⟨⟨GT_4 120 rfl rfl, GT_4 117 rfl rfl, GT_1 12 rfl rfl, ⟨by decide, by decide, by decide +kernel⟩⟩, GT_4 119 rfl rfl, GT_p3 2 rfl, by decide⟩
set_option maxRecDepth 100000 in
theorem cvX3_137 : CV RX3 137 yX3_allLying cX3_allLying 1 (some .int) 0 3 := ⟨⟨GT_4 97 rfl rfl, GT_4 94 rfl rfl, GT_1 12 rfl rfl, ⟨by decide, by decide, by decide +kernel⟩⟩, GT_4 95 rfl rfl, GT_4 96 rfl rfl, by decide⟩
set_option maxRecDepth 100000 in
theorem cvX3_140 : CV RX3 140 yX3_sourceOf cX3_sourceOf 7 (some .int) 2 3 := ⟨⟨GT_4 13 rfl rfl, GT_4 105 rfl rfl, GT_1 12 rfl rfl, ⟨by decide, by decide, by decide +kernel⟩⟩, GT_4 11 rfl rfl, GT_4 12 rfl rfl, by decide⟩
set_option maxRecDepth 100000 in
theorem cvX3_150 : CV RX3 150 yX3_worthOf cX3_worthOf 4 (some .int) 1 3 := ⟨⟨GT_3 226 rfl rfl, GT_4 106 rfl rfl, GT_1 12 rfl rfl, ⟨by decide, by decide, by decide +kernel⟩⟩, GT_3 224 rfl rfl, GT_3 225 rfl rfl, by decide⟩
set_option maxRecDepth 100000 in
theorem cvX3_154 : CV RX3 154 yX3_loadOf cX3_loadOf 5 (some .int) 2 3 := ⟨⟨GT_4 110 rfl rfl, GT_4 107 rfl rfl, GT_1 12 rfl rfl, ⟨by decide, by decide, by decide +kernel⟩⟩, GT_4 109 rfl rfl, GT_p3 0 rfl, by decide⟩
set_option maxRecDepth 100000 in
theorem cvX3_157 : CV RX3 157 yX3_namePlace cX3_namePlace 4 none 2 3 := ⟨⟨GT_4 30 rfl rfl, GT_4 111 rfl rfl, GT_1 12 rfl rfl, ⟨by decide, by decide, by decide +kernel⟩⟩, GT_4 28 rfl rfl, GT_4 29 rfl rfl, by decide⟩
set_option maxRecDepth 100000 in
theorem cvX3_165 : CV RX3 165 yX0_value cX0_value 7 (some .long) 1 0 := ⟨⟨GT_3 234 rfl rfl, GT_3 231 rfl rfl, GT_1 11 rfl rfl, ⟨by decide, by decide, by decide +kernel⟩⟩, GT_3 232 rfl rfl, GT_3 233 rfl rfl, by decide⟩
set_option maxRecDepth 100000 in
theorem cvX3_177 : CV RX3 177 yX3_nameField cX3_nameField 4 none 1 3 := ⟨⟨GT_3 230 rfl rfl, GT_3 227 rfl rfl, GT_1 12 rfl rfl, ⟨by decide, by decide, by decide +kernel⟩⟩, GT_3 228 rfl rfl, GT_3 229 rfl rfl, by decide⟩
set_option maxRecDepth 100000 in
theorem cvX3_190 : CV RX3 190 yX3_liesOnLots cX3_liesOnLots 4 (some .int) 1 3 := ⟨⟨GT_3 214 rfl rfl, GT_4 201 rfl rfl, GT_1 12 rfl rfl, ⟨by decide, by decide, by decide +kernel⟩⟩, GT_3 212 rfl rfl, GT_3 213 rfl rfl, by decide⟩
set_option maxRecDepth 100000 in
theorem cvX4_45 : CV RX4 45 yX4_advance cX4_advance 1 none 0 4 := ⟨⟨GT_3 44 rfl rfl, GT_3 41 rfl rfl, GT_1 2 rfl rfl, ⟨by decide, by decide, by decide +kernel⟩⟩, GT_3 42 rfl rfl, GT_3 43 rfl rfl, by decide⟩
set_option maxRecDepth 100000 in
theorem cvX4_58 : CV RX4 58 yX4_readWord cX4_readWord 3 none 0 4 := ⟨⟨GT_3 51 rfl rfl, GT_3 48 rfl rfl, GT_1 2 rfl rfl, ⟨by decide, by decide, by decide +kernel⟩⟩, GT_3 50 rfl rfl, GT_p1 0 rfl, by decide⟩
set_option maxRecDepth 100000 in
theorem cvX4_64 : CV RX4 64 yX4_readNumber cX4_readNumber 1 none 0 4 := ⟨⟨GT_3 58 rfl rfl, GT_3 55 rfl rfl, GT_1 2 rfl rfl, ⟨by decide, by decide, by decide +kernel⟩⟩, GT_3 57 rfl rfl, GT_p1 1 rfl, by decide⟩
set_option maxRecDepth 100000 in
theorem cvX4_67 : CV RX4 67 yX4_readSign cX4_readSign 3 none 1 4 := ⟨⟨GT_3 63 rfl rfl, GT_3 60 rfl rfl, GT_1 2 rfl rfl, ⟨by decide, by decide, by decide +kernel⟩⟩, GT_3 62 rfl rfl, GT_p1 2 rfl, by decide⟩
set_option maxRecDepth 100000 in
theorem cvX5_46 : CV RX5 46 yX0_clear cX0_clear 2 none 0 0 := ⟨⟨GT_3 33 rfl rfl, GT_3 30 rfl rfl, GT_1 11 rfl rfl, ⟨by decide, by decide, by decide +kernel⟩⟩, GT_3 31 rfl rfl, GT_3 32 rfl rfl, by decide⟩
set_option maxRecDepth 100000 in
theorem cvX6_42 : CV RX6 42 yX3_moveCart cX3_moveCart 3 none 2 3 := ⟨⟨GT_4 64 rfl rfl, GT_5 74 rfl rfl, GT_1 12 rfl rfl, ⟨by decide, by decide, by decide +kernel⟩⟩, GT_4 62 rfl rfl, GT_4 63 rfl rfl, by decide⟩
set_option maxRecDepth 100000 in
theorem cvX8_157 : CV RX8 157 yX8_plain cX8_plain 2 none 0 8 := ⟨⟨GT_5 189 rfl rfl, GT_5 186 rfl rfl, GT_1 13 rfl rfl, ⟨by decide, by decide, by decide +kernel⟩⟩, GT_5 188 rfl rfl, GT_p3 15 rfl, by decide⟩
set_option maxRecDepth 100000 in
theorem cvX8_160 : CV RX8 160 yX8_keepText cX8_keepText 2 none 0 8 := ⟨⟨GT_5 193 rfl rfl, GT_5 190 rfl rfl, GT_1 13 rfl rfl, ⟨by decide, by decide, by decide +kernel⟩⟩, GT_5 192 rfl rfl, GT_p4 0 rfl, by decide⟩
set_option maxRecDepth 100000 in
theorem cvX8_184 : CV RX8 184 yX8_isSmall cX8_isSmall 2 (some .boolean) 1 8 := ⟨⟨GT_7 13 rfl rfl, GT_7 10 rfl rfl, GT_1 13 rfl rfl, ⟨by decide, by decide, by decide +kernel⟩⟩, GT_7 12 rfl rfl, GT_p4 5 rfl, by decide⟩
set_option maxRecDepth 100000 in
theorem cvX8_188 : CV RX8 188 yX8_wordAt cX8_wordAt 8 (some .int) 2 8 := ⟨⟨GT_7 17 rfl rfl, GT_7 14 rfl rfl, GT_1 13 rfl rfl, ⟨by decide, by decide, by decide +kernel⟩⟩, GT_7 16 rfl rfl, GT_p4 6 rfl, by decide⟩
set_option maxRecDepth 100000 in
theorem cvX8_195 : CV RX8 195 yX8_packed cX8_packed 5 (some .int) 2 8 := ⟨⟨GT_7 21 rfl rfl, GT_7 18 rfl rfl, GT_1 13 rfl rfl, ⟨by decide, by decide, by decide +kernel⟩⟩, GT_7 20 rfl rfl, GT_p4 7 rfl, by decide⟩
set_option maxRecDepth 100000 in
theorem cvX8_198 : CV RX8 198 yX8_isDigit cX8_isDigit 2 (some .boolean) 1 8 := ⟨⟨GT_7 25 rfl rfl, GT_7 22 rfl rfl, GT_1 13 rfl rfl, ⟨by decide, by decide, by decide +kernel⟩⟩, GT_7 24 rfl rfl, GT_p4 8 rfl, by decide⟩
set_option maxRecDepth 100000 in
theorem cvX8_202 : CV RX8 202 yX8_signToken cX8_signToken 4 none 0 8 := ⟨⟨GT_7 30 rfl rfl, GT_7 27 rfl rfl, GT_1 13 rfl rfl, ⟨by decide, by decide, by decide +kernel⟩⟩, GT_7 29 rfl rfl, GT_p4 9 rfl, by decide⟩
set_option maxRecDepth 100000 in
theorem cvX8_205 : CV RX8 205 yX8_wrong cX8_wrong 2 (some .boolean) 1 8 := ⟨⟨GT_7 38 rfl rfl, GT_7 35 rfl rfl, GT_1 13 rfl rfl, ⟨by decide, by decide, by decide +kernel⟩⟩, GT_7 37 rfl rfl, GT_p4 11 rfl, by decide⟩
set_option maxRecDepth 100000 in
theorem cvX8_215 : CV RX8 215 yX8_token cX8_token 1 none 0 8 := ⟨⟨GT_7 9 rfl rfl, GT_7 6 rfl rfl, GT_1 13 rfl rfl, ⟨by decide, by decide, by decide +kernel⟩⟩, GT_7 8 rfl rfl, GT_p4 4 rfl, by decide⟩
set_option maxRecDepth 100000 in
theorem cvX8_218 : CV RX8 218 yX8_isSign cX8_isSign 2 (some .boolean) 1 8 := ⟨⟨GT_7 68 rfl rfl, GT_7 65 rfl rfl, GT_1 13 rfl rfl, ⟨by decide, by decide, by decide +kernel⟩⟩, GT_7 67 rfl rfl, GT_p5 1 rfl, by decide⟩
set_option maxRecDepth 100000 in
theorem cvX8_221 : CV RX8 221 yX8_number cX8_number 3 (some .boolean) 2 8 := ⟨⟨GT_7 42 rfl rfl, GT_7 39 rfl rfl, GT_1 13 rfl rfl, ⟨by decide, by decide, by decide +kernel⟩⟩, GT_7 41 rfl rfl, GT_p4 12 rfl, by decide⟩
set_option maxRecDepth 100000 in
theorem cvX8_262 : CV RX8 262 yX8_begin cX8_begin 1 none 0 8 := ⟨⟨GT_5 200 rfl rfl, GT_5 197 rfl rfl, GT_1 13 rfl rfl, ⟨by decide, by decide, by decide +kernel⟩⟩, GT_5 199 rfl rfl, GT_p4 1 rfl, by decide⟩
set_option maxRecDepth 100000 in
theorem cvX8_269 : CV RX8 269 yX8_isOnce cX8_isOnce 2 (some .boolean) 1 8 := ⟨⟨GT_7 115 rfl rfl, GT_7 112 rfl rfl, GT_1 13 rfl rfl, ⟨by decide, by decide, by decide +kernel⟩⟩, GT_7 114 rfl rfl, GT_p5 12 rfl, by decide⟩
set_option maxRecDepth 100000 in
theorem cvX8_272 : CV RX8 272 yX8_croftLine cX8_croftLine 2 (some .boolean) 0 8 := ⟨⟨GT_7 49 rfl rfl, GT_7 46 rfl rfl, GT_1 13 rfl rfl, ⟨by decide, by decide, by decide +kernel⟩⟩, GT_7 48 rfl rfl, GT_p4 13 rfl, by decide⟩
set_option maxRecDepth 100000 in
theorem cvX8_276 : CV RX8 276 yX8_fieldLine cX8_fieldLine 3 (some .boolean) 0 8 := ⟨⟨GT_7 56 rfl rfl, GT_7 53 rfl rfl, GT_1 13 rfl rfl, ⟨by decide, by decide, by decide +kernel⟩⟩, GT_7 55 rfl rfl, GT_p4 14 rfl, by decide⟩
set_option maxRecDepth 100000 in
theorem cvX8_279 : CV RX8 279 yX8_tideLine cX8_tideLine 2 (some .boolean) 0 8 := ⟨⟨GT_7 60 rfl rfl, GT_7 57 rfl rfl, GT_1 13 rfl rfl, ⟨by decide, by decide, by decide +kernel⟩⟩, GT_7 59 rfl rfl, GT_p4 15 rfl, by decide⟩
set_option maxRecDepth 100000 in
theorem cvX8_282 : CV RX8 282 yX8_sumRead cX8_sumRead 1 (some .boolean) 0 8 := ⟨⟨GT_7 64 rfl rfl, GT_7 61 rfl rfl, GT_1 13 rfl rfl, ⟨by decide, by decide, by decide +kernel⟩⟩, GT_7 63 rfl rfl, GT_p5 0 rfl, by decide⟩
set_option maxRecDepth 100000 in
theorem cvX8_285 : CV RX8 285 yX8_onceLine cX8_onceLine 1 (some .boolean) 0 8 := ⟨⟨GT_7 111 rfl rfl, GT_7 108 rfl rfl, GT_1 13 rfl rfl, ⟨by decide, by decide, by decide +kernel⟩⟩, GT_7 110 rfl rfl, GT_p5 11 rfl, by decide⟩
set_option maxRecDepth 100000 in
theorem cvX8_288 : CV RX8 288 yX8_lineRead cX8_lineRead 3 (some .boolean) 0 8 := ⟨⟨GT_7 34 rfl rfl, GT_7 31 rfl rfl, GT_1 13 rfl rfl, ⟨by decide, by decide, by decide +kernel⟩⟩, GT_7 33 rfl rfl, GT_p4 10 rfl, by decide⟩
set_option maxRecDepth 100000 in
theorem cvX8_301 : CV RX8 301 yX8_dropHeld cX8_dropHeld 1 (some .int) 0 8 := ⟨⟨GT_7 107 rfl rfl, GT_7 104 rfl rfl, GT_1 13 rfl rfl, ⟨by decide, by decide, by decide +kernel⟩⟩, GT_7 106 rfl rfl, GT_p5 10 rfl, by decide⟩
set_option maxRecDepth 100000 in
theorem cvX8_305 : CV RX8 305 yX8_grown cX8_grown 4 none 3 8 := ⟨⟨GT_7 92 rfl rfl, GT_7 89 rfl rfl, GT_1 13 rfl rfl, ⟨by decide, by decide, by decide +kernel⟩⟩, GT_7 91 rfl rfl, GT_p5 7 rfl, by decide⟩
set_option maxRecDepth 100000 in
theorem cvX8_312 : CV RX8 312 yX8_waitsFor cX8_waitsFor 2 none 1 8 := ⟨⟨GT_7 76 rfl rfl, GT_7 73 rfl rfl, GT_1 13 rfl rfl, ⟨by decide, by decide, by decide +kernel⟩⟩, GT_7 75 rfl rfl, GT_p5 3 rfl, by decide⟩
set_option maxRecDepth 100000 in
theorem cvX8_320 : CV RX8 320 yX8_isKey cX8_isKey 2 (some .boolean) 1 8 := ⟨⟨GT_7 80 rfl rfl, GT_7 77 rfl rfl, GT_1 13 rfl rfl, ⟨by decide, by decide, by decide +kernel⟩⟩, GT_7 79 rfl rfl, GT_p5 4 rfl, by decide⟩
set_option maxRecDepth 100000 in
theorem cvX8_323 : CV RX8 323 yX8_isCounted cX8_isCounted 1 (some .boolean) 0 8 := ⟨⟨GT_7 84 rfl rfl, GT_7 81 rfl rfl, GT_1 13 rfl rfl, ⟨by decide, by decide, by decide +kernel⟩⟩, GT_7 83 rfl rfl, GT_p5 5 rfl, by decide⟩
set_option maxRecDepth 100000 in
theorem cvX8_326 : CV RX8 326 yX8_nameMet cX8_nameMet 1 (some .int) 0 8 := ⟨⟨GT_7 88 rfl rfl, GT_7 85 rfl rfl, GT_1 13 rfl rfl, ⟨by decide, by decide, by decide +kernel⟩⟩, GT_7 87 rfl rfl, GT_p5 6 rfl, by decide⟩
set_option maxRecDepth 100000 in
theorem cvX8_332 : CV RX8 332 yX8_bind cX8_bind 5 none 1 8 := ⟨⟨GT_7 100 rfl rfl, GT_7 97 rfl rfl, GT_1 13 rfl rfl, ⟨by decide, by decide, by decide +kernel⟩⟩, GT_7 99 rfl rfl, GT_p5 9 rfl, by decide⟩
set_option maxRecDepth 100000 in
theorem cvX8_335 : CV RX8 335 yX8_leafRead cX8_leafRead 2 (some .boolean) 0 8 := ⟨⟨GT_7 72 rfl rfl, GT_7 69 rfl rfl, GT_1 13 rfl rfl, ⟨by decide, by decide, by decide +kernel⟩⟩, GT_7 71 rfl rfl, GT_p5 2 rfl, by decide⟩
set_option maxRecDepth 100000 in
theorem cvX8_338 : CV RX8 338 yX8_signs cX8_signs 2 (some .boolean) 0 8 := ⟨⟨GT_7 96 rfl rfl, GT_7 93 rfl rfl, GT_1 13 rfl rfl, ⟨by decide, by decide, by decide +kernel⟩⟩, GT_7 95 rfl rfl, GT_p5 8 rfl, by decide⟩
set_option maxRecDepth 100000 in
theorem cvX8_348 : CV RX8 348 yX8_bounded cX8_bounded 3 (some .long) 1 8 := ⟨⟨GT_7 183 rfl rfl, GT_7 180 rfl rfl, GT_1 13 rfl rfl, ⟨by decide, by decide, by decide +kernel⟩⟩, GT_7 182 rfl rfl, GT_p6 8 rfl, by decide⟩
set_option maxRecDepth 100000 in
theorem cvX8_352 : CV RX8 352 yX8_times cX8_times 6 (some .long) 2 8 := ⟨⟨GT_7 189 rfl rfl, GT_7 186 rfl rfl, GT_1 13 rfl rfl, ⟨by decide, by decide, by decide +kernel⟩⟩, GT_7 188 rfl rfl, GT_p6 9 rfl, by decide⟩
set_option maxRecDepth 100000 in
theorem cvX8_360 : CV RX8 360 yX8_atFirst cX8_atFirst 3 none 1 8 := ⟨⟨GT_5 204 rfl rfl, GT_5 201 rfl rfl, GT_1 13 rfl rfl, ⟨by decide, by decide, by decide +kernel⟩⟩, GT_5 203 rfl rfl, GT_p4 2 rfl, by decide⟩
set_option maxRecDepth 100000 in
theorem cvX8_370 : CV RX8 370 yX8_plainTried cX8_plainTried 1 none 0 8 := ⟨⟨GT_5 208 rfl rfl, GT_5 205 rfl rfl, GT_1 13 rfl rfl, ⟨by decide, by decide, by decide +kernel⟩⟩, GT_5 207 rfl rfl, GT_p4 3 rfl, by decide⟩
set_option maxRecDepth 100000 in
theorem cvX8_391 : CV RX8 391 yX8_layNames cX8_layNames 4 none 3 8 := ⟨⟨GT_7 167 rfl rfl, GT_7 164 rfl rfl, GT_1 13 rfl rfl, ⟨by decide, by decide, by decide +kernel⟩⟩, GT_7 166 rfl rfl, GT_p6 4 rfl, by decide⟩
set_option maxRecDepth 100000 in
theorem cvX8_394 : CV RX8 394 yX8_valueOf cX8_valueOf 6 (some .long) 1 8 := ⟨⟨GT_7 179 rfl rfl, GT_7 176 rfl rfl, GT_1 13 rfl rfl, ⟨by decide, by decide, by decide +kernel⟩⟩, GT_7 178 rfl rfl, GT_p6 7 rfl, by decide⟩
set_option maxRecDepth 100000 in
theorem cvX8_398 : CV RX8 398 yX8_lawOf cX8_lawOf 3 (some .long) 1 8 := ⟨⟨GT_7 175 rfl rfl, GT_7 172 rfl rfl, GT_1 13 rfl rfl, ⟨by decide, by decide, by decide +kernel⟩⟩, GT_7 174 rfl rfl, GT_p6 6 rfl, by decide⟩
set_option maxRecDepth 100000 in
theorem cvX8_401 : CV RX8 401 yX8_liesAt cX8_liesAt 3 (some .int) 2 8 := ⟨⟨GT_7 209 rfl rfl, GT_7 206 rfl rfl, GT_1 13 rfl rfl, ⟨by decide, by decide, by decide +kernel⟩⟩, GT_7 208 rfl rfl, GT_p6 11 rfl, by decide⟩
set_option maxRecDepth 100000 in
theorem cvX8_404 : CV RX8 404 yX8_boundLaw cX8_boundLaw 6 (some .int) 3 8 := ⟨⟨GT_7 171 rfl rfl, GT_7 168 rfl rfl, GT_1 13 rfl rfl, ⟨by decide, by decide, by decide +kernel⟩⟩, GT_7 170 rfl rfl, GT_p6 5 rfl, by decide⟩
set_option maxRecDepth 100000 in
theorem cvX8_408 : CV RX8 408 yX8_layField cX8_layField 3 none 2 8 := ⟨⟨GT_7 163 rfl rfl, GT_7 160 rfl rfl, GT_1 13 rfl rfl, ⟨by decide, by decide, by decide +kernel⟩⟩, GT_7 162 rfl rfl, GT_p6 3 rfl, by decide⟩
set_option maxRecDepth 100000 in
theorem cvX8_412 : CV RX8 412 yX8_worthOf cX8_worthOf 4 (some .int) 2 8 := ⟨⟨GT_7 159 rfl rfl, GT_7 156 rfl rfl, GT_1 13 rfl rfl, ⟨by decide, by decide, by decide +kernel⟩⟩, GT_7 158 rfl rfl, GT_p6 2 rfl, by decide⟩
set_option maxRecDepth 100000 in
theorem cvX8_415 : CV RX8 415 yX8_fieldFor cX8_fieldFor 5 (some .int) 2 8 := ⟨⟨GT_8 45 rfl rfl, GT_8 42 rfl rfl, GT_1 13 rfl rfl, ⟨by decide, by decide, by decide +kernel⟩⟩, GT_8 44 rfl rfl, GT_p7 8 rfl, by decide⟩
set_option maxRecDepth 100000 in
theorem cvX8_418 : CV RX8 418 yX8_sourceOf cX8_sourceOf 7 (some .int) 4 8 := ⟨⟨GT_7 200 rfl rfl, GT_7 197 rfl rfl, GT_1 13 rfl rfl, ⟨by decide, by decide, by decide +kernel⟩⟩, GT_7 199 rfl rfl, GT_p6 10 rfl, by decide⟩
set_option maxRecDepth 100000 in
theorem cvX8_422 : CV RX8 422 yX8_loadOf cX8_loadOf 5 (some .int) 3 8 := ⟨⟨GT_8 49 rfl rfl, GT_8 46 rfl rfl, GT_1 13 rfl rfl, ⟨by decide, by decide, by decide +kernel⟩⟩, GT_8 48 rfl rfl, GT_p7 9 rfl, by decide⟩
set_option maxRecDepth 100000 in
theorem cvX8_425 : CV RX8 425 yX8_lessAt cX8_lessAt 4 none 3 8 := ⟨⟨GT_8 37 rfl rfl, GT_8 34 rfl rfl, GT_1 13 rfl rfl, ⟨by decide, by decide, by decide +kernel⟩⟩, GT_8 36 rfl rfl, GT_p7 6 rfl, by decide⟩
set_option maxRecDepth 100000 in
theorem cvX8_428 : CV RX8 428 yX8_forkOf cX8_forkOf 4 (some .int) 3 8 := ⟨⟨GT_8 33 rfl rfl, GT_8 30 rfl rfl, GT_1 13 rfl rfl, ⟨by decide, by decide, by decide +kernel⟩⟩, GT_8 32 rfl rfl, GT_p7 5 rfl, by decide⟩
set_option maxRecDepth 100000 in
theorem cvX8_439 : CV RX8 439 yX8_number1 cX8_number1 2 (some .int) 1 8 := ⟨⟨GT_8 9 rfl rfl, GT_8 6 rfl rfl, GT_1 13 rfl rfl, ⟨by decide, by decide, by decide +kernel⟩⟩, GT_8 8 rfl rfl, GT_p7 0 rfl, by decide⟩
set_option maxRecDepth 100000 in
theorem cvX8_442 : CV RX8 442 yX8_allLies cX8_allLies 4 (some .int) 1 8 := ⟨⟨GT_8 25 rfl rfl, GT_8 22 rfl rfl, GT_1 13 rfl rfl, ⟨by decide, by decide, by decide +kernel⟩⟩, GT_8 24 rfl rfl, GT_p7 3 rfl, by decide⟩
set_option maxRecDepth 100000 in
theorem cvX8_445 : CV RX8 445 yX8_forks cX8_forks 6 none 3 8 := ⟨⟨GT_8 29 rfl rfl, GT_8 26 rfl rfl, GT_1 13 rfl rfl, ⟨by decide, by decide, by decide +kernel⟩⟩, GT_8 28 rfl rfl, GT_p7 4 rfl, by decide⟩
set_option maxRecDepth 100000 in
theorem cvX8_448 : CV RX8 448 yX8_carts cX8_carts 8 none 3 8 := ⟨⟨GT_8 41 rfl rfl, GT_8 38 rfl rfl, GT_1 13 rfl rfl, ⟨by decide, by decide, by decide +kernel⟩⟩, GT_8 40 rfl rfl, GT_p7 7 rfl, by decide⟩
set_option maxRecDepth 100000 in
theorem cvX8_450 : CV RX8 450 yX8_acts cX8_acts 5 none 3 8 := ⟨⟨GT_8 21 rfl rfl, GT_8 18 rfl rfl, GT_1 13 rfl rfl, ⟨by decide, by decide, by decide +kernel⟩⟩, GT_8 20 rfl rfl, GT_p7 2 rfl, by decide⟩
set_option maxRecDepth 100000 in
theorem cvX8_453 : CV RX8 453 yX8_ebbOf cX8_ebbOf 4 (some .int) 2 8 := ⟨⟨GT_8 53 rfl rfl, GT_8 50 rfl rfl, GT_1 13 rfl rfl, ⟨by decide, by decide, by decide +kernel⟩⟩, GT_8 52 rfl rfl, GT_p7 10 rfl, by decide⟩
set_option maxRecDepth 100000 in
theorem cvX8_456 : CV RX8 456 yX8_isStripe cX8_isStripe 2 (some .boolean) 1 8 := ⟨⟨GT_7 131 rfl rfl, GT_7 128 rfl rfl, GT_1 13 rfl rfl, ⟨by decide, by decide, by decide +kernel⟩⟩, GT_7 130 rfl rfl, GT_p5 13 rfl, by decide⟩
set_option maxRecDepth 100000 in
theorem cvX8_459 : CV RX8 459 yX8_fails cX8_fails 2 (some .int) 1 8 := ⟨⟨GT_7 135 rfl rfl, GT_7 132 rfl rfl, GT_1 13 rfl rfl, ⟨by decide, by decide, by decide +kernel⟩⟩, GT_7 134 rfl rfl, GT_p5 14 rfl, by decide⟩
set_option maxRecDepth 100000 in
theorem cvX8_462 : CV RX8 462 yX8_isCroft cX8_isCroft 2 (some .boolean) 1 8 := ⟨⟨GT_7 143 rfl rfl, GT_7 140 rfl rfl, GT_1 13 rfl rfl, ⟨by decide, by decide, by decide +kernel⟩⟩, GT_7 142 rfl rfl, GT_p5 15 rfl, by decide⟩
set_option maxRecDepth 100000 in
theorem cvX8_465 : CV RX8 465 yX8_lotsOf cX8_lotsOf 4 (some .int) 1 8 := ⟨⟨GT_7 147 rfl rfl, GT_7 144 rfl rfl, GT_1 13 rfl rfl, ⟨by decide, by decide, by decide +kernel⟩⟩, GT_7 146 rfl rfl, GT_p6 0 rfl, by decide⟩
set_option maxRecDepth 100000 in
theorem cvX8_468 : CV RX8 468 yX8_isField cX8_isField 2 (some .boolean) 1 8 := ⟨⟨GT_7 155 rfl rfl, GT_7 152 rfl rfl, GT_1 13 rfl rfl, ⟨by decide, by decide, by decide +kernel⟩⟩, GT_7 154 rfl rfl, GT_p6 1 rfl, by decide⟩
set_option maxRecDepth 100000 in
theorem cvX8_473 : CV RX8 473 yX8_remember cX8_remember 2 none 0 8 := ⟨⟨GT_7 217 rfl rfl, GT_7 214 rfl rfl, GT_1 13 rfl rfl, ⟨by decide, by decide, by decide +kernel⟩⟩, GT_7 216 rfl rfl, GT_p6 12 rfl, by decide⟩
set_option maxRecDepth 100000 in
theorem cvX8_476 : CV RX8 476 yX8_canLend cX8_canLend 3 (some .boolean) 2 8 := ⟨⟨GT_7 237 rfl rfl, GT_7 234 rfl rfl, GT_1 13 rfl rfl, ⟨by decide, by decide, by decide +kernel⟩⟩, GT_7 236 rfl rfl, GT_p6 14 rfl, by decide⟩
set_option maxRecDepth 100000 in
theorem cvX8_479 : CV RX8 479 yX8_gale cX8_gale 4 none 1 8 := ⟨⟨GT_8 5 rfl rfl, GT_8 2 rfl rfl, GT_1 13 rfl rfl, ⟨by decide, by decide, by decide +kernel⟩⟩, GT_8 4 rfl rfl, GT_p6 15 rfl, by decide⟩
set_option maxRecDepth 100000 in
theorem cvX8_482 : CV RX8 482 yX8_goOn cX8_goOn 5 none 2 8 := ⟨⟨GT_8 17 rfl rfl, GT_8 14 rfl rfl, GT_1 13 rfl rfl, ⟨by decide, by decide, by decide +kernel⟩⟩, GT_8 16 rfl rfl, GT_p7 1 rfl, by decide⟩
set_option maxRecDepth 100000 in
theorem cvX8_485 : CV RX8 485 yX8_layTried cX8_layTried 2 none 0 8 := ⟨⟨GT_8 65 rfl rfl, GT_8 62 rfl rfl, GT_1 13 rfl rfl, ⟨by decide, by decide, by decide +kernel⟩⟩, GT_8 64 rfl rfl, GT_p7 12 rfl, by decide⟩
set_option maxRecDepth 100000 in
theorem cvX8_488 : CV RX8 488 yX8_goTried cX8_goTried 4 none 2 8 := ⟨⟨GT_8 69 rfl rfl, GT_8 66 rfl rfl, GT_1 13 rfl rfl, ⟨by decide, by decide, by decide +kernel⟩⟩, GT_8 68 rfl rfl, GT_p7 13 rfl, by decide⟩
set_option maxRecDepth 100000 in
theorem cvX8_491 : CV RX8 491 yX8_layRule cX8_layRule 4 none 2 8 := ⟨⟨GT_8 61 rfl rfl, GT_8 58 rfl rfl, GT_1 13 rfl rfl, ⟨by decide, by decide, by decide +kernel⟩⟩, GT_8 60 rfl rfl, GT_p7 11 rfl, by decide⟩
set_option maxRecDepth 100000 in
theorem cvX8_494 : CV RX8 494 yX8_gotAll cX8_gotAll 4 (some .int) 1 8 := ⟨⟨GT_8 73 rfl rfl, GT_8 70 rfl rfl, GT_1 13 rfl rfl, ⟨by decide, by decide, by decide +kernel⟩⟩, GT_8 72 rfl rfl, GT_p7 14 rfl, by decide⟩
set_option maxRecDepth 100000 in
theorem cvX8_497 : CV RX8 497 yX8_gains cX8_gains 4 (some .int) 1 8 := ⟨⟨GT_8 77 rfl rfl, GT_8 74 rfl rfl, GT_1 13 rfl rfl, ⟨by decide, by decide, by decide +kernel⟩⟩, GT_8 76 rfl rfl, GT_p7 15 rfl, by decide⟩
set_option maxRecDepth 100000 in
theorem cvX8_510 : CV RX8 510 yX8_layPlan cX8_layPlan 6 none 2 8 := ⟨⟨GT_8 89 rfl rfl, GT_8 86 rfl rfl, GT_1 13 rfl rfl, ⟨by decide, by decide, by decide +kernel⟩⟩, GT_8 88 rfl rfl, GT_p8 0 rfl, by decide⟩
set_option maxRecDepth 100000 in
theorem cvX8_513 : CV RX8 513 yX8_areComing cX8_areComing 4 (some .boolean) 3 8 := ⟨⟨GT_8 107 rfl rfl, GT_8 104 rfl rfl, GT_1 13 rfl rfl, ⟨by decide, by decide, by decide +kernel⟩⟩, GT_8 106 rfl rfl, GT_p8 1 rfl, by decide⟩
set_option maxRecDepth 100000 in
theorem cvX8_516 : CV RX8 516 yX8_restAt cX8_restAt 9 (some .int) 4 8 := ⟨⟨GT_8 111 rfl rfl, GT_8 108 rfl rfl, GT_1 13 rfl rfl, ⟨by decide, by decide, by decide +kernel⟩⟩, GT_8 110 rfl rfl, GT_p8 2 rfl, by decide⟩
set_option maxRecDepth 100000 in
theorem cvX8_519 : CV RX8 519 yX8_unlikeLots cX8_unlikeLots 5 (some .int) 0 8 := ⟨⟨GT_8 123 rfl rfl, GT_8 120 rfl rfl, GT_1 13 rfl rfl, ⟨by decide, by decide, by decide +kernel⟩⟩, GT_8 122 rfl rfl, GT_p8 3 rfl, by decide⟩
set_option maxRecDepth 100000 in
theorem cvX8_522 : CV RX8 522 yX8_swaps cX8_swaps 4 none 2 8 := ⟨⟨GT_8 131 rfl rfl, GT_8 128 rfl rfl, GT_1 13 rfl rfl, ⟨by decide, by decide, by decide +kernel⟩⟩, GT_8 130 rfl rfl, GT_p8 4 rfl, by decide⟩
set_option maxRecDepth 100000 in
theorem cvX8_529 : CV RX8 529 yX8_unlikeForked cX8_unlikeForked 4 (some .int) 0 8 := ⟨⟨GT_8 147 rfl rfl, GT_8 144 rfl rfl, GT_1 13 rfl rfl, ⟨by decide, by decide, by decide +kernel⟩⟩, GT_8 146 rfl rfl, GT_p8 6 rfl, by decide⟩
set_option maxRecDepth 100000 in
theorem cvX8_532 : CV RX8 532 yX8_layTurns cX8_layTurns 6 none 1 8 := ⟨⟨GT_8 143 rfl rfl, GT_8 140 rfl rfl, GT_1 13 rfl rfl, ⟨by decide, by decide, by decide +kernel⟩⟩, GT_8 142 rfl rfl, GT_p8 5 rfl, by decide⟩
set_option maxRecDepth 100000 in
theorem cvX8_538 : CV RX8 538 yX8_noted cX8_noted 4 (some .int) 3 8 := ⟨⟨GT_8 167 rfl rfl, GT_8 164 rfl rfl, GT_1 13 rfl rfl, ⟨by decide, by decide, by decide +kernel⟩⟩, GT_8 166 rfl rfl, GT_p8 7 rfl, by decide⟩
set_option maxRecDepth 100000 in
theorem cvX8_541 : CV RX8 541 yX8_knownBy cX8_knownBy 1 (some .int) 0 8 := ⟨⟨GT_8 183 rfl rfl, GT_8 180 rfl rfl, GT_1 13 rfl rfl, ⟨by decide, by decide, by decide +kernel⟩⟩, GT_8 182 rfl rfl, GT_p8 8 rfl, by decide⟩
set_option maxRecDepth 100000 in
theorem cvX8_544 : CV RX8 544 yX8_isSo cX8_isSo 3 (some .boolean) 1 8 := ⟨⟨GT_8 187 rfl rfl, GT_8 184 rfl rfl, GT_1 13 rfl rfl, ⟨by decide, by decide, by decide +kernel⟩⟩, GT_8 186 rfl rfl, GT_p8 9 rfl, by decide⟩
set_option maxRecDepth 100000 in
theorem cvX8_547 : CV RX8 547 yX8_put cX8_put 4 none 2 8 := ⟨⟨GT_7 221 rfl rfl, GT_7 218 rfl rfl, GT_1 13 rfl rfl, ⟨by decide, by decide, by decide +kernel⟩⟩, GT_7 220 rfl rfl, GT_p6 13 rfl, by decide⟩
set_option maxRecDepth 100000 in
theorem cvX8_550 : CV RX8 550 yX8_take cX8_take 4 none 2 8 := ⟨⟨GT_8 203 rfl rfl, GT_8 200 rfl rfl, GT_1 13 rfl rfl, ⟨by decide, by decide, by decide +kernel⟩⟩, GT_8 202 rfl rfl, GT_p8 10 rfl, by decide⟩
set_option maxRecDepth 100000 in
theorem csX7_228 : CS RX7 228 yX7_isRule cX7_isRule 1 (some .boolean) 1 := ⟨⟨GT_4 48 rfl rfl, GT_4 46 rfl rfl, GT_1 1 rfl rfl, ⟨by decide, by decide, by decide +kernel⟩⟩, GT_4 47 rfl rfl⟩
set_option maxRecDepth 100000 in
theorem csX7_247 : CS RX7 247 yX7_isIn cX7_isIn 3 (some .boolean) 3 := ⟨⟨GT_4 127 rfl rfl, GT_4 125 rfl rfl, GT_1 1 rfl rfl, ⟨by decide, by decide, by decide +kernel⟩⟩, GT_4 126 rfl rfl⟩
set_option maxRecDepth 100000 in
theorem csX7_275 : CS RX7 275 yX7_power cX7_power 4 (some .int) 2 := ⟨⟨GT_4 162 rfl rfl, GT_4 160 rfl rfl, GT_1 1 rfl rfl, ⟨by decide, by decide, by decide +kernel⟩⟩, GT_4 161 rfl rfl⟩
set_option maxRecDepth 100000 in
theorem csX7_324 : CS RX7 324 yX7_spread cX7_spread 5 (some .int) 2 := ⟨⟨GT_4 204 rfl rfl, GT_4 235 rfl rfl, GT_1 1 rfl rfl, ⟨by decide, by decide, by decide +kernel⟩⟩, GT_4 203 rfl rfl⟩
set_option maxRecDepth 100000 in
theorem csX7_331 : CS RX7 331 yX7_commonDivisor cX7_commonDivisor 6 (some .int) 2 := ⟨⟨GT_5 6 rfl rfl, GT_5 4 rfl rfl, GT_1 1 rfl rfl, ⟨by decide, by decide, by decide +kernel⟩⟩, GT_5 5 rfl rfl⟩
set_option maxRecDepth 100000 in
theorem csX0_43 : CS RX0 43 yX0_joined cX0_joined 9 (some .long) 3 := ⟨⟨GT_3 239 rfl rfl, GT_3 237 rfl rfl, GT_1 11 rfl rfl, ⟨by decide, by decide, by decide +kernel⟩⟩, GT_3 238 rfl rfl⟩
set_option maxRecDepth 100000 in
theorem csX1_198 : CS RX1 198 yX1_joins cX1_joins 1 (some .boolean) 1 := ⟨⟨GT_3 155 rfl rfl, GT_3 153 rfl rfl, GT_1 7 rfl rfl, ⟨by decide, by decide, by decide +kernel⟩⟩, GT_3 154 rfl rfl⟩
set_option maxRecDepth 100000 in
theorem csX1_229 : CS RX1 229 yX1_bindingOf cX1_bindingOf 1 (some .int) 1 := ⟨⟨GT_3 158 rfl rfl, GT_3 156 rfl rfl, GT_1 7 rfl rfl, ⟨by decide, by decide, by decide +kernel⟩⟩, GT_3 157 rfl rfl⟩
set_option maxRecDepth 100000 in
theorem csX3_173 : CS RX3 173 yX3_putWithin cX3_putWithin 3 (some .int) 2 := ⟨⟨GT_4 5 rfl rfl, GT_4 3 rfl rfl, GT_1 12 rfl rfl, ⟨by decide, by decide, by decide +kernel⟩⟩, GT_4 4 rfl rfl⟩
set_option maxRecDepth 100000 in
theorem csX3_198 : CS RX3 198 yX3_sum cX3_sum 4 (some .int) 2 := ⟨⟨GT_4 100 rfl rfl, GT_4 98 rfl rfl, GT_1 12 rfl rfl, ⟨by decide, by decide, by decide +kernel⟩⟩, GT_4 99 rfl rfl⟩
set_option maxRecDepth 100000 in
theorem csX4_54 : CS RX4 54 yX4_isLetter cX4_isLetter 1 (some .boolean) 1 := ⟨⟨GT_3 47 rfl rfl, GT_3 45 rfl rfl, GT_1 2 rfl rfl, ⟨by decide, by decide, by decide +kernel⟩⟩, GT_3 46 rfl rfl⟩
set_option maxRecDepth 100000 in
theorem csX4_61 : CS RX4 61 yX4_isDigit cX4_isDigit 1 (some .boolean) 1 := ⟨⟨GT_3 54 rfl rfl, GT_3 52 rfl rfl, GT_1 2 rfl rfl, ⟨by decide, by decide, by decide +kernel⟩⟩, GT_3 53 rfl rfl⟩
set_option maxRecDepth 100000 in
theorem csX4_78 : CS RX4 78 yX4_isSign cX4_isSign 1 (some .boolean) 1 := ⟨⟨GT_3 66 rfl rfl, GT_3 64 rfl rfl, GT_1 2 rfl rfl, ⟨by decide, by decide, by decide +kernel⟩⟩, GT_3 65 rfl rfl⟩
set_option maxRecDepth 100000 in
theorem csX8_208 : CS RX8 208 yX8_isIn cX8_isIn 3 (some .boolean) 3 := ⟨⟨GT_7 45 rfl rfl, GT_7 43 rfl rfl, GT_1 13 rfl rfl, ⟨by decide, by decide, by decide +kernel⟩⟩, GT_7 44 rfl rfl⟩
set_option maxRecDepth 100000 in
theorem csX8_258 : CS RX8 258 yX8_copies cX8_copies 3 none 2 := ⟨⟨GT_5 196 rfl rfl, GT_5 194 rfl rfl, GT_1 13 rfl rfl, ⟨by decide, by decide, by decide +kernel⟩⟩, GT_5 195 rfl rfl⟩
set_option maxRecDepth 100000 in
theorem csX8_265 : CS RX8 265 yX8_find cX8_find 5 (some .int) 4 := ⟨⟨GT_7 52 rfl rfl, GT_7 50 rfl rfl, GT_1 13 rfl rfl, ⟨by decide, by decide, by decide +kernel⟩⟩, GT_7 51 rfl rfl⟩
set_option maxRecDepth 100000 in
theorem csX8_297 : CS RX8 297 yX8_rank cX8_rank 1 (some .int) 1 := ⟨⟨GT_7 103 rfl rfl, GT_7 101 rfl rfl, GT_1 13 rfl rfl, ⟨by decide, by decide, by decide +kernel⟩⟩, GT_7 102 rfl rfl⟩
set_option maxRecDepth 100000 in
theorem csX8_356 : CS RX8 356 yX8_compares cX8_compares 5 (some .boolean) 3 := ⟨⟨GT_7 192 rfl rfl, GT_7 190 rfl rfl, GT_1 13 rfl rfl, ⟨by decide, by decide, by decide +kernel⟩⟩, GT_7 191 rfl rfl⟩
set_option maxRecDepth 100000 in
theorem csX8_500 : CS RX8 500 yX8_powerOf cX8_powerOf 4 (some .int) 2 := ⟨⟨GT_8 92 rfl rfl, GT_8 90 rfl rfl, GT_1 13 rfl rfl, ⟨by decide, by decide, by decide +kernel⟩⟩, GT_8 91 rfl rfl⟩
set_option maxRecDepth 100000 in
theorem csX8_506 : CS RX8 506 yX8_digitOf cX8_digitOf 4 (some .int) 4 := ⟨⟨GT_8 95 rfl rfl, GT_8 93 rfl rfl, GT_1 13 rfl rfl, ⟨by decide, by decide, by decide +kernel⟩⟩, GT_8 94 rfl rfl⟩
set_option maxRecDepth 100000 in
theorem csX8_535 : CS RX8 535 yX8_common cX8_common 5 (some .int) 2 := ⟨⟨GT_8 159 rfl rfl, GT_8 157 rfl rfl, GT_1 13 rfl rfl, ⟨by decide, by decide, by decide +kernel⟩⟩, GT_8 158 rfl rfl⟩
set_option maxRecDepth 100000 in
theorem cnX3_193 : CN RX3 193 yX7_spread "WeedStrand" cX7_spread 5 (some .int) 2 := ⟨GT_4 204 rfl rfl, LW_4 202 rfl, GT_1 1 rfl rfl, ⟨by decide, by decide, by decide +kernel⟩, GT_4 203 rfl rfl⟩
set_option maxRecDepth 100000 in
theorem ws_copy : Cond.native arraycopyName ∈ GT ∧ Cond.static arraycopyName ∈ GT ∧ Cond.initialized "java/lang/System" ∈ GT := ⟨GT_3 189 rfl rfl, GT_3 188 rfl rfl, GT_1 15 rfl rfl⟩
set_option maxRecDepth 100000 in
theorem ws_max : Cond.static Lib.Math.max.name ∈ GT ∧ Cond.initialized "java/lang/Math" ∈ GT ∧ Cond.code Lib.Math.max.name Lib.Math.max.code 2 (some .int) ∈ GT := ⟨GT_4 209 rfl rfl, GT_1 14 rfl rfl, GT_4 210 rfl rfl⟩
set_option maxRecDepth 100000 in
theorem ws_min : Cond.static Lib.Math.min.name ∈ GT ∧ Cond.initialized "java/lang/Math" ∈ GT ∧ Cond.code Lib.Math.min.name Lib.Math.min.code 2 (some .int) ∈ GT := ⟨GT_3 39 rfl rfl, GT_1 14 rfl rfl, GT_3 40 rfl rfl⟩
