theorem dX8_layTurns_0 : decode cX8_layTurns 0 = .ok (.aload_n 0, 1) := by decide +kernel
theorem dX8_layTurns_1 : decode cX8_layTurns 1 = .ok (.iconst (-1), 1) := by decide +kernel
theorem dX8_layTurns_2 : decode cX8_layTurns 2 = .ok (.putfield 526, 3) := by decide +kernel
theorem dX8_layTurns_5 : decode cX8_layTurns 5 = .ok (.iconst 0, 1) := by decide +kernel
theorem dX8_layTurns_6 : decode cX8_layTurns 6 = .ok (.istore_n 2, 1) := by decide +kernel
theorem dX8_layTurns_7 : decode cX8_layTurns 7 = .ok (.iconst 0, 1) := by decide +kernel
theorem dX8_layTurns_8 : decode cX8_layTurns 8 = .ok (.istore_n 3, 1) := by decide +kernel
theorem dX8_layTurns_9 : decode cX8_layTurns 9 = .ok (.iload_n 3, 1) := by decide +kernel
theorem dX8_layTurns_10 : decode cX8_layTurns 10 = .ok (.aload_n 0, 1) := by decide +kernel
theorem dX8_layTurns_11 : decode cX8_layTurns 11 = .ok (.getfield 246, 3) := by decide +kernel
theorem dX8_layTurns_14 : decode cX8_layTurns 14 = .ok (.iload_n 1, 1) := by decide +kernel
theorem dX8_layTurns_15 : decode cX8_layTurns 15 = .ok (.invokestatic 500, 3) := by decide +kernel
theorem dX8_layTurns_18 : decode cX8_layTurns 18 = .ok (.if_icmp .ge 184, 3) := by decide +kernel
theorem dX8_layTurns_21 : decode cX8_layTurns 21 = .ok (.aload_n 0, 1) := by decide +kernel
theorem dX8_layTurns_22 : decode cX8_layTurns 22 = .ok (.invokevirtual 485, 3) := by decide +kernel
theorem dX8_layTurns_25 : decode cX8_layTurns 25 = .ok (.aload_n 0, 1) := by decide +kernel
theorem dX8_layTurns_26 : decode cX8_layTurns 26 = .ok (.iconst 1, 1) := by decide +kernel
theorem dX8_layTurns_27 : decode cX8_layTurns 27 = .ok (.putfield 388, 3) := by decide +kernel
theorem dX8_layTurns_30 : decode cX8_layTurns 30 = .ok (.iconst 0, 1) := by decide +kernel
theorem dX8_layTurns_31 : decode cX8_layTurns 31 = .ok (.istore 4, 2) := by decide +kernel
theorem dX8_layTurns_33 : decode cX8_layTurns 33 = .ok (.iload 4, 2) := by decide +kernel
theorem dX8_layTurns_35 : decode cX8_layTurns 35 = .ok (.iload_n 1, 1) := by decide +kernel
theorem dX8_layTurns_36 : decode cX8_layTurns 36 = .ok (.if_icmp .ge 66, 3) := by decide +kernel
theorem dX8_layTurns_39 : decode cX8_layTurns 39 = .ok (.iconst 0, 1) := by decide +kernel
theorem dX8_layTurns_40 : decode cX8_layTurns 40 = .ok (.istore 5, 2) := by decide +kernel
theorem dX8_layTurns_42 : decode cX8_layTurns 42 = .ok (.iload 5, 2) := by decide +kernel
theorem dX8_layTurns_44 : decode cX8_layTurns 44 = .ok (.aload_n 0, 1) := by decide +kernel
theorem dX8_layTurns_45 : decode cX8_layTurns 45 = .ok (.getfield 246, 3) := by decide +kernel
theorem dX8_layTurns_48 : decode cX8_layTurns 48 = .ok (.if_icmp .ge 39, 3) := by decide +kernel
theorem dX8_layTurns_51 : decode cX8_layTurns 51 = .ok (.aload_n 0, 1) := by decide +kernel
theorem dX8_layTurns_52 : decode cX8_layTurns 52 = .ok (.getfield 97, 3) := by decide +kernel
theorem dX8_layTurns_55 : decode cX8_layTurns 55 = .ok (.iconst 4, 1) := by decide +kernel
theorem dX8_layTurns_56 : decode cX8_layTurns 56 = .ok (.iload 5, 2) := by decide +kernel
theorem dX8_layTurns_58 : decode cX8_layTurns 58 = .ok (.iadd, 1) := by decide +kernel
theorem dX8_layTurns_59 : decode cX8_layTurns 59 = .ok (.iload 5, 2) := by decide +kernel
theorem dX8_layTurns_61 : decode cX8_layTurns 61 = .ok (.iload_n 3, 1) := by decide +kernel
theorem dX8_layTurns_62 : decode cX8_layTurns 62 = .ok (.aload_n 0, 1) := by decide +kernel
theorem dX8_layTurns_63 : decode cX8_layTurns 63 = .ok (.getfield 246, 3) := by decide +kernel
theorem dX8_layTurns_66 : decode cX8_layTurns 66 = .ok (.iload_n 1, 1) := by decide +kernel
theorem dX8_layTurns_67 : decode cX8_layTurns 67 = .ok (.iload 4, 2) := by decide +kernel
theorem dX8_layTurns_69 : decode cX8_layTurns 69 = .ok (.invokestatic 506, 3) := by decide +kernel
theorem dX8_layTurns_72 : decode cX8_layTurns 72 = .ok (.if_icmp .ne 7, 3) := by decide +kernel
theorem dX8_layTurns_75 : decode cX8_layTurns 75 = .ok (.iconst 2, 1) := by decide +kernel
theorem dX8_layTurns_76 : decode cX8_layTurns 76 = .ok (.goto 4, 3) := by decide +kernel
theorem dX8_layTurns_79 : decode cX8_layTurns 79 = .ok (.iconst 3, 1) := by decide +kernel
theorem dX8_layTurns_80 : decode cX8_layTurns 80 = .ok (.iastore, 1) := by decide +kernel
theorem dX8_layTurns_81 : decode cX8_layTurns 81 = .ok (.iinc 5 1, 3) := by decide +kernel
theorem dX8_layTurns_84 : decode cX8_layTurns 84 = .ok (.goto (-42), 3) := by decide +kernel
theorem dX8_layTurns_87 : decode cX8_layTurns 87 = .ok (.aload_n 0, 1) := by decide +kernel
theorem dX8_layTurns_88 : decode cX8_layTurns 88 = .ok (.iconst 1, 1) := by decide +kernel
theorem dX8_layTurns_89 : decode cX8_layTurns 89 = .ok (.aload_n 0, 1) := by decide +kernel
theorem dX8_layTurns_90 : decode cX8_layTurns 90 = .ok (.getfield 363, 3) := by decide +kernel
theorem dX8_layTurns_93 : decode cX8_layTurns 93 = .ok (.invokevirtual 482, 3) := by decide +kernel
theorem dX8_layTurns_96 : decode cX8_layTurns 96 = .ok (.iinc 4 1, 3) := by decide +kernel
theorem dX8_layTurns_99 : decode cX8_layTurns 99 = .ok (.goto (-66), 3) := by decide +kernel
theorem dX8_layTurns_102 : decode cX8_layTurns 102 = .ok (.aload_n 0, 1) := by decide +kernel
theorem dX8_layTurns_103 : decode cX8_layTurns 103 = .ok (.invokevirtual 529, 3) := by decide +kernel
theorem dX8_layTurns_106 : decode cX8_layTurns 106 = .ok (.istore 4, 2) := by decide +kernel
theorem dX8_layTurns_108 : decode cX8_layTurns 108 = .ok (.aload_n 0, 1) := by decide +kernel
theorem dX8_layTurns_109 : decode cX8_layTurns 109 = .ok (.getfield 526, 3) := by decide +kernel
theorem dX8_layTurns_112 : decode cX8_layTurns 112 = .ok (.ifCond .lt 38, 3) := by decide +kernel
theorem dX8_layTurns_115 : decode cX8_layTurns 115 = .ok (.aload_n 0, 1) := by decide +kernel
theorem dX8_layTurns_116 : decode cX8_layTurns 116 = .ok (.getfield 109, 3) := by decide +kernel
theorem dX8_layTurns_119 : decode cX8_layTurns 119 = .ok (.iconst 1, 1) := by decide +kernel
theorem dX8_layTurns_120 : decode cX8_layTurns 120 = .ok (.iaload, 1) := by decide +kernel
theorem dX8_layTurns_121 : decode cX8_layTurns 121 = .ok (.aload_n 0, 1) := by decide +kernel
theorem dX8_layTurns_122 : decode cX8_layTurns 122 = .ok (.getfield 526, 3) := by decide +kernel
theorem dX8_layTurns_125 : decode cX8_layTurns 125 = .ok (.if_icmp .lt 71, 3) := by decide +kernel
theorem dX8_layTurns_128 : decode cX8_layTurns 128 = .ok (.aload_n 0, 1) := by decide +kernel
theorem dX8_layTurns_129 : decode cX8_layTurns 129 = .ok (.getfield 109, 3) := by decide +kernel
theorem dX8_layTurns_132 : decode cX8_layTurns 132 = .ok (.iconst 1, 1) := by decide +kernel
theorem dX8_layTurns_133 : decode cX8_layTurns 133 = .ok (.iaload, 1) := by decide +kernel
theorem dX8_layTurns_134 : decode cX8_layTurns 134 = .ok (.aload_n 0, 1) := by decide +kernel
theorem dX8_layTurns_135 : decode cX8_layTurns 135 = .ok (.getfield 526, 3) := by decide +kernel
theorem dX8_layTurns_138 : decode cX8_layTurns 138 = .ok (.if_icmp .ne 12, 3) := by decide +kernel
theorem dX8_layTurns_141 : decode cX8_layTurns 141 = .ok (.iload 4, 2) := by decide +kernel
theorem dX8_layTurns_143 : decode cX8_layTurns 143 = .ok (.iload_n 2, 1) := by decide +kernel
theorem dX8_layTurns_144 : decode cX8_layTurns 144 = .ok (.if_icmp .lt 6, 3) := by decide +kernel
theorem dX8_layTurns_147 : decode cX8_layTurns 147 = .ok (.goto 49, 3) := by decide +kernel
theorem dX8_layTurns_150 : decode cX8_layTurns 150 = .ok (.aload_n 0, 1) := by decide +kernel
theorem dX8_layTurns_151 : decode cX8_layTurns 151 = .ok (.aload_n 0, 1) := by decide +kernel
theorem dX8_layTurns_152 : decode cX8_layTurns 152 = .ok (.getfield 109, 3) := by decide +kernel
theorem dX8_layTurns_155 : decode cX8_layTurns 155 = .ok (.iconst 1, 1) := by decide +kernel
theorem dX8_layTurns_156 : decode cX8_layTurns 156 = .ok (.iaload, 1) := by decide +kernel
theorem dX8_layTurns_157 : decode cX8_layTurns 157 = .ok (.putfield 526, 3) := by decide +kernel
theorem dX8_layTurns_160 : decode cX8_layTurns 160 = .ok (.iload 4, 2) := by decide +kernel
theorem dX8_layTurns_162 : decode cX8_layTurns 162 = .ok (.istore_n 2, 1) := by decide +kernel
theorem dX8_layTurns_163 : decode cX8_layTurns 163 = .ok (.iconst 0, 1) := by decide +kernel
theorem dX8_layTurns_164 : decode cX8_layTurns 164 = .ok (.istore 5, 2) := by decide +kernel
theorem dX8_layTurns_166 : decode cX8_layTurns 166 = .ok (.iload 5, 2) := by decide +kernel
theorem dX8_layTurns_168 : decode cX8_layTurns 168 = .ok (.iload_n 1, 1) := by decide +kernel
theorem dX8_layTurns_169 : decode cX8_layTurns 169 = .ok (.if_icmp .ge 27, 3) := by decide +kernel
theorem dX8_layTurns_172 : decode cX8_layTurns 172 = .ok (.aload_n 0, 1) := by decide +kernel
theorem dX8_layTurns_173 : decode cX8_layTurns 173 = .ok (.getfield 121, 3) := by decide +kernel
theorem dX8_layTurns_176 : decode cX8_layTurns 176 = .ok (.iload 5, 2) := by decide +kernel
theorem dX8_layTurns_178 : decode cX8_layTurns 178 = .ok (.iload_n 3, 1) := by decide +kernel
theorem dX8_layTurns_179 : decode cX8_layTurns 179 = .ok (.aload_n 0, 1) := by decide +kernel
theorem dX8_layTurns_180 : decode cX8_layTurns 180 = .ok (.getfield 246, 3) := by decide +kernel
theorem dX8_layTurns_183 : decode cX8_layTurns 183 = .ok (.iload_n 1, 1) := by decide +kernel
theorem dX8_layTurns_184 : decode cX8_layTurns 184 = .ok (.iload 5, 2) := by decide +kernel
theorem dX8_layTurns_186 : decode cX8_layTurns 186 = .ok (.invokestatic 506, 3) := by decide +kernel
theorem dX8_layTurns_189 : decode cX8_layTurns 189 = .ok (.iastore, 1) := by decide +kernel
theorem dX8_layTurns_190 : decode cX8_layTurns 190 = .ok (.iinc 5 1, 3) := by decide +kernel
theorem dX8_layTurns_193 : decode cX8_layTurns 193 = .ok (.goto (-27), 3) := by decide +kernel
theorem dX8_layTurns_196 : decode cX8_layTurns 196 = .ok (.iinc 3 1, 3) := by decide +kernel
theorem dX8_layTurns_199 : decode cX8_layTurns 199 = .ok (.goto (-190), 3) := by decide +kernel
theorem dX8_layTurns_202 : decode cX8_layTurns 202 = .ok (.return_, 1) := by decide +kernel
theorem dX8_turns_0 : decode cX8_turns 0 = .ok (.aload_n 0, 1) := by decide +kernel
theorem dX8_turns_1 : decode cX8_turns 1 = .ok (.iconst 0, 1) := by decide +kernel
theorem dX8_turns_2 : decode cX8_turns 2 = .ok (.putfield 163, 3) := by decide +kernel
theorem dX8_turns_5 : decode cX8_turns 5 = .ok (.iload_n 1, 1) := by decide +kernel
theorem dX8_turns_6 : decode cX8_turns 6 = .ok (.iconst 1, 1) := by decide +kernel
theorem dX8_turns_7 : decode cX8_turns 7 = .ok (.iconst 4, 1) := by decide +kernel
theorem dX8_turns_8 : decode cX8_turns 8 = .ok (.invokestatic 208, 3) := by decide +kernel
theorem dX8_turns_11 : decode cX8_turns 11 = .ok (.ifCond .eq 10, 3) := by decide +kernel
theorem dX8_turns_14 : decode cX8_turns 14 = .ok (.aload_n 0, 1) := by decide +kernel
theorem dX8_turns_15 : decode cX8_turns 15 = .ok (.getfield 246, 3) := by decide +kernel
theorem dX8_turns_18 : decode cX8_turns 18 = .ok (.ifCond .ne 5, 3) := by decide +kernel
theorem dX8_turns_21 : decode cX8_turns 21 = .ok (.iconst (-1), 1) := by decide +kernel
theorem dX8_turns_22 : decode cX8_turns 22 = .ok (.ireturn, 1) := by decide +kernel
theorem dX8_turns_23 : decode cX8_turns 23 = .ok (.aload_n 0, 1) := by decide +kernel
theorem dX8_turns_24 : decode cX8_turns 24 = .ok (.iload_n 1, 1) := by decide +kernel
theorem dX8_turns_25 : decode cX8_turns 25 = .ok (.invokevirtual 532, 3) := by decide +kernel
theorem dX8_turns_28 : decode cX8_turns 28 = .ok (.aload_n 0, 1) := by decide +kernel
theorem dX8_turns_29 : decode cX8_turns 29 = .ok (.getfield 526, 3) := by decide +kernel
theorem dX8_turns_32 : decode cX8_turns 32 = .ok (.ireturn, 1) := by decide +kernel
theorem dX8_turn_0 : decode cX8_turn 0 = .ok (.aload_n 0, 1) := by decide +kernel
theorem dX8_turn_1 : decode cX8_turn 1 = .ok (.iconst 0, 1) := by decide +kernel
theorem dX8_turn_2 : decode cX8_turn 2 = .ok (.putfield 163, 3) := by decide +kernel
theorem dX8_turn_5 : decode cX8_turn 5 = .ok (.iload_n 1, 1) := by decide +kernel
theorem dX8_turn_6 : decode cX8_turn 6 = .ok (.iconst 1, 1) := by decide +kernel
theorem dX8_turn_7 : decode cX8_turn 7 = .ok (.iconst 4, 1) := by decide +kernel
theorem dX8_turn_8 : decode cX8_turn 8 = .ok (.invokestatic 208, 3) := by decide +kernel
theorem dX8_turn_11 : decode cX8_turn 11 = .ok (.ifCond .eq 14, 3) := by decide +kernel
theorem dX8_turn_14 : decode cX8_turn 14 = .ok (.aload_n 0, 1) := by decide +kernel
theorem dX8_turn_15 : decode cX8_turn 15 = .ok (.getfield 246, 3) := by decide +kernel
theorem dX8_turn_18 : decode cX8_turn 18 = .ok (.ifCond .eq 7, 3) := by decide +kernel
theorem dX8_turn_21 : decode cX8_turn 21 = .ok (.iload_n 2, 1) := by decide +kernel
theorem dX8_turn_22 : decode cX8_turn 22 = .ok (.ifCond .ge 5, 3) := by decide +kernel
theorem dX8_turn_25 : decode cX8_turn 25 = .ok (.iconst (-1), 1) := by decide +kernel
theorem dX8_turn_26 : decode cX8_turn 26 = .ok (.ireturn, 1) := by decide +kernel
theorem dX8_turn_27 : decode cX8_turn 27 = .ok (.iload_n 2, 1) := by decide +kernel
theorem dX8_turn_28 : decode cX8_turn 28 = .ok (.iload_n 1, 1) := by decide +kernel
theorem dX8_turn_29 : decode cX8_turn 29 = .ok (.if_icmp .lt 6, 3) := by decide +kernel
theorem dX8_turn_32 : decode cX8_turn 32 = .ok (.bipush (-2), 2) := by decide +kernel
theorem dX8_turn_34 : decode cX8_turn 34 = .ok (.ireturn, 1) := by decide +kernel
theorem dX8_turn_35 : decode cX8_turn 35 = .ok (.aload_n 0, 1) := by decide +kernel
theorem dX8_turn_36 : decode cX8_turn 36 = .ok (.iload_n 1, 1) := by decide +kernel
theorem dX8_turn_37 : decode cX8_turn 37 = .ok (.invokevirtual 532, 3) := by decide +kernel
theorem dX8_turn_40 : decode cX8_turn 40 = .ok (.aload_n 0, 1) := by decide +kernel
theorem dX8_turn_41 : decode cX8_turn 41 = .ok (.getfield 121, 3) := by decide +kernel
theorem dX8_turn_44 : decode cX8_turn 44 = .ok (.iload_n 2, 1) := by decide +kernel
theorem dX8_turn_45 : decode cX8_turn 45 = .ok (.iaload, 1) := by decide +kernel
theorem dX8_turn_46 : decode cX8_turn 46 = .ok (.ireturn, 1) := by decide +kernel
theorem dX8_common_0 : decode cX8_common 0 = .ok (.iload_n 0, 1) := by decide +kernel
theorem dX8_common_1 : decode cX8_common 1 = .ok (.istore_n 2, 1) := by decide +kernel
theorem dX8_common_2 : decode cX8_common 2 = .ok (.iload_n 1, 1) := by decide +kernel
theorem dX8_common_3 : decode cX8_common 3 = .ok (.istore_n 3, 1) := by decide +kernel
theorem dX8_common_4 : decode cX8_common 4 = .ok (.iload_n 3, 1) := by decide +kernel
theorem dX8_common_5 : decode cX8_common 5 = .ok (.ifCond .eq 16, 3) := by decide +kernel
theorem dX8_common_8 : decode cX8_common 8 = .ok (.iload_n 2, 1) := by decide +kernel
theorem dX8_common_9 : decode cX8_common 9 = .ok (.iload_n 3, 1) := by decide +kernel
theorem dX8_common_10 : decode cX8_common 10 = .ok (.irem, 1) := by decide +kernel
theorem dX8_common_11 : decode cX8_common 11 = .ok (.istore 4, 2) := by decide +kernel
theorem dX8_common_13 : decode cX8_common 13 = .ok (.iload_n 3, 1) := by decide +kernel
theorem dX8_common_14 : decode cX8_common 14 = .ok (.istore_n 2, 1) := by decide +kernel
theorem dX8_common_15 : decode cX8_common 15 = .ok (.iload 4, 2) := by decide +kernel
theorem dX8_common_17 : decode cX8_common 17 = .ok (.istore_n 3, 1) := by decide +kernel
theorem dX8_common_18 : decode cX8_common 18 = .ok (.goto (-14), 3) := by decide +kernel
theorem dX8_common_21 : decode cX8_common 21 = .ok (.iload_n 2, 1) := by decide +kernel
theorem dX8_common_22 : decode cX8_common 22 = .ok (.ireturn, 1) := by decide +kernel
theorem dX8_odds_0 : decode cX8_odds 0 = .ok (.aload_n 0, 1) := by decide +kernel
theorem dX8_odds_1 : decode cX8_odds 1 = .ok (.iconst 0, 1) := by decide +kernel
theorem dX8_odds_2 : decode cX8_odds 2 = .ok (.putfield 163, 3) := by decide +kernel
theorem dX8_odds_5 : decode cX8_odds 5 = .ok (.iload_n 1, 1) := by decide +kernel
theorem dX8_odds_6 : decode cX8_odds 6 = .ok (.iconst 1, 1) := by decide +kernel
theorem dX8_odds_7 : decode cX8_odds 7 = .ok (.iconst 4, 1) := by decide +kernel
theorem dX8_odds_8 : decode cX8_odds 8 = .ok (.invokestatic 208, 3) := by decide +kernel
theorem dX8_odds_11 : decode cX8_odds 11 = .ok (.ifCond .eq 12, 3) := by decide +kernel
theorem dX8_odds_14 : decode cX8_odds 14 = .ok (.iload_n 2, 1) := by decide +kernel
theorem dX8_odds_15 : decode cX8_odds 15 = .ok (.iconst 0, 1) := by decide +kernel
theorem dX8_odds_16 : decode cX8_odds 16 = .ok (.iconst 1, 1) := by decide +kernel
theorem dX8_odds_17 : decode cX8_odds 17 = .ok (.invokestatic 208, 3) := by decide +kernel
theorem dX8_odds_20 : decode cX8_odds 20 = .ok (.ifCond .ne 5, 3) := by decide +kernel
theorem dX8_odds_23 : decode cX8_odds 23 = .ok (.iconst (-1), 1) := by decide +kernel
theorem dX8_odds_24 : decode cX8_odds 24 = .ok (.ireturn, 1) := by decide +kernel
theorem dX8_odds_25 : decode cX8_odds 25 = .ok (.bipush 100, 2) := by decide +kernel
theorem dX8_odds_27 : decode cX8_odds 27 = .ok (.iload_n 1, 1) := by decide +kernel
theorem dX8_odds_28 : decode cX8_odds 28 = .ok (.invokestatic 500, 3) := by decide +kernel
theorem dX8_odds_31 : decode cX8_odds 31 = .ok (.istore_n 3, 1) := by decide +kernel
theorem dX8_odds_32 : decode cX8_odds 32 = .ok (.iload_n 3, 1) := by decide +kernel
theorem dX8_odds_33 : decode cX8_odds 33 = .ok (.bipush 100, 2) := by decide +kernel
theorem dX8_odds_35 : decode cX8_odds 35 = .ok (.aload_n 0, 1) := by decide +kernel
theorem dX8_odds_36 : decode cX8_odds 36 = .ok (.getfield 24, 3) := by decide +kernel
theorem dX8_odds_39 : decode cX8_odds 39 = .ok (.iconst 2, 1) := by decide +kernel
theorem dX8_odds_40 : decode cX8_odds 40 = .ok (.iaload, 1) := by decide +kernel
theorem dX8_odds_41 : decode cX8_odds 41 = .ok (.isub, 1) := by decide +kernel
theorem dX8_odds_42 : decode cX8_odds 42 = .ok (.iload_n 1, 1) := by decide +kernel
theorem dX8_odds_43 : decode cX8_odds 43 = .ok (.invokestatic 500, 3) := by decide +kernel
theorem dX8_odds_46 : decode cX8_odds 46 = .ok (.isub, 1) := by decide +kernel
theorem dX8_odds_47 : decode cX8_odds 47 = .ok (.istore 4, 2) := by decide +kernel
theorem dX8_odds_49 : decode cX8_odds 49 = .ok (.iload 4, 2) := by decide +kernel
theorem dX8_odds_51 : decode cX8_odds 51 = .ok (.iload_n 3, 1) := by decide +kernel
theorem dX8_odds_52 : decode cX8_odds 52 = .ok (.invokestatic 535, 3) := by decide +kernel
theorem dX8_odds_55 : decode cX8_odds 55 = .ok (.istore 5, 2) := by decide +kernel
theorem dX8_odds_57 : decode cX8_odds 57 = .ok (.iload_n 2, 1) := by decide +kernel
theorem dX8_odds_58 : decode cX8_odds 58 = .ok (.ifCond .ne 8, 3) := by decide +kernel
theorem dX8_odds_61 : decode cX8_odds 61 = .ok (.iload 4, 2) := by decide +kernel
theorem dX8_odds_63 : decode cX8_odds 63 = .ok (.goto 4, 3) := by decide +kernel
theorem dX8_odds_66 : decode cX8_odds 66 = .ok (.iload_n 3, 1) := by decide +kernel
theorem dX8_odds_67 : decode cX8_odds 67 = .ok (.iload 5, 2) := by decide +kernel
theorem dX8_odds_69 : decode cX8_odds 69 = .ok (.idiv, 1) := by decide +kernel
theorem dX8_odds_70 : decode cX8_odds 70 = .ok (.ireturn, 1) := by decide +kernel
theorem dX8_noted_0 : decode cX8_noted 0 = .ok (.aload_n 0, 1) := by decide +kernel
theorem dX8_noted_1 : decode cX8_noted 1 = .ok (.getfield 133, 3) := by decide +kernel
theorem dX8_noted_4 : decode cX8_noted 4 = .ok (.iconst 3, 1) := by decide +kernel
theorem dX8_noted_5 : decode cX8_noted 5 = .ok (.aload_n 0, 1) := by decide +kernel
theorem dX8_noted_6 : decode cX8_noted 6 = .ok (.getfield 373, 3) := by decide +kernel
theorem dX8_noted_9 : decode cX8_noted 9 = .ok (.imul, 1) := by decide +kernel
theorem dX8_noted_10 : decode cX8_noted 10 = .ok (.iload_n 1, 1) := by decide +kernel
theorem dX8_noted_11 : decode cX8_noted 11 = .ok (.iastore, 1) := by decide +kernel
theorem dX8_noted_12 : decode cX8_noted 12 = .ok (.aload_n 0, 1) := by decide +kernel
theorem dX8_noted_13 : decode cX8_noted 13 = .ok (.getfield 133, 3) := by decide +kernel
theorem dX8_noted_16 : decode cX8_noted 16 = .ok (.iconst 3, 1) := by decide +kernel
theorem dX8_noted_17 : decode cX8_noted 17 = .ok (.aload_n 0, 1) := by decide +kernel
theorem dX8_noted_18 : decode cX8_noted 18 = .ok (.getfield 373, 3) := by decide +kernel
theorem dX8_noted_21 : decode cX8_noted 21 = .ok (.imul, 1) := by decide +kernel
theorem dX8_noted_22 : decode cX8_noted 22 = .ok (.iconst 1, 1) := by decide +kernel
theorem dX8_noted_23 : decode cX8_noted 23 = .ok (.iadd, 1) := by decide +kernel
theorem dX8_noted_24 : decode cX8_noted 24 = .ok (.iload_n 2, 1) := by decide +kernel
theorem dX8_noted_25 : decode cX8_noted 25 = .ok (.iastore, 1) := by decide +kernel
theorem dX8_noted_26 : decode cX8_noted 26 = .ok (.aload_n 0, 1) := by decide +kernel
theorem dX8_noted_27 : decode cX8_noted 27 = .ok (.getfield 133, 3) := by decide +kernel
theorem dX8_noted_30 : decode cX8_noted 30 = .ok (.iconst 3, 1) := by decide +kernel
theorem dX8_noted_31 : decode cX8_noted 31 = .ok (.aload_n 0, 1) := by decide +kernel
theorem dX8_noted_32 : decode cX8_noted 32 = .ok (.getfield 373, 3) := by decide +kernel
theorem dX8_noted_35 : decode cX8_noted 35 = .ok (.imul, 1) := by decide +kernel
theorem dX8_noted_36 : decode cX8_noted 36 = .ok (.iconst 2, 1) := by decide +kernel
theorem dX8_noted_37 : decode cX8_noted 37 = .ok (.iadd, 1) := by decide +kernel
theorem dX8_noted_38 : decode cX8_noted 38 = .ok (.iload_n 3, 1) := by decide +kernel
theorem dX8_noted_39 : decode cX8_noted 39 = .ok (.iastore, 1) := by decide +kernel
theorem dX8_noted_40 : decode cX8_noted 40 = .ok (.aload_n 0, 1) := by decide +kernel
theorem dX8_noted_41 : decode cX8_noted 41 = .ok (.dup, 1) := by decide +kernel
theorem dX8_noted_42 : decode cX8_noted 42 = .ok (.getfield 373, 3) := by decide +kernel
theorem dX8_noted_45 : decode cX8_noted 45 = .ok (.iconst 1, 1) := by decide +kernel
theorem dX8_noted_46 : decode cX8_noted 46 = .ok (.iadd, 1) := by decide +kernel
theorem dX8_noted_47 : decode cX8_noted 47 = .ok (.putfield 373, 3) := by decide +kernel
theorem dX8_noted_50 : decode cX8_noted 50 = .ok (.aload_n 0, 1) := by decide +kernel
theorem dX8_noted_51 : decode cX8_noted 51 = .ok (.getfield 373, 3) := by decide +kernel
theorem dX8_noted_54 : decode cX8_noted 54 = .ok (.iconst 1, 1) := by decide +kernel
theorem dX8_noted_55 : decode cX8_noted 55 = .ok (.isub, 1) := by decide +kernel
theorem dX8_noted_56 : decode cX8_noted 56 = .ok (.ireturn, 1) := by decide +kernel
theorem dX8_see_0 : decode cX8_see 0 = .ok (.aload_n 0, 1) := by decide +kernel
theorem dX8_see_1 : decode cX8_see 1 = .ok (.iconst 0, 1) := by decide +kernel
theorem dX8_see_2 : decode cX8_see 2 = .ok (.putfield 163, 3) := by decide +kernel
theorem dX8_see_5 : decode cX8_see 5 = .ok (.aload_n 0, 1) := by decide +kernel
theorem dX8_see_6 : decode cX8_see 6 = .ok (.getfield 373, 3) := by decide +kernel
theorem dX8_see_9 : decode cX8_see 9 = .ok (.bipush 24, 2) := by decide +kernel
theorem dX8_see_11 : decode cX8_see 11 = .ok (.if_icmp .eq 24, 3) := by decide +kernel
theorem dX8_see_14 : decode cX8_see 14 = .ok (.iload_n 1, 1) := by decide +kernel
theorem dX8_see_15 : decode cX8_see 15 = .ok (.iconst 1, 1) := by decide +kernel
theorem dX8_see_16 : decode cX8_see 16 = .ok (.bipush 99, 2) := by decide +kernel
theorem dX8_see_18 : decode cX8_see 18 = .ok (.invokestatic 208, 3) := by decide +kernel
theorem dX8_see_21 : decode cX8_see 21 = .ok (.ifCond .eq 14, 3) := by decide +kernel
theorem dX8_see_24 : decode cX8_see 24 = .ok (.iload_n 2, 1) := by decide +kernel
theorem dX8_see_25 : decode cX8_see 25 = .ok (.iconst 0, 1) := by decide +kernel
theorem dX8_see_26 : decode cX8_see 26 = .ok (.sipush 9999, 3) := by decide +kernel
theorem dX8_see_29 : decode cX8_see 29 = .ok (.invokestatic 208, 3) := by decide +kernel
theorem dX8_see_32 : decode cX8_see 32 = .ok (.ifCond .ne 7, 3) := by decide +kernel
theorem dX8_see_35 : decode cX8_see 35 = .ok (.iconst (-1), 1) := by decide +kernel
theorem dX8_see_36 : decode cX8_see 36 = .ok (.goto 18, 3) := by decide +kernel
theorem dX8_see_39 : decode cX8_see 39 = .ok (.aload_n 0, 1) := by decide +kernel
theorem dX8_see_40 : decode cX8_see 40 = .ok (.iload_n 1, 1) := by decide +kernel
theorem dX8_see_41 : decode cX8_see 41 = .ok (.iload_n 2, 1) := by decide +kernel
theorem dX8_see_42 : decode cX8_see 42 = .ok (.iload_n 3, 1) := by decide +kernel
theorem dX8_see_43 : decode cX8_see 43 = .ok (.ifCond .eq 7, 3) := by decide +kernel
theorem dX8_see_46 : decode cX8_see 46 = .ok (.iconst 1, 1) := by decide +kernel
theorem dX8_see_47 : decode cX8_see 47 = .ok (.goto 4, 3) := by decide +kernel
theorem dX8_see_50 : decode cX8_see 50 = .ok (.iconst 0, 1) := by decide +kernel
theorem dX8_see_51 : decode cX8_see 51 = .ok (.invokevirtual 538, 3) := by decide +kernel
theorem dX8_see_54 : decode cX8_see 54 = .ok (.ireturn, 1) := by decide +kernel
theorem dX8_strike_0 : decode cX8_strike 0 = .ok (.aload_n 0, 1) := by decide +kernel
theorem dX8_strike_1 : decode cX8_strike 1 = .ok (.iconst 0, 1) := by decide +kernel
theorem dX8_strike_2 : decode cX8_strike 2 = .ok (.putfield 163, 3) := by decide +kernel
theorem dX8_strike_5 : decode cX8_strike 5 = .ok (.aload_n 0, 1) := by decide +kernel
theorem dX8_strike_6 : decode cX8_strike 6 = .ok (.getfield 373, 3) := by decide +kernel
theorem dX8_strike_9 : decode cX8_strike 9 = .ok (.bipush 24, 2) := by decide +kernel
theorem dX8_strike_11 : decode cX8_strike 11 = .ok (.if_icmp .eq 15, 3) := by decide +kernel
theorem dX8_strike_14 : decode cX8_strike 14 = .ok (.iload_n 1, 1) := by decide +kernel
theorem dX8_strike_15 : decode cX8_strike 15 = .ok (.ifCond .lt 11, 3) := by decide +kernel
theorem dX8_strike_18 : decode cX8_strike 18 = .ok (.iload_n 1, 1) := by decide +kernel
theorem dX8_strike_19 : decode cX8_strike 19 = .ok (.aload_n 0, 1) := by decide +kernel
theorem dX8_strike_20 : decode cX8_strike 20 = .ok (.getfield 373, 3) := by decide +kernel
theorem dX8_strike_23 : decode cX8_strike 23 = .ok (.if_icmp .lt 7, 3) := by decide +kernel
theorem dX8_strike_26 : decode cX8_strike 26 = .ok (.iconst (-1), 1) := by decide +kernel
theorem dX8_strike_27 : decode cX8_strike 27 = .ok (.goto 10, 3) := by decide +kernel
theorem dX8_strike_30 : decode cX8_strike 30 = .ok (.aload_n 0, 1) := by decide +kernel
theorem dX8_strike_31 : decode cX8_strike 31 = .ok (.iconst (-1), 1) := by decide +kernel
theorem dX8_strike_32 : decode cX8_strike 32 = .ok (.iload_n 1, 1) := by decide +kernel
theorem dX8_strike_33 : decode cX8_strike 33 = .ok (.iconst 0, 1) := by decide +kernel
theorem dX8_strike_34 : decode cX8_strike 34 = .ok (.invokevirtual 538, 3) := by decide +kernel
theorem dX8_strike_37 : decode cX8_strike 37 = .ok (.ireturn, 1) := by decide +kernel
def f_X8_layTurns_166 (N : Nat) (p1 : Int32) (v3 : Int32) (v10 : Int32) (j196 : Int32 → Hp → Option Hp) (r166 : Int32 → Hp → Option Hp) (v15 : Int32) (h16 : Hp) : Option Hp :=
  if p1 ≤ v15 then
    j196 v10 h16
  else
  (f_X8_digitOf N v3 (gI h16 8 0 13) p1 v15).bind fun v17 =>
  grd (inb v15 6) <| lt_ (sA h16 8 0 34 v15.toNatClampNeg v17) fun h18 =>
  lt_ (v15 + 1) fun v19 =>
  r166 v19 h18
def f_X8_layTurns_42 (N : Nat) (p1 : Int32) (v3 : Int32) (r33 : Int32 → Hp → Option Hp) (v8 : Int32) (r42 : Int32 → Hp → Option Hp) (v20 : Int32) (h21 : Hp) : Option Hp :=
  if (gI h21 8 0 13) ≤ v20 then
    (f_X8_goOn N h21 1 (gI h21 8 0 61)).bind fun h22 =>
    lt_ (v8 + 1) fun v23 =>
    r33 v23 h22
  else
  (f_X8_digitOf N v3 (gI h21 8 0 13) p1 v8).bind fun v24 =>
  jn (fun (v25 : Int32) =>
    grd (inb (4 + v20) 8) <| lt_ (sA h21 8 0 27 (4 + v20).toNatClampNeg v25) fun h26 =>
    lt_ (v20 + 1) fun v27 =>
    r42 v27 h26) fun (j80 : Int32 → Option Hp) =>
  if ¬ v20 = v24 then
    j80 3
  else
  j80 2
def f_X8_layTurns_33 (N : Nat) (p1 : Int32) (r9 : Int32 → Int32 → Hp → Option Hp) (v2 : Int32) (v3 : Int32) (r33 : Int32 → Hp → Option Hp) (v8 : Int32) (h9 : Hp) : Option Hp :=
  if p1 ≤ v8 then
    (f_X8_unlikeForked N h9).bind fun v10 =>
    jn (fun (v11 : Int32) (h12 : Hp) =>
      lt_ (v3 + 1) fun v13 =>
      r9 v11 v13 h12) fun (j196 : Int32 → Hp → Option Hp) =>
    jn (
      grd (inb 1 2) <|
      lt_ (sI h9 8 0 71 (gA h9 8 0 31 (1 : Int32).toNatClampNeg)) fun h14 =>
      iter (fun _ _ => none) (f_X8_layTurns_166 N p1 v3 v10 j196) N 0 h14) fun (j150 : Option Hp) =>
    if (gI h9 8 0 71) < 0 then
      j150
    else
    grd (inb 1 2) <|
    if (gA h9 8 0 31 (1 : Int32).toNatClampNeg) < (gI h9 8 0 71) then
      j196 v2 h9
    else
    grd (inb 1 2) <|
    if ¬ (gA h9 8 0 31 (1 : Int32).toNatClampNeg) = (gI h9 8 0 71) then
      j150
    else
    if v10 < v2 then
      j150
    else
    j196 v2 h9
  else
  iter (fun _ _ => none) (f_X8_layTurns_42 N p1 v3 r33 v8) N 0 h9
def f_X8_layTurns_9 (N : Nat) (p1 : Int32) (r9 : Int32 → Int32 → Hp → Option Hp) (v2 : Int32) (v3 : Int32) (h4 : Hp) : Option Hp :=
  (f_X8_powerOf N (gI h4 8 0 13) p1).bind fun v5 =>
  if v5 ≤ v3 then
    some h4
  else
  (f_X8_layTried N h4).bind fun h6 =>
  lt_ (sZ h6 8 0 65 true) fun h7 =>
  iter (fun _ _ => none) (f_X8_layTurns_33 N p1 r9 v2 v3) N 0 h7
def f_X8_layTurns (N : Nat) (h : Hp) (p1 : Int32) : Option Hp :=
  lt_ (sI h 8 0 71 (-1)) fun h1 =>
  iter (fun _ _ _ => none) (f_X8_layTurns_9 N p1) N 0 0 h1
abbrev rmX8_layTurns : Room := { frames := 9, cells := 0, slots := 0, locals := 219 }
set_option maxRecDepth 100000 in
set_option maxHeartbeats 4000000 in
theorem w_X8_layTurns (X : Cx) (F : Fx X cX8_layTurns RX8 none rmX8_layTurns) (hA : xA X = Aw (xG X)) (hL : xL X = 6) (N : Nat) (h : Hp) (p1 : Int32) : Wm X (fun _ => none) (fun v => v) (fun _ => True) 0 [(0, .ref (adr (xG X) 8 0 0)), (1, .int p1)] [] h (f_X8_layTurns N h p1) := by
  have hS : ∀ i : Nat, i < 6 → i < xL X := fun i z => by rw [hL]; exact z
  unfold f_X8_layTurns
  refine r_aload_n F 0 rfl dX8_layTurns_0 rfl ?_
  refine r_iconst F (v := (-1)) dX8_layTurns_1 (by decide) ?_
  refine r_putI F frX8_526 (by decide) rfl rfl dX8_layTurns_2 fun h1 => ?_
  refine r_iconst F (v := 0) dX8_layTurns_5 (by decide) ?_
  refine r_istore_n F [(2, .int 0), (0, .ref (adr (xG X) 8 0 0)), (1, .int p1)] rfl dX8_layTurns_6 rfl (hS _ (by decide)) ?_
  refine r_iconst F (v := 0) dX8_layTurns_7 (by decide) ?_
  refine r_istore_n F [(3, .int 0), (2, .int 0), (0, .ref (adr (xG X) 8 0 0)), (1, .int p1)] rfl dX8_layTurns_8 rfl (hS _ (by decide)) ?_
  have hl9 : ∀ n : Nat, ∀ v2 : Int32, ∀ v3 : Int32, ∀ h4 : Hp, Wm X (fun _ => none) (fun v => v) (fun _ => True) 9 [(0, .ref (adr (xG X) 8 0 0)), (1, .int p1), (2, .int v2), (3, .int v3)] [] h4 (iter (fun _ _ _ => none) (f_X8_layTurns_9 N p1) n v2 v3 h4) := by
    intro n
    induction n with
    | zero => intro v2 v3 h4; exact Wt_none
    | succ n ih =>
      revert ih
      show (∀ v2 : Int32, ∀ v3 : Int32, ∀ h4 : Hp, Wm X (fun _ => none) (fun v => v) (fun _ => True) 9 [(0, .ref (adr (xG X) 8 0 0)), (1, .int p1), (2, .int v2), (3, .int v3)] [] h4 (iter (fun _ _ _ => none) (f_X8_layTurns_9 N p1) n v2 v3 h4)) → _
      intro ih9 v2 v3 h4
      show Wm X (fun _ => none) (fun v => v) (fun _ => True) 9 [(0, .ref (adr (xG X) 8 0 0)), (1, .int p1), (2, .int v2), (3, .int v3)] [] h4 (f_X8_layTurns_9 N p1 (iter (fun _ _ _ => none) (f_X8_layTurns_9 N p1) n) v2 v3 h4)
      revert ih9
      generalize iter (fun _ _ _ => none) (f_X8_layTurns_9 N p1) n = r9
      intro ih9
      unfold f_X8_layTurns_9
      refine r_iload_n F 3 rfl dX8_layTurns_9 rfl ?_
      refine r_aload_n F 0 rfl dX8_layTurns_10 rfl ?_
      refine r_getI F frX8_246 (by decide) dX8_layTurns_11 ?_
      refine r_iload_n F 1 rfl dX8_layTurns_14 rfl ?_
      refine k_iP (run_S F csX8_500 (c_X8_powerOf (xG X) _ h4 N (gI h4 8 0 13) p1) rfl rfl ⟨⟨rfl, rfl⟩, Nat.le_of_ble_eq_true rfl, Nat.le_of_ble_eq_true rfl⟩ (Nat.le_of_ble_eq_true rfl) dX8_layTurns_15) fun v5 _ => ?_
      refine r_icmpge F (tgt := 202) dX8_layTurns_18 (by decide) ?_ ?_
      · skip
        exact r_vret F hA rfl rfl trivial dX8_layTurns_202
      refine r_aload_n F 0 rfl dX8_layTurns_21 rfl ?_
      refine k_vH (run_V F cvX8_485 (by decide) (c_X8_layTried (xG X) _ N h4) rfl rfl ⟨⟨rfl, rfl⟩, Nat.le_of_ble_eq_true rfl, Nat.le_of_ble_eq_true rfl⟩ (Nat.le_of_ble_eq_true rfl) dX8_layTurns_22) fun h6 => ?_
      refine r_aload_n F 0 rfl dX8_layTurns_25 rfl ?_
      refine r_iconst F (v := 1) dX8_layTurns_26 (by decide) ?_
      refine r_putZ F true rfl frX8_388 (by decide) rfl rfl dX8_layTurns_27 fun h7 => ?_
      refine r_iconst F (v := 0) dX8_layTurns_30 (by decide) ?_
      refine r_istore F [(4, .int 0), (0, .ref (adr (xG X) 8 0 0)), (1, .int p1), (2, .int v2), (3, .int v3)] rfl dX8_layTurns_31 (hS _ (by decide)) ?_
      have hl33 : ∀ n : Nat, ∀ v8 : Int32, ∀ h9 : Hp, Wm X (fun _ => none) (fun v => v) (fun _ => True) 33 [(0, .ref (adr (xG X) 8 0 0)), (1, .int p1), (2, .int v2), (3, .int v3), (4, .int v8)] [] h9 (iter (fun _ _ => none) (f_X8_layTurns_33 N p1 r9 v2 v3) n v8 h9) := by
        intro n
        induction n with
        | zero => intro v8 h9; exact Wt_none
        | succ n ih =>
          revert ih
          show (∀ v8 : Int32, ∀ h9 : Hp, Wm X (fun _ => none) (fun v => v) (fun _ => True) 33 [(0, .ref (adr (xG X) 8 0 0)), (1, .int p1), (2, .int v2), (3, .int v3), (4, .int v8)] [] h9 (iter (fun _ _ => none) (f_X8_layTurns_33 N p1 r9 v2 v3) n v8 h9)) → _
          intro ih33 v8 h9
          show Wm X (fun _ => none) (fun v => v) (fun _ => True) 33 [(0, .ref (adr (xG X) 8 0 0)), (1, .int p1), (2, .int v2), (3, .int v3), (4, .int v8)] [] h9 (f_X8_layTurns_33 N p1 r9 v2 v3 (iter (fun _ _ => none) (f_X8_layTurns_33 N p1 r9 v2 v3) n) v8 h9)
          revert ih33
          generalize iter (fun _ _ => none) (f_X8_layTurns_33 N p1 r9 v2 v3) n = r33
          intro ih33
          unfold f_X8_layTurns_33
          refine r_iload F 4 rfl dX8_layTurns_33 ?_
          refine r_iload_n F 1 rfl dX8_layTurns_35 rfl ?_
          refine r_icmpge F (tgt := 102) dX8_layTurns_36 (by decide) ?_ ?_
          · skip
            refine r_aload_n F 0 rfl dX8_layTurns_102 rfl ?_
            refine k_iP (run_V F cvX8_529 (by decide) (c_X8_unlikeForked (xG X) _ N h9) rfl rfl ⟨⟨rfl, rfl⟩, Nat.le_of_ble_eq_true rfl, Nat.le_of_ble_eq_true rfl⟩ (Nat.le_of_ble_eq_true rfl) dX8_layTurns_103) fun v10 _ => ?_
            refine r_istore F [(4, .int v10), (0, .ref (adr (xG X) 8 0 0)), (1, .int p1), (2, .int v2), (3, .int v3)] rfl dX8_layTurns_106 (hS _ (by decide)) ?_
            refine r_aload_n F 1 rfl dX8_layTurns_108 rfl ?_
            refine r_getI F frX8_526 (by decide) dX8_layTurns_109 ?_
            refine Wt_jn (fun (j196 : Int32 → Hp → Option Hp) => ∀ v11 : Int32, ∀ h12 : Hp, Wm X (fun _ => none) (fun v => v) (fun _ => True) 196 [(0, .ref (adr (xG X) 8 0 0)), (1, .int p1), (2, .int v11), (3, .int v3)] [] h12 (j196 v11 h12)) ?_ fun j196 hj196 => ?_
            · intro v11 h12
              refine r_iinc F (v := 1) 3 rfl (by decide) (fun v13 => [(3, .int v13), (0, .ref (adr (xG X) 8 0 0)), (1, .int p1), (2, .int v11)]) (fun _ => rfl) dX8_layTurns_196 (hS _ (by decide)) fun v13 => ?_
              refine r_goto F (tgt := 9) dX8_layTurns_199 (by decide) ?_
              exact Wt_pick [1, 2, 3, 0] rfl (ih9 v11 v13 h12)
            refine Wt_jn (fun (j150 : Option Hp) => Wm X (fun _ => none) (fun v => v) (fun _ => True) 150 [(0, .ref (adr (xG X) 8 0 0)), (1, .int p1), (3, .int v3), (4, .int v10)] [] h9 (j150)) ?_ fun j150 hj150 => ?_
            · skip
              refine r_aload_n F 0 rfl dX8_layTurns_150 rfl ?_
              refine r_aload_n F 0 rfl dX8_layTurns_151 rfl ?_
              refine r_getA F frX8_109 (by decide) dX8_layTurns_152 ?_
              refine r_iconst F (v := 1) dX8_layTurns_155 (by decide) ?_
              refine r_iaload F (ar_8_31 0 (by decide)) dX8_layTurns_156 ?_
              refine r_putI F frX8_526 (by decide) rfl rfl dX8_layTurns_157 fun h14 => ?_
              refine r_iload F 3 rfl dX8_layTurns_160 ?_
              refine r_istore_n F [(2, .int v10), (0, .ref (adr (xG X) 8 0 0)), (1, .int p1), (3, .int v3), (4, .int v10)] rfl dX8_layTurns_162 rfl (hS _ (by decide)) ?_
              refine r_iconst F (v := 0) dX8_layTurns_163 (by decide) ?_
              refine r_istore F [(5, .int 0), (2, .int v10), (0, .ref (adr (xG X) 8 0 0)), (1, .int p1), (3, .int v3), (4, .int v10)] rfl dX8_layTurns_164 (hS _ (by decide)) ?_
              have hl166 : ∀ n : Nat, ∀ v15 : Int32, ∀ h16 : Hp, Wm X (fun _ => none) (fun v => v) (fun _ => True) 166 [(0, .ref (adr (xG X) 8 0 0)), (1, .int p1), (2, .int v10), (3, .int v3), (5, .int v15)] [] h16 (iter (fun _ _ => none) (f_X8_layTurns_166 N p1 v3 v10 j196) n v15 h16) := by
                intro n
                induction n with
                | zero => intro v15 h16; exact Wt_none
                | succ n ih =>
                  revert ih
                  show (∀ v15 : Int32, ∀ h16 : Hp, Wm X (fun _ => none) (fun v => v) (fun _ => True) 166 [(0, .ref (adr (xG X) 8 0 0)), (1, .int p1), (2, .int v10), (3, .int v3), (5, .int v15)] [] h16 (iter (fun _ _ => none) (f_X8_layTurns_166 N p1 v3 v10 j196) n v15 h16)) → _
                  intro ih166 v15 h16
                  show Wm X (fun _ => none) (fun v => v) (fun _ => True) 166 [(0, .ref (adr (xG X) 8 0 0)), (1, .int p1), (2, .int v10), (3, .int v3), (5, .int v15)] [] h16 (f_X8_layTurns_166 N p1 v3 v10 j196 (iter (fun _ _ => none) (f_X8_layTurns_166 N p1 v3 v10 j196) n) v15 h16)
                  revert ih166
                  generalize iter (fun _ _ => none) (f_X8_layTurns_166 N p1 v3 v10 j196) n = r166
                  intro ih166
                  unfold f_X8_layTurns_166
                  refine r_iload F 4 rfl dX8_layTurns_166 ?_
                  refine r_iload_n F 1 rfl dX8_layTurns_168 rfl ?_
                  refine r_icmpge F (tgt := 196) dX8_layTurns_169 (by decide) ?_ ?_
                  · skip
                    exact Wt_pick [0, 1, 2, 3] rfl (hj196 v10 h16)
                  refine r_aload_n F 0 rfl dX8_layTurns_172 rfl ?_
                  refine r_getA F frX8_121 (by decide) dX8_layTurns_173 ?_
                  refine r_iload F 4 rfl dX8_layTurns_176 ?_
                  refine r_iload_n F 3 rfl dX8_layTurns_178 rfl ?_
                  refine r_aload_n F 0 rfl dX8_layTurns_179 rfl ?_
                  refine r_getI F frX8_246 (by decide) dX8_layTurns_180 ?_
                  refine r_iload_n F 1 rfl dX8_layTurns_183 rfl ?_
                  refine r_iload F 4 rfl dX8_layTurns_184 ?_
                  refine k_iP (run_S F csX8_506 (c_X8_digitOf (xG X) _ h16 N v3 (gI h16 8 0 13) p1 v15) rfl rfl ⟨⟨rfl, rfl⟩, Nat.le_of_ble_eq_true rfl, Nat.le_of_ble_eq_true rfl⟩ (Nat.le_of_ble_eq_true rfl) dX8_layTurns_186) fun v17 _ => ?_
                  refine r_iastore F (ar_8_34 0 (by decide)) dX8_layTurns_189 fun h18 => ?_
                  refine r_iinc F (v := 1) 4 rfl (by decide) (fun v19 => [(5, .int v19), (0, .ref (adr (xG X) 8 0 0)), (1, .int p1), (2, .int v10), (3, .int v3)]) (fun _ => rfl) dX8_layTurns_190 (hS _ (by decide)) fun v19 => ?_
                  refine r_goto F (tgt := 166) dX8_layTurns_193 (by decide) ?_
                  exact Wt_pick [1, 2, 3, 4, 0] rfl (ih166 v19 h18)
              exact Wt_pick [2, 3, 1, 4, 0] rfl (hl166 N 0 h14)
            refine r_iflt F (tgt := 150) dX8_layTurns_112 (by decide) ?_ ?_
            · skip
              exact Wt_pick [1, 2, 4, 0] rfl (hj150)
            refine r_aload_n F 1 rfl dX8_layTurns_115 rfl ?_
            refine r_getA F frX8_109 (by decide) dX8_layTurns_116 ?_
            refine r_iconst F (v := 1) dX8_layTurns_119 (by decide) ?_
            refine r_iaload F (ar_8_31 0 (by decide)) dX8_layTurns_120 ?_
            refine r_aload_n F 1 rfl dX8_layTurns_121 rfl ?_
            refine r_getI F frX8_526 (by decide) dX8_layTurns_122 ?_
            refine r_icmplt F (tgt := 196) dX8_layTurns_125 (by decide) ?_ ?_
            · skip
              exact Wt_pick [1, 2, 3, 4] rfl (hj196 v2 h9)
            refine r_aload_n F 1 rfl dX8_layTurns_128 rfl ?_
            refine r_getA F frX8_109 (by decide) dX8_layTurns_129 ?_
            refine r_iconst F (v := 1) dX8_layTurns_132 (by decide) ?_
            refine r_iaload F (ar_8_31 0 (by decide)) dX8_layTurns_133 ?_
            refine r_aload_n F 1 rfl dX8_layTurns_134 rfl ?_
            refine r_getI F frX8_526 (by decide) dX8_layTurns_135 ?_
            refine r_icmpne F (tgt := 150) dX8_layTurns_138 (by decide) ?_ ?_
            · skip
              exact Wt_pick [1, 2, 4, 0] rfl (hj150)
            refine r_iload F 0 rfl dX8_layTurns_141 ?_
            refine r_iload_n F 3 rfl dX8_layTurns_143 rfl ?_
            refine r_icmplt F (tgt := 150) dX8_layTurns_144 (by decide) ?_ ?_
            · skip
              exact Wt_pick [1, 2, 4, 0] rfl (hj150)
            refine r_goto F (tgt := 196) dX8_layTurns_147 (by decide) ?_
            exact Wt_pick [1, 2, 3, 4] rfl (hj196 v2 h9)
          refine r_iconst F (v := 0) dX8_layTurns_39 (by decide) ?_
          refine r_istore F [(5, .int 0), (0, .ref (adr (xG X) 8 0 0)), (1, .int p1), (2, .int v2), (3, .int v3), (4, .int v8)] rfl dX8_layTurns_40 (hS _ (by decide)) ?_
          have hl42 : ∀ n : Nat, ∀ v20 : Int32, ∀ h21 : Hp, Wm X (fun _ => none) (fun v => v) (fun _ => True) 42 [(0, .ref (adr (xG X) 8 0 0)), (1, .int p1), (2, .int v2), (3, .int v3), (4, .int v8), (5, .int v20)] [] h21 (iter (fun _ _ => none) (f_X8_layTurns_42 N p1 v3 r33 v8) n v20 h21) := by
            intro n
            induction n with
            | zero => intro v20 h21; exact Wt_none
            | succ n ih =>
              revert ih
              show (∀ v20 : Int32, ∀ h21 : Hp, Wm X (fun _ => none) (fun v => v) (fun _ => True) 42 [(0, .ref (adr (xG X) 8 0 0)), (1, .int p1), (2, .int v2), (3, .int v3), (4, .int v8), (5, .int v20)] [] h21 (iter (fun _ _ => none) (f_X8_layTurns_42 N p1 v3 r33 v8) n v20 h21)) → _
              intro ih42 v20 h21
              show Wm X (fun _ => none) (fun v => v) (fun _ => True) 42 [(0, .ref (adr (xG X) 8 0 0)), (1, .int p1), (2, .int v2), (3, .int v3), (4, .int v8), (5, .int v20)] [] h21 (f_X8_layTurns_42 N p1 v3 r33 v8 (iter (fun _ _ => none) (f_X8_layTurns_42 N p1 v3 r33 v8) n) v20 h21)
              revert ih42
              generalize iter (fun _ _ => none) (f_X8_layTurns_42 N p1 v3 r33 v8) n = r42
              intro ih42
              unfold f_X8_layTurns_42
              refine r_iload F 5 rfl dX8_layTurns_42 ?_
              refine r_aload_n F 0 rfl dX8_layTurns_44 rfl ?_
              refine r_getI F frX8_246 (by decide) dX8_layTurns_45 ?_
              refine r_icmpge F (tgt := 87) dX8_layTurns_48 (by decide) ?_ ?_
              · skip
                refine r_aload_n F 0 rfl dX8_layTurns_87 rfl ?_
                refine r_iconst F (v := 1) dX8_layTurns_88 (by decide) ?_
                refine r_aload_n F 0 rfl dX8_layTurns_89 rfl ?_
                refine r_getI F frX8_363 (by decide) dX8_layTurns_90 ?_
                refine k_vH (run_V F cvX8_482 (by decide) (c_X8_goOn (xG X) _ N h21 1 (gI h21 8 0 61)) rfl rfl ⟨⟨rfl, rfl⟩, Nat.le_of_ble_eq_true rfl, Nat.le_of_ble_eq_true rfl⟩ (Nat.le_of_ble_eq_true rfl) dX8_layTurns_93) fun h22 => ?_
                refine r_iinc F (v := 1) 4 rfl (by decide) (fun v23 => [(4, .int v23), (0, .ref (adr (xG X) 8 0 0)), (1, .int p1), (2, .int v2), (3, .int v3), (5, .int v20)]) (fun _ => rfl) dX8_layTurns_96 (hS _ (by decide)) fun v23 => ?_
                refine r_goto F (tgt := 33) dX8_layTurns_99 (by decide) ?_
                exact Wt_pick [1, 2, 3, 4, 0] rfl (ih33 v23 h22)
              refine r_aload_n F 0 rfl dX8_layTurns_51 rfl ?_
              refine r_getA F frX8_97 (by decide) dX8_layTurns_52 ?_
              refine r_iconst F (v := 4) dX8_layTurns_55 (by decide) ?_
              refine r_iload F 5 rfl dX8_layTurns_56 ?_
              refine r_iadd F dX8_layTurns_58 ?_
              refine r_iload F 5 rfl dX8_layTurns_59 ?_
              refine r_iload_n F 3 rfl dX8_layTurns_61 rfl ?_
              refine r_aload_n F 0 rfl dX8_layTurns_62 rfl ?_
              refine r_getI F frX8_246 (by decide) dX8_layTurns_63 ?_
              refine r_iload_n F 1 rfl dX8_layTurns_66 rfl ?_
              refine r_iload F 4 rfl dX8_layTurns_67 ?_
              refine k_iP (run_S F csX8_506 (c_X8_digitOf (xG X) _ h21 N v3 (gI h21 8 0 13) p1 v8) rfl rfl ⟨⟨rfl, rfl⟩, Nat.le_of_ble_eq_true rfl, Nat.le_of_ble_eq_true rfl⟩ (Nat.le_of_ble_eq_true rfl) dX8_layTurns_69) fun v24 _ => ?_
              refine Wt_jn (fun (j80 : Int32 → Option Hp) => ∀ v25 : Int32, Wm X (fun _ => none) (fun v => v) (fun _ => True) 80 [(0, .ref (adr (xG X) 8 0 0)), (1, .int p1), (2, .int v2), (3, .int v3), (4, .int v8), (5, .int v20)] [.int v25, .int (4 + v20), .ref (adr (xG X) 8 0 28)] h21 (j80 v25)) ?_ fun j80 hj80 => ?_
              · intro v25
                refine r_iastore F (ar_8_27 0 (by decide)) dX8_layTurns_80 fun h26 => ?_
                refine r_iinc F (v := 1) 5 rfl (by decide) (fun v27 => [(5, .int v27), (0, .ref (adr (xG X) 8 0 0)), (1, .int p1), (2, .int v2), (3, .int v3), (4, .int v8)]) (fun _ => rfl) dX8_layTurns_81 (hS _ (by decide)) fun v27 => ?_
                refine r_goto F (tgt := 42) dX8_layTurns_84 (by decide) ?_
                exact Wt_pick [1, 2, 3, 4, 5, 0] rfl (ih42 v27 h26)
              refine r_icmpne F (tgt := 79) dX8_layTurns_72 (by decide) ?_ ?_
              · skip
                refine r_iconst F (v := 3) dX8_layTurns_79 (by decide) ?_
                exact Wt_pick [0, 1, 2, 3, 4, 5] rfl (hj80 3)
              refine r_iconst F (v := 2) dX8_layTurns_75 (by decide) ?_
              refine r_goto F (tgt := 80) dX8_layTurns_76 (by decide) ?_
              exact Wt_pick [0, 1, 2, 3, 4, 5] rfl (hj80 2)
          exact Wt_pick [1, 2, 3, 4, 5, 0] rfl (hl42 N 0 h9)
      exact Wt_pick [1, 2, 3, 4, 0] rfl (hl33 N 0 h7)
  exact Wt_pick [2, 3, 1, 0] rfl (hl9 N 0 0 h1)
theorem c_X8_layTurns (G : Gx) (l : Launch) (N : Nat) (h : Hp) (p1 : Int32) : Ctr G l yX8_layTurns (.code yX8_layTurns cX8_layTurns 6 none :: GT) rmX8_layTurns [.ref (adr G 8 0 0), .int p1] h (f_X8_layTurns N h p1) (fun _ => none) (fun v => v) (fun _ => True) :=
  ctr_of (by decide) (Nat.le_of_ble_eq_true rfl) ⟨rfl, rfl⟩ fun X _ e2 hA hL F => by subst e2; exact w_X8_layTurns X F hA hL N h p1
def f_X8_turns (N : Nat) (h : Hp) (p1 : Int32) : Option (Int32 × Hp) :=
  lt_ (sI h 8 0 2 0) fun h1 =>
  (f_X8_isIn p1 1 4).bind fun v2 =>
  jn (
    some ((-1), h1)) fun (j21 : Option (Int32 × Hp)) =>
  if (b2i v2) = 0 then
    j21
  else
  if ¬ (gI h1 8 0 13) = 0 then
    (f_X8_layTurns N h1 p1).bind fun h3 =>
    some ((gI h3 8 0 71), h3)
  else
  j21
abbrev rmX8_turns : Room := { frames := 10, cells := 0, slots := 0, locals := 244 }
set_option maxRecDepth 100000 in
set_option maxHeartbeats 4000000 in
theorem w_X8_turns (X : Cx) (F : Fx X cX8_turns RX8 (some .int) rmX8_turns) (hA : xA X = Aw (xG X)) (hL : xL X = 2) (N : Nat) (h : Hp) (p1 : Int32) : Wm X (fun v => some (.int v.1)) (fun v => v.2) (fun _ => True) 0 [(0, .ref (adr (xG X) 8 0 0)), (1, .int p1)] [] h (f_X8_turns N h p1) := by
  have hS : ∀ i : Nat, i < 2 → i < xL X := fun i z => by rw [hL]; exact z
  unfold f_X8_turns
  refine r_aload_n F 0 rfl dX8_turns_0 rfl ?_
  refine r_iconst F (v := 0) dX8_turns_1 (by decide) ?_
  refine r_putI F frX8_163 (by decide) rfl rfl dX8_turns_2 fun h1 => ?_
  refine r_iload_n F 1 rfl dX8_turns_5 rfl ?_
  refine r_iconst F (v := 1) dX8_turns_6 (by decide) ?_
  refine r_iconst F (v := 4) dX8_turns_7 (by decide) ?_
  refine k_zP (run_S F csX8_208 (c_X8_isIn (xG X) _ h1 p1 1 4) rfl rfl ⟨⟨rfl, rfl⟩, Nat.le_of_ble_eq_true rfl, Nat.le_of_ble_eq_true rfl⟩ (Nat.le_of_ble_eq_true rfl) dX8_turns_8) fun v2 _ => ?_
  refine Wt_jn (fun (j21 : Option (Int32 × Hp)) => Wm X (fun v => some (.int v.1)) (fun v => v.2) (fun _ => True) 21 [] [] h1 (j21)) ?_ fun j21 hj21 => ?_
  · skip
    refine r_iconst F (v := (-1)) dX8_turns_21 (by decide) ?_
    exact r_iret F hA rfl rfl trivial dX8_turns_22
  refine r_ifeq F (tgt := 21) dX8_turns_11 (by decide) ?_ ?_
  · skip
    exact Wt_pick [] rfl (hj21)
  refine r_aload_n F 0 rfl dX8_turns_14 rfl ?_
  refine r_getI F frX8_246 (by decide) dX8_turns_15 ?_
  refine r_ifne F (tgt := 23) dX8_turns_18 (by decide) ?_ ?_
  · skip
    refine r_aload_n F 0 rfl dX8_turns_23 rfl ?_
    refine r_iload_n F 1 rfl dX8_turns_24 rfl ?_
    refine k_vH (run_V F cvX8_532 (by decide) (c_X8_layTurns (xG X) _ N h1 p1) rfl rfl ⟨⟨rfl, rfl⟩, Nat.le_of_ble_eq_true rfl, Nat.le_of_ble_eq_true rfl⟩ (Nat.le_of_ble_eq_true rfl) dX8_turns_25) fun h3 => ?_
    refine r_aload_n F 0 rfl dX8_turns_28 rfl ?_
    refine r_getI F frX8_526 (by decide) dX8_turns_29 ?_
    exact r_iret F hA rfl rfl trivial dX8_turns_32
  exact Wt_pick [] rfl (hj21)
theorem c_X8_turns (G : Gx) (l : Launch) (N : Nat) (h : Hp) (p1 : Int32) : Ctr G l yX8_turns (.code yX8_turns cX8_turns 2 (some .int) :: GT) rmX8_turns [.ref (adr G 8 0 0), .int p1] h (f_X8_turns N h p1) (fun v => some (.int v.1)) (fun v => v.2) (fun _ => True) :=
  ctr_of (by decide) (Nat.le_of_ble_eq_true rfl) ⟨rfl, rfl⟩ fun X _ e2 hA hL F => by subst e2; exact w_X8_turns X F hA hL N h p1
def f_X8_turn (N : Nat) (h : Hp) (p1 : Int32) (p2 : Int32) : Option (Int32 × Hp) :=
  lt_ (sI h 8 0 2 0) fun h1 =>
  (f_X8_isIn p1 1 4).bind fun v2 =>
  jn (
    some ((-1), h1)) fun (j25 : Option (Int32 × Hp)) =>
  if (b2i v2) = 0 then
    j25
  else
  if (gI h1 8 0 13) = 0 then
    j25
  else
  if 0 ≤ p2 then
    if p2 < p1 then
      (f_X8_layTurns N h1 p1).bind fun h3 =>
      grd (inb p2 6) <|
      some ((gA h3 8 0 34 p2.toNatClampNeg), h3)
    else
    some ((-2), h1)
  else
  j25
abbrev rmX8_turn : Room := { frames := 10, cells := 0, slots := 0, locals := 244 }
set_option maxRecDepth 100000 in
set_option maxHeartbeats 4000000 in
theorem w_X8_turn (X : Cx) (F : Fx X cX8_turn RX8 (some .int) rmX8_turn) (hA : xA X = Aw (xG X)) (hL : xL X = 3) (N : Nat) (h : Hp) (p1 : Int32) (p2 : Int32) : Wm X (fun v => some (.int v.1)) (fun v => v.2) (fun _ => True) 0 [(0, .ref (adr (xG X) 8 0 0)), (1, .int p1), (2, .int p2)] [] h (f_X8_turn N h p1 p2) := by
  have hS : ∀ i : Nat, i < 3 → i < xL X := fun i z => by rw [hL]; exact z
  unfold f_X8_turn
  refine r_aload_n F 0 rfl dX8_turn_0 rfl ?_
  refine r_iconst F (v := 0) dX8_turn_1 (by decide) ?_
  refine r_putI F frX8_163 (by decide) rfl rfl dX8_turn_2 fun h1 => ?_
  refine r_iload_n F 1 rfl dX8_turn_5 rfl ?_
  refine r_iconst F (v := 1) dX8_turn_6 (by decide) ?_
  refine r_iconst F (v := 4) dX8_turn_7 (by decide) ?_
  refine k_zP (run_S F csX8_208 (c_X8_isIn (xG X) _ h1 p1 1 4) rfl rfl ⟨⟨rfl, rfl⟩, Nat.le_of_ble_eq_true rfl, Nat.le_of_ble_eq_true rfl⟩ (Nat.le_of_ble_eq_true rfl) dX8_turn_8) fun v2 _ => ?_
  refine Wt_jn (fun (j25 : Option (Int32 × Hp)) => Wm X (fun v => some (.int v.1)) (fun v => v.2) (fun _ => True) 25 [] [] h1 (j25)) ?_ fun j25 hj25 => ?_
  · skip
    refine r_iconst F (v := (-1)) dX8_turn_25 (by decide) ?_
    exact r_iret F hA rfl rfl trivial dX8_turn_26
  refine r_ifeq F (tgt := 25) dX8_turn_11 (by decide) ?_ ?_
  · skip
    exact Wt_pick [] rfl (hj25)
  refine r_aload_n F 0 rfl dX8_turn_14 rfl ?_
  refine r_getI F frX8_246 (by decide) dX8_turn_15 ?_
  refine r_ifeq F (tgt := 25) dX8_turn_18 (by decide) ?_ ?_
  · skip
    exact Wt_pick [] rfl (hj25)
  refine r_iload_n F 2 rfl dX8_turn_21 rfl ?_
  refine r_ifge F (tgt := 27) dX8_turn_22 (by decide) ?_ ?_
  · skip
    refine r_iload_n F 2 rfl dX8_turn_27 rfl ?_
    refine r_iload_n F 1 rfl dX8_turn_28 rfl ?_
    refine r_icmplt F (tgt := 35) dX8_turn_29 (by decide) ?_ ?_
    · skip
      refine r_aload_n F 0 rfl dX8_turn_35 rfl ?_
      refine r_iload_n F 1 rfl dX8_turn_36 rfl ?_
      refine k_vH (run_V F cvX8_532 (by decide) (c_X8_layTurns (xG X) _ N h1 p1) rfl rfl ⟨⟨rfl, rfl⟩, Nat.le_of_ble_eq_true rfl, Nat.le_of_ble_eq_true rfl⟩ (Nat.le_of_ble_eq_true rfl) dX8_turn_37) fun h3 => ?_
      refine r_aload_n F 0 rfl dX8_turn_40 rfl ?_
      refine r_getA F frX8_121 (by decide) dX8_turn_41 ?_
      refine r_iload_n F 2 rfl dX8_turn_44 rfl ?_
      refine r_iaload F (ar_8_34 0 (by decide)) dX8_turn_45 ?_
      exact r_iret F hA rfl rfl trivial dX8_turn_46
    refine r_bipush F (v := (-2)) dX8_turn_32 (by decide) ?_
    exact r_iret F hA rfl rfl trivial dX8_turn_34
  exact Wt_pick [] rfl (hj25)
theorem c_X8_turn (G : Gx) (l : Launch) (N : Nat) (h : Hp) (p1 : Int32) (p2 : Int32) : Ctr G l yX8_turn (.code yX8_turn cX8_turn 3 (some .int) :: GT) rmX8_turn [.ref (adr G 8 0 0), .int p1, .int p2] h (f_X8_turn N h p1 p2) (fun v => some (.int v.1)) (fun v => v.2) (fun _ => True) :=
  ctr_of (by decide) (Nat.le_of_ble_eq_true rfl) ⟨rfl, rfl⟩ fun X _ e2 hA hL F => by subst e2; exact w_X8_turn X F hA hL N h p1 p2
def f_X8_common_4 (r4 : Int32 → Int32 → Option Int32) (v1 : Int32) (v2 : Int32) : Option Int32 :=
  if v2 = 0 then
    some v1
  else
  grd (¬ v2 = 0) <|
  lt_ ((v1 - v1 / v2 * v2)) fun v3 =>
  r4 v2 v3
def f_X8_common (N : Nat) (p0 : Int32) (p1 : Int32) : Option Int32 :=
  iter (fun _ _ => none) f_X8_common_4 N p0 p1
abbrev rmX8_common : Room := { frames := 0, cells := 0, slots := 0, locals := 0 }
set_option maxRecDepth 100000 in
set_option maxHeartbeats 4000000 in
theorem w_X8_common (X : Cx) (F : Fx X cX8_common RX8 (some .int) rmX8_common) (hA : xA X = Aw (xG X)) (hL : xL X = 5) (h : Hp) (N : Nat) (p0 : Int32) (p1 : Int32) : Wm X (fun v => some (.int v)) (fun _ => h) (fun _ => True) 0 [(0, .int p0), (1, .int p1)] [] h (f_X8_common N p0 p1) := by
  have hS : ∀ i : Nat, i < 5 → i < xL X := fun i z => by rw [hL]; exact z
  unfold f_X8_common
  refine r_iload_n F 0 rfl dX8_common_0 rfl ?_
  refine r_istore_n F [(2, .int p0), (0, .int p0), (1, .int p1)] rfl dX8_common_1 rfl (hS _ (by decide)) ?_
  refine r_iload_n F 2 rfl dX8_common_2 rfl ?_
  refine r_istore_n F [(3, .int p1), (2, .int p0), (0, .int p0), (1, .int p1)] rfl dX8_common_3 rfl (hS _ (by decide)) ?_
  have hl4 : ∀ n : Nat, ∀ v1 : Int32, ∀ v2 : Int32, Wm X (fun v => some (.int v)) (fun _ => h) (fun _ => True) 4 [(2, .int v1), (3, .int v2)] [] h (iter (fun _ _ => none) f_X8_common_4 n v1 v2) := by
    intro n
    induction n with
    | zero => intro v1 v2; exact Wt_none
    | succ n ih =>
      revert ih
      show (∀ v1 : Int32, ∀ v2 : Int32, Wm X (fun v => some (.int v)) (fun _ => h) (fun _ => True) 4 [(2, .int v1), (3, .int v2)] [] h (iter (fun _ _ => none) f_X8_common_4 n v1 v2)) → _
      intro ih4 v1 v2
      show Wm X (fun v => some (.int v)) (fun _ => h) (fun _ => True) 4 [(2, .int v1), (3, .int v2)] [] h (f_X8_common_4 (iter (fun _ _ => none) f_X8_common_4 n) v1 v2)
      revert ih4
      generalize iter (fun _ _ => none) f_X8_common_4 n = r4
      intro ih4
      unfold f_X8_common_4
      refine r_iload_n F 1 rfl dX8_common_4 rfl ?_
      refine r_ifeq F (tgt := 21) dX8_common_5 (by decide) ?_ ?_
      · skip
        refine r_iload_n F 0 rfl dX8_common_21 rfl ?_
        exact r_iret F hA rfl rfl trivial dX8_common_22
      refine r_iload_n F 0 rfl dX8_common_8 rfl ?_
      refine r_iload_n F 1 rfl dX8_common_9 rfl ?_
      refine r_irem F dX8_common_10 ?_
      refine r_nmI fun v3 => ?_
      refine r_istore F [(4, .int v3), (2, .int v1), (3, .int v2)] rfl dX8_common_11 (hS _ (by decide)) ?_
      refine r_iload_n F 2 rfl dX8_common_13 rfl ?_
      refine r_istore_n F [(2, .int v2), (4, .int v3), (3, .int v2)] rfl dX8_common_14 rfl (hS _ (by decide)) ?_
      refine r_iload F 1 rfl dX8_common_15 ?_
      refine r_istore_n F [(3, .int v3), (2, .int v2), (4, .int v3)] rfl dX8_common_17 rfl (hS _ (by decide)) ?_
      refine r_goto F (tgt := 4) dX8_common_18 (by decide) ?_
      exact Wt_pick [1, 0] rfl (ih4 v2 v3)
  exact Wt_pick [1, 0] rfl (hl4 N p0 p1)
theorem c_X8_common (G : Gx) (l : Launch) (h : Hp) (N : Nat) (p0 : Int32) (p1 : Int32) : Ctr G l yX8_common (.code yX8_common cX8_common 5 (some .int) :: GT) rmX8_common [.int p0, .int p1] h (f_X8_common N p0 p1) (fun v => some (.int v)) (fun _ => h) (fun _ => True) :=
  ctr_of (by decide) (Nat.le_of_ble_eq_true rfl) ⟨rfl, rfl⟩ fun X _ e2 hA hL F => by subst e2; exact w_X8_common X F hA hL h N p0 p1
def f_X8_odds (N : Nat) (h : Hp) (p1 : Int32) (p2 : Int32) : Option (Int32 × Hp) :=
  lt_ (sI h 8 0 2 0) fun h1 =>
  (f_X8_isIn p1 1 4).bind fun v2 =>
  jn (
    some ((-1), h1)) fun (j23 : Option (Int32 × Hp)) =>
  if (b2i v2) = 0 then
    j23
  else
  (f_X8_isIn p2 0 1).bind fun v3 =>
  if ¬ (b2i v3) = 0 then
    (f_X8_powerOf N 100 p1).bind fun v4 =>
    grd (inb 2 10) <|
    (f_X8_powerOf N (100 - (gA h1 8 0 3 (2 : Int32).toNatClampNeg)) p1).bind fun v5 =>
    lt_ ((v4 - v5)) fun v6 =>
    (f_X8_common N v6 v4).bind fun v7 =>
    jn (fun (v8 : Int32) =>
      grd (¬ v7 = 0) <|
      some ((v8 / v7), h1)) fun (j67 : Int32 → Option (Int32 × Hp)) =>
    if ¬ p2 = 0 then
      j67 v4
    else
    j67 v6
  else
  j23
abbrev rmX8_odds : Room := { frames := 1, cells := 0, slots := 0, locals := 24 }
set_option maxRecDepth 100000 in
set_option maxHeartbeats 4000000 in
theorem w_X8_odds (X : Cx) (F : Fx X cX8_odds RX8 (some .int) rmX8_odds) (hA : xA X = Aw (xG X)) (hL : xL X = 6) (N : Nat) (h : Hp) (p1 : Int32) (p2 : Int32) : Wm X (fun v => some (.int v.1)) (fun v => v.2) (fun _ => True) 0 [(0, .ref (adr (xG X) 8 0 0)), (1, .int p1), (2, .int p2)] [] h (f_X8_odds N h p1 p2) := by
  have hS : ∀ i : Nat, i < 6 → i < xL X := fun i z => by rw [hL]; exact z
  unfold f_X8_odds
  refine r_aload_n F 0 rfl dX8_odds_0 rfl ?_
  refine r_iconst F (v := 0) dX8_odds_1 (by decide) ?_
  refine r_putI F frX8_163 (by decide) rfl rfl dX8_odds_2 fun h1 => ?_
  refine r_iload_n F 1 rfl dX8_odds_5 rfl ?_
  refine r_iconst F (v := 1) dX8_odds_6 (by decide) ?_
  refine r_iconst F (v := 4) dX8_odds_7 (by decide) ?_
  refine k_zP (run_S F csX8_208 (c_X8_isIn (xG X) _ h1 p1 1 4) rfl rfl ⟨⟨rfl, rfl⟩, Nat.le_of_ble_eq_true rfl, Nat.le_of_ble_eq_true rfl⟩ (Nat.le_of_ble_eq_true rfl) dX8_odds_8) fun v2 _ => ?_
  refine Wt_jn (fun (j23 : Option (Int32 × Hp)) => Wm X (fun v => some (.int v.1)) (fun v => v.2) (fun _ => True) 23 [] [] h1 (j23)) ?_ fun j23 hj23 => ?_
  · skip
    refine r_iconst F (v := (-1)) dX8_odds_23 (by decide) ?_
    exact r_iret F hA rfl rfl trivial dX8_odds_24
  refine r_ifeq F (tgt := 23) dX8_odds_11 (by decide) ?_ ?_
  · skip
    exact Wt_pick [] rfl (hj23)
  refine r_iload_n F 2 rfl dX8_odds_14 rfl ?_
  refine r_iconst F (v := 0) dX8_odds_15 (by decide) ?_
  refine r_iconst F (v := 1) dX8_odds_16 (by decide) ?_
  refine k_zP (run_S F csX8_208 (c_X8_isIn (xG X) _ h1 p2 0 1) rfl rfl ⟨⟨rfl, rfl⟩, Nat.le_of_ble_eq_true rfl, Nat.le_of_ble_eq_true rfl⟩ (Nat.le_of_ble_eq_true rfl) dX8_odds_17) fun v3 _ => ?_
  refine r_ifne F (tgt := 25) dX8_odds_20 (by decide) ?_ ?_
  · skip
    refine r_bipush F (v := 100) dX8_odds_25 (by decide) ?_
    refine r_iload_n F 1 rfl dX8_odds_27 rfl ?_
    refine k_iP (run_S F csX8_500 (c_X8_powerOf (xG X) _ h1 N 100 p1) rfl rfl ⟨⟨rfl, rfl⟩, Nat.le_of_ble_eq_true rfl, Nat.le_of_ble_eq_true rfl⟩ (Nat.le_of_ble_eq_true rfl) dX8_odds_28) fun v4 _ => ?_
    refine r_istore_n F [(3, .int v4), (0, .ref (adr (xG X) 8 0 0)), (1, .int p1), (2, .int p2)] rfl dX8_odds_31 rfl (hS _ (by decide)) ?_
    refine r_iload_n F 0 rfl dX8_odds_32 rfl ?_
    refine r_bipush F (v := 100) dX8_odds_33 (by decide) ?_
    refine r_aload_n F 1 rfl dX8_odds_35 rfl ?_
    refine r_getA F frX8_24 (by decide) dX8_odds_36 ?_
    refine r_iconst F (v := 2) dX8_odds_39 (by decide) ?_
    refine r_iaload F (ar_8_3 0 (by decide)) dX8_odds_40 ?_
    refine r_isub F dX8_odds_41 ?_
    refine r_iload_n F 2 rfl dX8_odds_42 rfl ?_
    refine k_iP (run_S F csX8_500 (c_X8_powerOf (xG X) _ h1 N (100 - (gA h1 8 0 3 (2 : Int32).toNatClampNeg)) p1) rfl rfl ⟨⟨rfl, rfl⟩, Nat.le_of_ble_eq_true rfl, Nat.le_of_ble_eq_true rfl⟩ (Nat.le_of_ble_eq_true rfl) dX8_odds_43) fun v5 _ => ?_
    refine r_isub F dX8_odds_46 ?_
    refine r_nmI fun v6 => ?_
    refine r_istore F [(4, .int v6), (3, .int v4), (0, .ref (adr (xG X) 8 0 0)), (1, .int p1), (2, .int p2)] rfl dX8_odds_47 (hS _ (by decide)) ?_
    refine r_iload F 0 rfl dX8_odds_49 ?_
    refine r_iload_n F 1 rfl dX8_odds_51 rfl ?_
    refine k_iP (run_S F csX8_535 (c_X8_common (xG X) _ h1 N v6 v4) rfl rfl ⟨⟨rfl, rfl⟩, Nat.le_of_ble_eq_true rfl, Nat.le_of_ble_eq_true rfl⟩ (Nat.le_of_ble_eq_true rfl) dX8_odds_52) fun v7 _ => ?_
    refine r_istore F [(5, .int v7), (4, .int v6), (3, .int v4), (0, .ref (adr (xG X) 8 0 0)), (1, .int p1), (2, .int p2)] rfl dX8_odds_55 (hS _ (by decide)) ?_
    refine r_iload_n F 5 rfl dX8_odds_57 rfl ?_
    refine Wt_jn (fun (j67 : Int32 → Option (Int32 × Hp)) => ∀ v8 : Int32, Wm X (fun v => some (.int v.1)) (fun v => v.2) (fun _ => True) 67 [(5, .int v7)] [.int v8] h1 (j67 v8)) ?_ fun j67 hj67 => ?_
    · intro v8
      refine r_iload F 0 rfl dX8_odds_67 ?_
      refine r_idiv F dX8_odds_69 ?_
      exact r_iret F hA rfl rfl trivial dX8_odds_70
    refine r_ifne F (tgt := 66) dX8_odds_58 (by decide) ?_ ?_
    · skip
      refine r_iload_n F 2 rfl dX8_odds_66 rfl ?_
      exact Wt_pick [0] rfl (hj67 v4)
    refine r_iload F 1 rfl dX8_odds_61 ?_
    refine r_goto F (tgt := 67) dX8_odds_63 (by decide) ?_
    exact Wt_pick [0] rfl (hj67 v6)
  exact Wt_pick [] rfl (hj23)
theorem c_X8_odds (G : Gx) (l : Launch) (N : Nat) (h : Hp) (p1 : Int32) (p2 : Int32) : Ctr G l yX8_odds (.code yX8_odds cX8_odds 6 (some .int) :: GT) rmX8_odds [.ref (adr G 8 0 0), .int p1, .int p2] h (f_X8_odds N h p1 p2) (fun v => some (.int v.1)) (fun v => v.2) (fun _ => True) :=
  ctr_of (by decide) (Nat.le_of_ble_eq_true rfl) ⟨rfl, rfl⟩ fun X _ e2 hA hL F => by subst e2; exact w_X8_odds X F hA hL N h p1 p2
def f_X8_noted (h : Hp) (p1 : Int32) (p2 : Int32) (p3 : Int32) : Option (Int32 × Hp) :=
  grd (inb (3 * (gI h 8 0 72)) 72) <| lt_ (sA h 8 0 37 (3 * (gI h 8 0 72)).toNatClampNeg p1) fun h1 =>
  grd (inb ((3 * (gI h1 8 0 72)) + 1) 72) <| lt_ (sA h1 8 0 37 ((3 * (gI h1 8 0 72)) + 1).toNatClampNeg p2) fun h2 =>
  grd (inb ((3 * (gI h2 8 0 72)) + 2) 72) <| lt_ (sA h2 8 0 37 ((3 * (gI h2 8 0 72)) + 2).toNatClampNeg p3) fun h3 =>
  lt_ (sI h3 8 0 72 ((gI h3 8 0 72) + 1)) fun h4 =>
  some (((gI h4 8 0 72) - 1), h4)
abbrev rmX8_noted : Room := { frames := 0, cells := 0, slots := 0, locals := 0 }
set_option maxRecDepth 100000 in
set_option maxHeartbeats 4000000 in
theorem w_X8_noted (X : Cx) (F : Fx X cX8_noted RX8 (some .int) rmX8_noted) (hA : xA X = Aw (xG X)) (hL : xL X = 4) (h : Hp) (p1 : Int32) (p2 : Int32) (p3 : Int32) : Wm X (fun v => some (.int v.1)) (fun v => v.2) (fun _ => True) 0 [(0, .ref (adr (xG X) 8 0 0)), (1, .int p1), (2, .int p2), (3, .int p3)] [] h (f_X8_noted h p1 p2 p3) := by
  have hS : ∀ i : Nat, i < 4 → i < xL X := fun i z => by rw [hL]; exact z
  unfold f_X8_noted
  refine r_aload_n F 0 rfl dX8_noted_0 rfl ?_
  refine r_getA F frX8_133 (by decide) dX8_noted_1 ?_
  refine r_iconst F (v := 3) dX8_noted_4 (by decide) ?_
  refine r_aload_n F 0 rfl dX8_noted_5 rfl ?_
  refine r_getI F frX8_373 (by decide) dX8_noted_6 ?_
  refine r_imul F dX8_noted_9 ?_
  refine r_iload_n F 1 rfl dX8_noted_10 rfl ?_
  refine r_iastore F (ar_8_37 0 (by decide)) dX8_noted_11 fun h1 => ?_
  refine r_aload_n F 0 rfl dX8_noted_12 rfl ?_
  refine r_getA F frX8_133 (by decide) dX8_noted_13 ?_
  refine r_iconst F (v := 3) dX8_noted_16 (by decide) ?_
  refine r_aload_n F 0 rfl dX8_noted_17 rfl ?_
  refine r_getI F frX8_373 (by decide) dX8_noted_18 ?_
  refine r_imul F dX8_noted_21 ?_
  refine r_iconst F (v := 1) dX8_noted_22 (by decide) ?_
  refine r_iadd F dX8_noted_23 ?_
  refine r_iload_n F 2 rfl dX8_noted_24 rfl ?_
  refine r_iastore F (ar_8_37 0 (by decide)) dX8_noted_25 fun h2 => ?_
  refine r_aload_n F 0 rfl dX8_noted_26 rfl ?_
  refine r_getA F frX8_133 (by decide) dX8_noted_27 ?_
  refine r_iconst F (v := 3) dX8_noted_30 (by decide) ?_
  refine r_aload_n F 0 rfl dX8_noted_31 rfl ?_
  refine r_getI F frX8_373 (by decide) dX8_noted_32 ?_
  refine r_imul F dX8_noted_35 ?_
  refine r_iconst F (v := 2) dX8_noted_36 (by decide) ?_
  refine r_iadd F dX8_noted_37 ?_
  refine r_iload_n F 3 rfl dX8_noted_38 rfl ?_
  refine r_iastore F (ar_8_37 0 (by decide)) dX8_noted_39 fun h3 => ?_
  refine r_aload_n F 0 rfl dX8_noted_40 rfl ?_
  refine r_dup F rfl dX8_noted_41 ?_
  refine r_getI F frX8_373 (by decide) dX8_noted_42 ?_
  refine r_iconst F (v := 1) dX8_noted_45 (by decide) ?_
  refine r_iadd F dX8_noted_46 ?_
  refine r_putI F frX8_373 (by decide) rfl rfl dX8_noted_47 fun h4 => ?_
  refine r_aload_n F 0 rfl dX8_noted_50 rfl ?_
  refine r_getI F frX8_373 (by decide) dX8_noted_51 ?_
  refine r_iconst F (v := 1) dX8_noted_54 (by decide) ?_
  refine r_isub F dX8_noted_55 ?_
  exact r_iret F hA rfl rfl trivial dX8_noted_56
theorem c_X8_noted (G : Gx) (l : Launch) (h : Hp) (p1 : Int32) (p2 : Int32) (p3 : Int32) : Ctr G l yX8_noted (.code yX8_noted cX8_noted 4 (some .int) :: GT) rmX8_noted [.ref (adr G 8 0 0), .int p1, .int p2, .int p3] h (f_X8_noted h p1 p2 p3) (fun v => some (.int v.1)) (fun v => v.2) (fun _ => True) :=
  ctr_of (by decide) (Nat.le_of_ble_eq_true rfl) ⟨rfl, rfl⟩ fun X _ e2 hA hL F => by subst e2; exact w_X8_noted X F hA hL h p1 p2 p3
def f_X8_see (h : Hp) (p1 : Int32) (p2 : Int32) (p3 : Bool) : Option (Int32 × Hp) :=
  lt_ (sI h 8 0 2 0) fun h1 =>
  jn (fun (v2 : Int32) (h3 : Hp) =>
    some (v2, h3)) fun (j54 : Int32 → Hp → Option (Int32 × Hp)) =>
  jn (
    j54 (-1) h1) fun (j35 : Option (Int32 × Hp)) =>
  if (gI h1 8 0 72) = 24 then
    j35
  else
  (f_X8_isIn p1 1 99).bind fun v4 =>
  if (b2i v4) = 0 then
    j35
  else
  (f_X8_isIn p2 0 9999).bind fun v5 =>
  if ¬ (b2i v5) = 0 then
    jn (fun (v6 : Bool) =>
      bd2 (f_X8_noted h1 p1 p2 (b2i v6)) fun v8 h7 =>
      j54 v8 h7) fun (j51 : Bool → Option (Int32 × Hp)) =>
    if (b2i p3) = 0 then
      j51 false
    else
    j51 true
  else
  j35
abbrev rmX8_see : Room := { frames := 1, cells := 0, slots := 0, locals := 23 }
set_option maxRecDepth 100000 in
set_option maxHeartbeats 4000000 in
theorem w_X8_see (X : Cx) (F : Fx X cX8_see RX8 (some .int) rmX8_see) (hA : xA X = Aw (xG X)) (hL : xL X = 4) (h : Hp) (p1 : Int32) (p2 : Int32) (p3 : Bool) : Wm X (fun v => some (.int v.1)) (fun v => v.2) (fun _ => True) 0 [(0, .ref (adr (xG X) 8 0 0)), (1, .int p1), (2, .int p2), (3, .int (b2i p3))] [] h (f_X8_see h p1 p2 p3) := by
  have hS : ∀ i : Nat, i < 4 → i < xL X := fun i z => by rw [hL]; exact z
  unfold f_X8_see
  refine r_aload_n F 0 rfl dX8_see_0 rfl ?_
  refine r_iconst F (v := 0) dX8_see_1 (by decide) ?_
  refine r_putI F frX8_163 (by decide) rfl rfl dX8_see_2 fun h1 => ?_
  refine r_aload_n F 0 rfl dX8_see_5 rfl ?_
  refine r_getI F frX8_373 (by decide) dX8_see_6 ?_
  refine r_bipush F (v := 24) dX8_see_9 (by decide) ?_
  refine Wt_jn (fun (j54 : Int32 → Hp → Option (Int32 × Hp)) => ∀ v2 : Int32, ∀ h3 : Hp, Wm X (fun v => some (.int v.1)) (fun v => v.2) (fun _ => True) 54 [] [.int v2] h3 (j54 v2 h3)) ?_ fun j54 hj54 => ?_
  · intro v2 h3
    exact r_iret F hA rfl rfl trivial dX8_see_54
  refine Wt_jn (fun (j35 : Option (Int32 × Hp)) => Wm X (fun v => some (.int v.1)) (fun v => v.2) (fun _ => True) 35 [] [] h1 (j35)) ?_ fun j35 hj35 => ?_
  · skip
    refine r_iconst F (v := (-1)) dX8_see_35 (by decide) ?_
    refine r_goto F (tgt := 54) dX8_see_36 (by decide) ?_
    exact Wt_pick [] rfl (hj54 (-1) h1)
  refine r_icmpeq F (tgt := 35) dX8_see_11 (by decide) ?_ ?_
  · skip
    exact Wt_pick [] rfl (hj35)
  refine r_iload_n F 1 rfl dX8_see_14 rfl ?_
  refine r_iconst F (v := 1) dX8_see_15 (by decide) ?_
  refine r_bipush F (v := 99) dX8_see_16 (by decide) ?_
  refine k_zP (run_S F csX8_208 (c_X8_isIn (xG X) _ h1 p1 1 99) rfl rfl ⟨⟨rfl, rfl⟩, Nat.le_of_ble_eq_true rfl, Nat.le_of_ble_eq_true rfl⟩ (Nat.le_of_ble_eq_true rfl) dX8_see_18) fun v4 _ => ?_
  refine r_ifeq F (tgt := 35) dX8_see_21 (by decide) ?_ ?_
  · skip
    exact Wt_pick [] rfl (hj35)
  refine r_iload_n F 2 rfl dX8_see_24 rfl ?_
  refine r_iconst F (v := 0) dX8_see_25 (by decide) ?_
  refine r_sipush F (v := 9999) dX8_see_26 (by decide) ?_
  refine k_zP (run_S F csX8_208 (c_X8_isIn (xG X) _ h1 p2 0 9999) rfl rfl ⟨⟨rfl, rfl⟩, Nat.le_of_ble_eq_true rfl, Nat.le_of_ble_eq_true rfl⟩ (Nat.le_of_ble_eq_true rfl) dX8_see_29) fun v5 _ => ?_
  refine r_ifne F (tgt := 39) dX8_see_32 (by decide) ?_ ?_
  · skip
    refine r_aload_n F 0 rfl dX8_see_39 rfl ?_
    refine r_iload_n F 1 rfl dX8_see_40 rfl ?_
    refine r_iload_n F 2 rfl dX8_see_41 rfl ?_
    refine r_iload_n F 3 rfl dX8_see_42 rfl ?_
    refine Wt_jn (fun (j51 : Bool → Option (Int32 × Hp)) => ∀ v6 : Bool, Wm X (fun v => some (.int v.1)) (fun v => v.2) (fun _ => True) 51 [] [.int (b2i v6), .int p2, .int p1, .ref (adr (xG X) 8 0 0)] h1 (j51 v6)) ?_ fun j51 hj51 => ?_
    · intro v6
      refine k_iH (run_V F cvX8_538 (by decide) (c_X8_noted (xG X) _ h1 p1 p2 (b2i v6)) rfl rfl ⟨⟨rfl, rfl⟩, Nat.le_of_ble_eq_true rfl, Nat.le_of_ble_eq_true rfl⟩ (Nat.le_of_ble_eq_true rfl) dX8_see_51) fun v8 h7 => ?_
      exact Wt_pick [] rfl (hj54 v8 h7)
    refine r_ifeq F (tgt := 50) dX8_see_43 (by decide) ?_ ?_
    · skip
      refine r_iconst F (v := 0) dX8_see_50 (by decide) ?_
      exact Wt_pick [] rfl (hj51 false)
    refine r_iconst F (v := 1) dX8_see_46 (by decide) ?_
    refine r_goto F (tgt := 51) dX8_see_47 (by decide) ?_
    exact Wt_pick [] rfl (hj51 true)
  exact Wt_pick [] rfl (hj35)
theorem c_X8_see (G : Gx) (l : Launch) (h : Hp) (p1 : Int32) (p2 : Int32) (p3 : Bool) : Ctr G l yX8_see (.code yX8_see cX8_see 4 (some .int) :: GT) rmX8_see [.ref (adr G 8 0 0), .int p1, .int p2, .int (b2i p3)] h (f_X8_see h p1 p2 p3) (fun v => some (.int v.1)) (fun v => v.2) (fun _ => True) :=
  ctr_of (by decide) (Nat.le_of_ble_eq_true rfl) ⟨rfl, rfl⟩ fun X _ e2 hA hL F => by subst e2; exact w_X8_see X F hA hL h p1 p2 p3
def f_X8_strike (h : Hp) (p1 : Int32) : Option (Int32 × Hp) :=
  lt_ (sI h 8 0 2 0) fun h1 =>
  jn (fun (v2 : Int32) (h3 : Hp) =>
    some (v2, h3)) fun (j37 : Int32 → Hp → Option (Int32 × Hp)) =>
  jn (
    j37 (-1) h1) fun (j26 : Option (Int32 × Hp)) =>
  if (gI h1 8 0 72) = 24 then
    j26
  else
  if p1 < 0 then
    j26
  else
  if p1 < (gI h1 8 0 72) then
    bd2 (f_X8_noted h1 (-1) p1 0) fun v5 h4 =>
    j37 v5 h4
  else
  j26
abbrev rmX8_strike : Room := { frames := 1, cells := 0, slots := 0, locals := 23 }
set_option maxRecDepth 100000 in
set_option maxHeartbeats 4000000 in
theorem w_X8_strike (X : Cx) (F : Fx X cX8_strike RX8 (some .int) rmX8_strike) (hA : xA X = Aw (xG X)) (hL : xL X = 2) (h : Hp) (p1 : Int32) : Wm X (fun v => some (.int v.1)) (fun v => v.2) (fun _ => True) 0 [(0, .ref (adr (xG X) 8 0 0)), (1, .int p1)] [] h (f_X8_strike h p1) := by
  have hS : ∀ i : Nat, i < 2 → i < xL X := fun i z => by rw [hL]; exact z
  unfold f_X8_strike
  refine r_aload_n F 0 rfl dX8_strike_0 rfl ?_
  refine r_iconst F (v := 0) dX8_strike_1 (by decide) ?_
  refine r_putI F frX8_163 (by decide) rfl rfl dX8_strike_2 fun h1 => ?_
  refine r_aload_n F 0 rfl dX8_strike_5 rfl ?_
  refine r_getI F frX8_373 (by decide) dX8_strike_6 ?_
  refine r_bipush F (v := 24) dX8_strike_9 (by decide) ?_
  refine Wt_jn (fun (j37 : Int32 → Hp → Option (Int32 × Hp)) => ∀ v2 : Int32, ∀ h3 : Hp, Wm X (fun v => some (.int v.1)) (fun v => v.2) (fun _ => True) 37 [] [.int v2] h3 (j37 v2 h3)) ?_ fun j37 hj37 => ?_
  · intro v2 h3
    exact r_iret F hA rfl rfl trivial dX8_strike_37
  refine Wt_jn (fun (j26 : Option (Int32 × Hp)) => Wm X (fun v => some (.int v.1)) (fun v => v.2) (fun _ => True) 26 [] [] h1 (j26)) ?_ fun j26 hj26 => ?_
  · skip
    refine r_iconst F (v := (-1)) dX8_strike_26 (by decide) ?_
    refine r_goto F (tgt := 37) dX8_strike_27 (by decide) ?_
    exact Wt_pick [] rfl (hj37 (-1) h1)
  refine r_icmpeq F (tgt := 26) dX8_strike_11 (by decide) ?_ ?_
  · skip
    exact Wt_pick [] rfl (hj26)
  refine r_iload_n F 1 rfl dX8_strike_14 rfl ?_
  refine r_iflt F (tgt := 26) dX8_strike_15 (by decide) ?_ ?_
  · skip
    exact Wt_pick [] rfl (hj26)
  refine r_iload_n F 1 rfl dX8_strike_18 rfl ?_
  refine r_aload_n F 0 rfl dX8_strike_19 rfl ?_
  refine r_getI F frX8_373 (by decide) dX8_strike_20 ?_
  refine r_icmplt F (tgt := 30) dX8_strike_23 (by decide) ?_ ?_
  · skip
    refine r_aload_n F 0 rfl dX8_strike_30 rfl ?_
    refine r_iconst F (v := (-1)) dX8_strike_31 (by decide) ?_
    refine r_iload_n F 1 rfl dX8_strike_32 rfl ?_
    refine r_iconst F (v := 0) dX8_strike_33 (by decide) ?_
    refine k_iH (run_V F cvX8_538 (by decide) (c_X8_noted (xG X) _ h1 (-1) p1 0) rfl rfl ⟨⟨rfl, rfl⟩, Nat.le_of_ble_eq_true rfl, Nat.le_of_ble_eq_true rfl⟩ (Nat.le_of_ble_eq_true rfl) dX8_strike_34) fun v5 h4 => ?_
    exact Wt_pick [] rfl (hj37 v5 h4)
  exact Wt_pick [] rfl (hj26)
theorem c_X8_strike (G : Gx) (l : Launch) (h : Hp) (p1 : Int32) : Ctr G l yX8_strike (.code yX8_strike cX8_strike 2 (some .int) :: GT) rmX8_strike [.ref (adr G 8 0 0), .int p1] h (f_X8_strike h p1) (fun v => some (.int v.1)) (fun v => v.2) (fun _ => True) :=
  ctr_of (by decide) (Nat.le_of_ble_eq_true rfl) ⟨rfl, rfl⟩ fun X _ e2 hA hL F => by subst e2; exact w_X8_strike X F hA hL h p1
