theorem dX7_swap_0 : decode cX7_swap 0 = .ok (.iload_n 1, 1) := by decide +kernel
theorem dX7_swap_1 : decode cX7_swap 1 = .ok (.iconst 0, 1) := by decide +kernel
theorem dX7_swap_2 : decode cX7_swap 2 = .ok (.iconst 2, 1) := by decide +kernel
theorem dX7_swap_3 : decode cX7_swap 3 = .ok (.invokestatic 247, 3) := by decide +kernel
theorem dX7_swap_6 : decode cX7_swap 6 = .ok (.ifCond .ne 5, 3) := by decide +kernel
theorem dX7_swap_9 : decode cX7_swap 9 = .ok (.iconst (-1), 1) := by decide +kernel
theorem dX7_swap_10 : decode cX7_swap 10 = .ok (.ireturn, 1) := by decide +kernel
theorem dX7_swap_11 : decode cX7_swap 11 = .ok (.aload_n 0, 1) := by decide +kernel
theorem dX7_swap_12 : decode cX7_swap 12 = .ok (.invokevirtual 303, 3) := by decide +kernel
theorem dX7_swap_15 : decode cX7_swap 15 = .ok (.ifCond .eq 12, 3) := by decide +kernel
theorem dX7_swap_18 : decode cX7_swap 18 = .ok (.aload_n 0, 1) := by decide +kernel
theorem dX7_swap_19 : decode cX7_swap 19 = .ok (.getfield 50, 3) := by decide +kernel
theorem dX7_swap_22 : decode cX7_swap 22 = .ok (.iload_n 1, 1) := by decide +kernel
theorem dX7_swap_23 : decode cX7_swap 23 = .ok (.iaload, 1) := by decide +kernel
theorem dX7_swap_24 : decode cX7_swap 24 = .ok (.goto 5, 3) := by decide +kernel
theorem dX7_swap_27 : decode cX7_swap 27 = .ok (.bipush (-2), 2) := by decide +kernel
theorem dX7_swap_29 : decode cX7_swap 29 = .ok (.ireturn, 1) := by decide +kernel
theorem dX7_lending_0 : decode cX7_lending 0 = .ok (.aload_n 0, 1) := by decide +kernel
theorem dX7_lending_1 : decode cX7_lending 1 = .ok (.iload_n 1, 1) := by decide +kernel
theorem dX7_lending_2 : decode cX7_lending 2 = .ok (.iload_n 2, 1) := by decide +kernel
theorem dX7_lending_3 : decode cX7_lending 3 = .ok (.invokevirtual 234, 3) := by decide +kernel
theorem dX7_lending_6 : decode cX7_lending 6 = .ok (.ifCond .eq 23, 3) := by decide +kernel
theorem dX7_lending_9 : decode cX7_lending 9 = .ok (.iload_n 3, 1) := by decide +kernel
theorem dX7_lending_10 : decode cX7_lending 10 = .ok (.iconst 1, 1) := by decide +kernel
theorem dX7_lending_11 : decode cX7_lending 11 = .ok (.bipush 99, 2) := by decide +kernel
theorem dX7_lending_13 : decode cX7_lending 13 = .ok (.invokestatic 247, 3) := by decide +kernel
theorem dX7_lending_16 : decode cX7_lending 16 = .ok (.ifCond .eq 13, 3) := by decide +kernel
theorem dX7_lending_19 : decode cX7_lending 19 = .ok (.iload 4, 2) := by decide +kernel
theorem dX7_lending_21 : decode cX7_lending 21 = .ok (.iconst 0, 1) := by decide +kernel
theorem dX7_lending_22 : decode cX7_lending 22 = .ok (.iconst 2, 1) := by decide +kernel
theorem dX7_lending_23 : decode cX7_lending 23 = .ok (.invokestatic 247, 3) := by decide +kernel
theorem dX7_lending_26 : decode cX7_lending 26 = .ok (.ifCond .ne 5, 3) := by decide +kernel
theorem dX7_lending_29 : decode cX7_lending 29 = .ok (.iconst (-1), 1) := by decide +kernel
theorem dX7_lending_30 : decode cX7_lending 30 = .ok (.ireturn, 1) := by decide +kernel
theorem dX7_lending_31 : decode cX7_lending 31 = .ok (.aload_n 0, 1) := by decide +kernel
theorem dX7_lending_32 : decode cX7_lending 32 = .ok (.getfield 78, 3) := by decide +kernel
theorem dX7_lending_35 : decode cX7_lending 35 = .ok (.iconst 0, 1) := by decide +kernel
theorem dX7_lending_36 : decode cX7_lending 36 = .ok (.aaload, 1) := by decide +kernel
theorem dX7_lending_37 : decode cX7_lending 37 = .ok (.astore 5, 2) := by decide +kernel
theorem dX7_lending_39 : decode cX7_lending 39 = .ok (.aload 5, 2) := by decide +kernel
theorem dX7_lending_41 : decode cX7_lending 41 = .ok (.aload_n 0, 1) := by decide +kernel
theorem dX7_lending_42 : decode cX7_lending 42 = .ok (.getfield 72, 3) := by decide +kernel
theorem dX7_lending_45 : decode cX7_lending 45 = .ok (.invokevirtual 109, 3) := by decide +kernel
theorem dX7_lending_48 : decode cX7_lending 48 = .ok (.aload 5, 2) := by decide +kernel
theorem dX7_lending_50 : decode cX7_lending 50 = .ok (.iload_n 3, 1) := by decide +kernel
theorem dX7_lending_51 : decode cX7_lending 51 = .ok (.invokevirtual 265, 3) := by decide +kernel
theorem dX7_lending_54 : decode cX7_lending 54 = .ok (.aload_n 0, 1) := by decide +kernel
theorem dX7_lending_55 : decode cX7_lending 55 = .ok (.getfield 78, 3) := by decide +kernel
theorem dX7_lending_58 : decode cX7_lending 58 = .ok (.iconst 1, 1) := by decide +kernel
theorem dX7_lending_59 : decode cX7_lending 59 = .ok (.aaload, 1) := by decide +kernel
theorem dX7_lending_60 : decode cX7_lending 60 = .ok (.astore 6, 2) := by decide +kernel
theorem dX7_lending_62 : decode cX7_lending 62 = .ok (.aload 6, 2) := by decide +kernel
theorem dX7_lending_64 : decode cX7_lending 64 = .ok (.aload_n 0, 1) := by decide +kernel
theorem dX7_lending_65 : decode cX7_lending 65 = .ok (.getfield 72, 3) := by decide +kernel
theorem dX7_lending_68 : decode cX7_lending 68 = .ok (.invokevirtual 109, 3) := by decide +kernel
theorem dX7_lending_71 : decode cX7_lending 71 = .ok (.aload 6, 2) := by decide +kernel
theorem dX7_lending_73 : decode cX7_lending 73 = .ok (.iload_n 1, 1) := by decide +kernel
theorem dX7_lending_74 : decode cX7_lending 74 = .ok (.iload_n 2, 1) := by decide +kernel
theorem dX7_lending_75 : decode cX7_lending 75 = .ok (.invokevirtual 238, 3) := by decide +kernel
theorem dX7_lending_78 : decode cX7_lending 78 = .ok (.aload 6, 2) := by decide +kernel
theorem dX7_lending_80 : decode cX7_lending 80 = .ok (.iload_n 3, 1) := by decide +kernel
theorem dX7_lending_81 : decode cX7_lending 81 = .ok (.invokevirtual 265, 3) := by decide +kernel
theorem dX7_lending_84 : decode cX7_lending 84 = .ok (.aload 5, 2) := by decide +kernel
theorem dX7_lending_86 : decode cX7_lending 86 = .ok (.getfield 167, 3) := by decide +kernel
theorem dX7_lending_89 : decode cX7_lending 89 = .ok (.iload_n 1, 1) := by decide +kernel
theorem dX7_lending_90 : decode cX7_lending 90 = .ok (.iaload, 1) := by decide +kernel
theorem dX7_lending_91 : decode cX7_lending 91 = .ok (.aload 6, 2) := by decide +kernel
theorem dX7_lending_93 : decode cX7_lending 93 = .ok (.getfield 167, 3) := by decide +kernel
theorem dX7_lending_96 : decode cX7_lending 96 = .ok (.iload_n 1, 1) := by decide +kernel
theorem dX7_lending_97 : decode cX7_lending 97 = .ok (.iaload, 1) := by decide +kernel
theorem dX7_lending_98 : decode cX7_lending 98 = .ok (.isub, 1) := by decide +kernel
theorem dX7_lending_99 : decode cX7_lending 99 = .ok (.iconst 0, 1) := by decide +kernel
theorem dX7_lending_100 : decode cX7_lending 100 = .ok (.invokestatic 310, 3) := by decide +kernel
theorem dX7_lending_103 : decode cX7_lending 103 = .ok (.istore 7, 2) := by decide +kernel
theorem dX7_lending_105 : decode cX7_lending 105 = .ok (.aload 6, 2) := by decide +kernel
theorem dX7_lending_107 : decode cX7_lending 107 = .ok (.getfield 167, 3) := by decide +kernel
theorem dX7_lending_110 : decode cX7_lending 110 = .ok (.iload_n 2, 1) := by decide +kernel
theorem dX7_lending_111 : decode cX7_lending 111 = .ok (.iaload, 1) := by decide +kernel
theorem dX7_lending_112 : decode cX7_lending 112 = .ok (.aload 5, 2) := by decide +kernel
theorem dX7_lending_114 : decode cX7_lending 114 = .ok (.getfield 167, 3) := by decide +kernel
theorem dX7_lending_117 : decode cX7_lending 117 = .ok (.iload_n 2, 1) := by decide +kernel
theorem dX7_lending_118 : decode cX7_lending 118 = .ok (.iaload, 1) := by decide +kernel
theorem dX7_lending_119 : decode cX7_lending 119 = .ok (.isub, 1) := by decide +kernel
theorem dX7_lending_120 : decode cX7_lending 120 = .ok (.iconst 0, 1) := by decide +kernel
theorem dX7_lending_121 : decode cX7_lending 121 = .ok (.invokestatic 310, 3) := by decide +kernel
theorem dX7_lending_124 : decode cX7_lending 124 = .ok (.istore 8, 2) := by decide +kernel
theorem dX7_lending_126 : decode cX7_lending 126 = .ok (.iload 4, 2) := by decide +kernel
theorem dX7_lending_128 : decode cX7_lending 128 = .ok (.iconst 2, 1) := by decide +kernel
theorem dX7_lending_129 : decode cX7_lending 129 = .ok (.if_icmp .ne 20, 3) := by decide +kernel
theorem dX7_lending_132 : decode cX7_lending 132 = .ok (.iload 8, 2) := by decide +kernel
theorem dX7_lending_134 : decode cX7_lending 134 = .ok (.iload 7, 2) := by decide +kernel
theorem dX7_lending_136 : decode cX7_lending 136 = .ok (.if_icmp .le 10, 3) := by decide +kernel
theorem dX7_lending_139 : decode cX7_lending 139 = .ok (.iload 7, 2) := by decide +kernel
theorem dX7_lending_141 : decode cX7_lending 141 = .ok (.iconst 1, 1) := by decide +kernel
theorem dX7_lending_142 : decode cX7_lending 142 = .ok (.iadd, 1) := by decide +kernel
theorem dX7_lending_143 : decode cX7_lending 143 = .ok (.goto 5, 3) := by decide +kernel
theorem dX7_lending_146 : decode cX7_lending 146 = .ok (.bipush (-2), 2) := by decide +kernel
theorem dX7_lending_148 : decode cX7_lending 148 = .ok (.ireturn, 1) := by decide +kernel
theorem dX7_lending_149 : decode cX7_lending 149 = .ok (.iload 4, 2) := by decide +kernel
theorem dX7_lending_151 : decode cX7_lending 151 = .ok (.ifCond .ne 8, 3) := by decide +kernel
theorem dX7_lending_154 : decode cX7_lending 154 = .ok (.iload 7, 2) := by decide +kernel
theorem dX7_lending_156 : decode cX7_lending 156 = .ok (.goto 5, 3) := by decide +kernel
theorem dX7_lending_159 : decode cX7_lending 159 = .ok (.iload 8, 2) := by decide +kernel
theorem dX7_lending_161 : decode cX7_lending 161 = .ok (.ireturn, 1) := by decide +kernel
theorem dX7_findTurns_0 : decode cX7_findTurns 0 = .ok (.aload_n 0, 1) := by decide +kernel
theorem dX7_findTurns_1 : decode cX7_findTurns 1 = .ok (.iload_n 1, 1) := by decide +kernel
theorem dX7_findTurns_2 : decode cX7_findTurns 2 = .ok (.iconst 0, 1) := by decide +kernel
theorem dX7_findTurns_3 : decode cX7_findTurns 3 = .ok (.invokevirtual 272, 3) := by decide +kernel
theorem dX7_findTurns_6 : decode cX7_findTurns 6 = .ok (.iconst 0, 1) := by decide +kernel
theorem dX7_findTurns_7 : decode cX7_findTurns 7 = .ok (.istore_n 2, 1) := by decide +kernel
theorem dX7_findTurns_8 : decode cX7_findTurns 8 = .ok (.iload_n 2, 1) := by decide +kernel
theorem dX7_findTurns_9 : decode cX7_findTurns 9 = .ok (.aload_n 0, 1) := by decide +kernel
theorem dX7_findTurns_10 : decode cX7_findTurns 10 = .ok (.getfield 56, 3) := by decide +kernel
theorem dX7_findTurns_13 : decode cX7_findTurns 13 = .ok (.getfield 315, 3) := by decide +kernel
theorem dX7_findTurns_16 : decode cX7_findTurns 16 = .ok (.if_icmp .ge 21, 3) := by decide +kernel
theorem dX7_findTurns_19 : decode cX7_findTurns 19 = .ok (.aload_n 0, 1) := by decide +kernel
theorem dX7_findTurns_20 : decode cX7_findTurns 20 = .ok (.getfield 78, 3) := by decide +kernel
theorem dX7_findTurns_23 : decode cX7_findTurns 23 = .ok (.iconst 0, 1) := by decide +kernel
theorem dX7_findTurns_24 : decode cX7_findTurns 24 = .ok (.aaload, 1) := by decide +kernel
theorem dX7_findTurns_25 : decode cX7_findTurns 25 = .ok (.getfield 161, 3) := by decide +kernel
theorem dX7_findTurns_28 : decode cX7_findTurns 28 = .ok (.iload_n 2, 1) := by decide +kernel
theorem dX7_findTurns_29 : decode cX7_findTurns 29 = .ok (.iconst 0, 1) := by decide +kernel
theorem dX7_findTurns_30 : decode cX7_findTurns 30 = .ok (.iastore, 1) := by decide +kernel
theorem dX7_findTurns_31 : decode cX7_findTurns 31 = .ok (.iinc 2 1, 3) := by decide +kernel
theorem dX7_findTurns_34 : decode cX7_findTurns 34 = .ok (.goto (-26), 3) := by decide +kernel
theorem dX7_findTurns_37 : decode cX7_findTurns 37 = .ok (.aload_n 0, 1) := by decide +kernel
theorem dX7_findTurns_38 : decode cX7_findTurns 38 = .ok (.getfield 56, 3) := by decide +kernel
theorem dX7_findTurns_41 : decode cX7_findTurns 41 = .ok (.getfield 315, 3) := by decide +kernel
theorem dX7_findTurns_44 : decode cX7_findTurns 44 = .ok (.iload_n 1, 1) := by decide +kernel
theorem dX7_findTurns_45 : decode cX7_findTurns 45 = .ok (.invokestatic 275, 3) := by decide +kernel
theorem dX7_findTurns_48 : decode cX7_findTurns 48 = .ok (.istore_n 2, 1) := by decide +kernel
theorem dX7_findTurns_49 : decode cX7_findTurns 49 = .ok (.iconst (-1), 1) := by decide +kernel
theorem dX7_findTurns_50 : decode cX7_findTurns 50 = .ok (.istore_n 3, 1) := by decide +kernel
theorem dX7_findTurns_51 : decode cX7_findTurns 51 = .ok (.iconst 0, 1) := by decide +kernel
theorem dX7_findTurns_52 : decode cX7_findTurns 52 = .ok (.istore 4, 2) := by decide +kernel
theorem dX7_findTurns_54 : decode cX7_findTurns 54 = .ok (.iconst 0, 1) := by decide +kernel
theorem dX7_findTurns_55 : decode cX7_findTurns 55 = .ok (.istore 5, 2) := by decide +kernel
theorem dX7_findTurns_57 : decode cX7_findTurns 57 = .ok (.iconst 0, 1) := by decide +kernel
theorem dX7_findTurns_58 : decode cX7_findTurns 58 = .ok (.istore 6, 2) := by decide +kernel
theorem dX7_findTurns_60 : decode cX7_findTurns 60 = .ok (.iload 6, 2) := by decide +kernel
theorem dX7_findTurns_62 : decode cX7_findTurns 62 = .ok (.iload_n 2, 1) := by decide +kernel
theorem dX7_findTurns_63 : decode cX7_findTurns 63 = .ok (.if_icmp .ge 164, 3) := by decide +kernel
theorem dX7_findTurns_66 : decode cX7_findTurns 66 = .ok (.iload 5, 2) := by decide +kernel
theorem dX7_findTurns_68 : decode cX7_findTurns 68 = .ok (.istore 7, 2) := by decide +kernel
theorem dX7_findTurns_70 : decode cX7_findTurns 70 = .ok (.iload 7, 2) := by decide +kernel
theorem dX7_findTurns_72 : decode cX7_findTurns 72 = .ok (.iload_n 1, 1) := by decide +kernel
theorem dX7_findTurns_73 : decode cX7_findTurns 73 = .ok (.if_icmp .ge 59, 3) := by decide +kernel
theorem dX7_findTurns_76 : decode cX7_findTurns 76 = .ok (.aload_n 0, 1) := by decide +kernel
theorem dX7_findTurns_77 : decode cX7_findTurns 77 = .ok (.getfield 78, 3) := by decide +kernel
theorem dX7_findTurns_80 : decode cX7_findTurns 80 = .ok (.iload 7, 2) := by decide +kernel
theorem dX7_findTurns_82 : decode cX7_findTurns 82 = .ok (.iconst 1, 1) := by decide +kernel
theorem dX7_findTurns_83 : decode cX7_findTurns 83 = .ok (.iadd, 1) := by decide +kernel
theorem dX7_findTurns_84 : decode cX7_findTurns 84 = .ok (.aaload, 1) := by decide +kernel
theorem dX7_findTurns_85 : decode cX7_findTurns 85 = .ok (.aload_n 0, 1) := by decide +kernel
theorem dX7_findTurns_86 : decode cX7_findTurns 86 = .ok (.getfield 78, 3) := by decide +kernel
theorem dX7_findTurns_89 : decode cX7_findTurns 89 = .ok (.iload 7, 2) := by decide +kernel
theorem dX7_findTurns_91 : decode cX7_findTurns 91 = .ok (.aaload, 1) := by decide +kernel
theorem dX7_findTurns_92 : decode cX7_findTurns 92 = .ok (.invokevirtual 109, 3) := by decide +kernel
theorem dX7_findTurns_95 : decode cX7_findTurns 95 = .ok (.aload_n 0, 1) := by decide +kernel
theorem dX7_findTurns_96 : decode cX7_findTurns 96 = .ok (.getfield 78, 3) := by decide +kernel
theorem dX7_findTurns_99 : decode cX7_findTurns 99 = .ok (.iload 7, 2) := by decide +kernel
theorem dX7_findTurns_101 : decode cX7_findTurns 101 = .ok (.iconst 1, 1) := by decide +kernel
theorem dX7_findTurns_102 : decode cX7_findTurns 102 = .ok (.iadd, 1) := by decide +kernel
theorem dX7_findTurns_103 : decode cX7_findTurns 103 = .ok (.aaload, 1) := by decide +kernel
theorem dX7_findTurns_104 : decode cX7_findTurns 104 = .ok (.aload_n 0, 1) := by decide +kernel
theorem dX7_findTurns_105 : decode cX7_findTurns 105 = .ok (.getfield 37, 3) := by decide +kernel
theorem dX7_findTurns_108 : decode cX7_findTurns 108 = .ok (.iload 7, 2) := by decide +kernel
theorem dX7_findTurns_110 : decode cX7_findTurns 110 = .ok (.iaload, 1) := by decide +kernel
theorem dX7_findTurns_111 : decode cX7_findTurns 111 = .ok (.invokevirtual 321, 3) := by decide +kernel
theorem dX7_findTurns_114 : decode cX7_findTurns 114 = .ok (.aload_n 0, 1) := by decide +kernel
theorem dX7_findTurns_115 : decode cX7_findTurns 115 = .ok (.getfield 78, 3) := by decide +kernel
theorem dX7_findTurns_118 : decode cX7_findTurns 118 = .ok (.iload 7, 2) := by decide +kernel
theorem dX7_findTurns_120 : decode cX7_findTurns 120 = .ok (.iconst 1, 1) := by decide +kernel
theorem dX7_findTurns_121 : decode cX7_findTurns 121 = .ok (.iadd, 1) := by decide +kernel
theorem dX7_findTurns_122 : decode cX7_findTurns 122 = .ok (.aaload, 1) := by decide +kernel
theorem dX7_findTurns_123 : decode cX7_findTurns 123 = .ok (.invokevirtual 278, 3) := by decide +kernel
theorem dX7_findTurns_126 : decode cX7_findTurns 126 = .ok (.iinc 7 1, 3) := by decide +kernel
theorem dX7_findTurns_129 : decode cX7_findTurns 129 = .ok (.goto (-59), 3) := by decide +kernel
theorem dX7_findTurns_132 : decode cX7_findTurns 132 = .ok (.aload_n 0, 1) := by decide +kernel
theorem dX7_findTurns_133 : decode cX7_findTurns 133 = .ok (.getfield 78, 3) := by decide +kernel
theorem dX7_findTurns_136 : decode cX7_findTurns 136 = .ok (.iload_n 1, 1) := by decide +kernel
theorem dX7_findTurns_137 : decode cX7_findTurns 137 = .ok (.aaload, 1) := by decide +kernel
theorem dX7_findTurns_138 : decode cX7_findTurns 138 = .ok (.getfield 221, 3) := by decide +kernel
theorem dX7_findTurns_141 : decode cX7_findTurns 141 = .ok (.istore 7, 2) := by decide +kernel
theorem dX7_findTurns_143 : decode cX7_findTurns 143 = .ok (.aload_n 0, 1) := by decide +kernel
theorem dX7_findTurns_144 : decode cX7_findTurns 144 = .ok (.getfield 78, 3) := by decide +kernel
theorem dX7_findTurns_147 : decode cX7_findTurns 147 = .ok (.iload_n 1, 1) := by decide +kernel
theorem dX7_findTurns_148 : decode cX7_findTurns 148 = .ok (.aaload, 1) := by decide +kernel
theorem dX7_findTurns_149 : decode cX7_findTurns 149 = .ok (.getfield 170, 3) := by decide +kernel
theorem dX7_findTurns_152 : decode cX7_findTurns 152 = .ok (.aload_n 0, 1) := by decide +kernel
theorem dX7_findTurns_153 : decode cX7_findTurns 153 = .ok (.getfield 56, 3) := by decide +kernel
theorem dX7_findTurns_156 : decode cX7_findTurns 156 = .ok (.getfield 315, 3) := by decide +kernel
theorem dX7_findTurns_159 : decode cX7_findTurns 159 = .ok (.invokestatic 324, 3) := by decide +kernel
theorem dX7_findTurns_162 : decode cX7_findTurns 162 = .ok (.istore 8, 2) := by decide +kernel
theorem dX7_findTurns_164 : decode cX7_findTurns 164 = .ok (.iload 7, 2) := by decide +kernel
theorem dX7_findTurns_166 : decode cX7_findTurns 166 = .ok (.iload_n 3, 1) := by decide +kernel
theorem dX7_findTurns_167 : decode cX7_findTurns 167 = .ok (.if_icmp .gt 16, 3) := by decide +kernel
theorem dX7_findTurns_170 : decode cX7_findTurns 170 = .ok (.iload 7, 2) := by decide +kernel
theorem dX7_findTurns_172 : decode cX7_findTurns 172 = .ok (.iload_n 3, 1) := by decide +kernel
theorem dX7_findTurns_173 : decode cX7_findTurns 173 = .ok (.if_icmp .ne 31, 3) := by decide +kernel
theorem dX7_findTurns_176 : decode cX7_findTurns 176 = .ok (.iload 8, 2) := by decide +kernel
theorem dX7_findTurns_178 : decode cX7_findTurns 178 = .ok (.iload 4, 2) := by decide +kernel
theorem dX7_findTurns_180 : decode cX7_findTurns 180 = .ok (.if_icmp .ge 24, 3) := by decide +kernel
theorem dX7_findTurns_183 : decode cX7_findTurns 183 = .ok (.iload 7, 2) := by decide +kernel
theorem dX7_findTurns_185 : decode cX7_findTurns 185 = .ok (.istore_n 3, 1) := by decide +kernel
theorem dX7_findTurns_186 : decode cX7_findTurns 186 = .ok (.iload 8, 2) := by decide +kernel
theorem dX7_findTurns_188 : decode cX7_findTurns 188 = .ok (.istore 4, 2) := by decide +kernel
theorem dX7_findTurns_190 : decode cX7_findTurns 190 = .ok (.aload_n 0, 1) := by decide +kernel
theorem dX7_findTurns_191 : decode cX7_findTurns 191 = .ok (.getfield 37, 3) := by decide +kernel
theorem dX7_findTurns_194 : decode cX7_findTurns 194 = .ok (.iconst 0, 1) := by decide +kernel
theorem dX7_findTurns_195 : decode cX7_findTurns 195 = .ok (.aload_n 0, 1) := by decide +kernel
theorem dX7_findTurns_196 : decode cX7_findTurns 196 = .ok (.getfield 41, 3) := by decide +kernel
theorem dX7_findTurns_199 : decode cX7_findTurns 199 = .ok (.iconst 0, 1) := by decide +kernel
theorem dX7_findTurns_200 : decode cX7_findTurns 200 = .ok (.iload_n 1, 1) := by decide +kernel
theorem dX7_findTurns_201 : decode cX7_findTurns 201 = .ok (.invokestatic 281, 3) := by decide +kernel
theorem dX7_findTurns_204 : decode cX7_findTurns 204 = .ok (.aload_n 0, 1) := by decide +kernel
theorem dX7_findTurns_205 : decode cX7_findTurns 205 = .ok (.iload_n 1, 1) := by decide +kernel
theorem dX7_findTurns_206 : decode cX7_findTurns 206 = .ok (.iconst 0, 1) := by decide +kernel
theorem dX7_findTurns_207 : decode cX7_findTurns 207 = .ok (.aload_n 0, 1) := by decide +kernel
theorem dX7_findTurns_208 : decode cX7_findTurns 208 = .ok (.getfield 56, 3) := by decide +kernel
theorem dX7_findTurns_211 : decode cX7_findTurns 211 = .ok (.getfield 315, 3) := by decide +kernel
theorem dX7_findTurns_214 : decode cX7_findTurns 214 = .ok (.iconst 1, 1) := by decide +kernel
theorem dX7_findTurns_215 : decode cX7_findTurns 215 = .ok (.isub, 1) := by decide +kernel
theorem dX7_findTurns_216 : decode cX7_findTurns 216 = .ok (.invokevirtual 287, 3) := by decide +kernel
theorem dX7_findTurns_219 : decode cX7_findTurns 219 = .ok (.istore 5, 2) := by decide +kernel
theorem dX7_findTurns_221 : decode cX7_findTurns 221 = .ok (.iinc 6 1, 3) := by decide +kernel
theorem dX7_findTurns_224 : decode cX7_findTurns 224 = .ok (.goto (-164), 3) := by decide +kernel
theorem dX7_findTurns_227 : decode cX7_findTurns 227 = .ok (.iload_n 3, 1) := by decide +kernel
theorem dX7_findTurns_228 : decode cX7_findTurns 228 = .ok (.ireturn, 1) := by decide +kernel
theorem dX7_turns_0 : decode cX7_turns 0 = .ok (.iload_n 1, 1) := by decide +kernel
theorem dX7_turns_1 : decode cX7_turns 1 = .ok (.iconst 1, 1) := by decide +kernel
theorem dX7_turns_2 : decode cX7_turns 2 = .ok (.iconst 4, 1) := by decide +kernel
theorem dX7_turns_3 : decode cX7_turns 3 = .ok (.invokestatic 247, 3) := by decide +kernel
theorem dX7_turns_6 : decode cX7_turns 6 = .ok (.ifCond .eq 21, 3) := by decide +kernel
theorem dX7_turns_9 : decode cX7_turns 9 = .ok (.aload_n 0, 1) := by decide +kernel
theorem dX7_turns_10 : decode cX7_turns 10 = .ok (.getfield 56, 3) := by decide +kernel
theorem dX7_turns_13 : decode cX7_turns 13 = .ok (.getfield 315, 3) := by decide +kernel
theorem dX7_turns_16 : decode cX7_turns 16 = .ok (.ifCond .le 11, 3) := by decide +kernel
theorem dX7_turns_19 : decode cX7_turns 19 = .ok (.aload_n 0, 1) := by decide +kernel
theorem dX7_turns_20 : decode cX7_turns 20 = .ok (.iload_n 1, 1) := by decide +kernel
theorem dX7_turns_21 : decode cX7_turns 21 = .ok (.invokevirtual 318, 3) := by decide +kernel
theorem dX7_turns_24 : decode cX7_turns 24 = .ok (.goto 4, 3) := by decide +kernel
theorem dX7_turns_27 : decode cX7_turns 27 = .ok (.iconst (-1), 1) := by decide +kernel
theorem dX7_turns_28 : decode cX7_turns 28 = .ok (.ireturn, 1) := by decide +kernel
theorem dX7_turn_0 : decode cX7_turn 0 = .ok (.iload_n 1, 1) := by decide +kernel
theorem dX7_turn_1 : decode cX7_turn 1 = .ok (.iconst 1, 1) := by decide +kernel
theorem dX7_turn_2 : decode cX7_turn 2 = .ok (.iconst 4, 1) := by decide +kernel
theorem dX7_turn_3 : decode cX7_turn 3 = .ok (.invokestatic 247, 3) := by decide +kernel
theorem dX7_turn_6 : decode cX7_turn 6 = .ok (.ifCond .eq 17, 3) := by decide +kernel
theorem dX7_turn_9 : decode cX7_turn 9 = .ok (.aload_n 0, 1) := by decide +kernel
theorem dX7_turn_10 : decode cX7_turn 10 = .ok (.getfield 56, 3) := by decide +kernel
theorem dX7_turn_13 : decode cX7_turn 13 = .ok (.getfield 315, 3) := by decide +kernel
theorem dX7_turn_16 : decode cX7_turn 16 = .ok (.ifCond .eq 7, 3) := by decide +kernel
theorem dX7_turn_19 : decode cX7_turn 19 = .ok (.iload_n 2, 1) := by decide +kernel
theorem dX7_turn_20 : decode cX7_turn 20 = .ok (.ifCond .ge 5, 3) := by decide +kernel
theorem dX7_turn_23 : decode cX7_turn 23 = .ok (.iconst (-1), 1) := by decide +kernel
theorem dX7_turn_24 : decode cX7_turn 24 = .ok (.ireturn, 1) := by decide +kernel
theorem dX7_turn_25 : decode cX7_turn 25 = .ok (.iload_n 2, 1) := by decide +kernel
theorem dX7_turn_26 : decode cX7_turn 26 = .ok (.iload_n 1, 1) := by decide +kernel
theorem dX7_turn_27 : decode cX7_turn 27 = .ok (.if_icmp .lt 6, 3) := by decide +kernel
theorem dX7_turn_30 : decode cX7_turn 30 = .ok (.bipush (-2), 2) := by decide +kernel
theorem dX7_turn_32 : decode cX7_turn 32 = .ok (.ireturn, 1) := by decide +kernel
theorem dX7_turn_33 : decode cX7_turn 33 = .ok (.aload_n 0, 1) := by decide +kernel
theorem dX7_turn_34 : decode cX7_turn 34 = .ok (.iload_n 1, 1) := by decide +kernel
theorem dX7_turn_35 : decode cX7_turn 35 = .ok (.invokevirtual 318, 3) := by decide +kernel
theorem dX7_turn_38 : decode cX7_turn 38 = .ok (.pop, 1) := by decide +kernel
theorem dX7_turn_39 : decode cX7_turn 39 = .ok (.aload_n 0, 1) := by decide +kernel
theorem dX7_turn_40 : decode cX7_turn 40 = .ok (.getfield 41, 3) := by decide +kernel
theorem dX7_turn_43 : decode cX7_turn 43 = .ok (.iload_n 2, 1) := by decide +kernel
theorem dX7_turn_44 : decode cX7_turn 44 = .ok (.iaload, 1) := by decide +kernel
theorem dX7_turn_45 : decode cX7_turn 45 = .ok (.ireturn, 1) := by decide +kernel
theorem dX7_commonDivisor_0 : decode cX7_commonDivisor 0 = .ok (.iload_n 0, 1) := by decide +kernel
theorem dX7_commonDivisor_1 : decode cX7_commonDivisor 1 = .ok (.istore_n 2, 1) := by decide +kernel
theorem dX7_commonDivisor_2 : decode cX7_commonDivisor 2 = .ok (.iload_n 1, 1) := by decide +kernel
theorem dX7_commonDivisor_3 : decode cX7_commonDivisor 3 = .ok (.istore_n 3, 1) := by decide +kernel
theorem dX7_commonDivisor_4 : decode cX7_commonDivisor 4 = .ok (.iconst 0, 1) := by decide +kernel
theorem dX7_commonDivisor_5 : decode cX7_commonDivisor 5 = .ok (.istore 4, 2) := by decide +kernel
theorem dX7_commonDivisor_7 : decode cX7_commonDivisor 7 = .ok (.iload 4, 2) := by decide +kernel
theorem dX7_commonDivisor_9 : decode cX7_commonDivisor 9 = .ok (.bipush 64, 2) := by decide +kernel
theorem dX7_commonDivisor_11 : decode cX7_commonDivisor 11 = .ok (.if_icmp .ge 23, 3) := by decide +kernel
theorem dX7_commonDivisor_14 : decode cX7_commonDivisor 14 = .ok (.iload_n 3, 1) := by decide +kernel
theorem dX7_commonDivisor_15 : decode cX7_commonDivisor 15 = .ok (.ifCond .eq 19, 3) := by decide +kernel
theorem dX7_commonDivisor_18 : decode cX7_commonDivisor 18 = .ok (.iload_n 2, 1) := by decide +kernel
theorem dX7_commonDivisor_19 : decode cX7_commonDivisor 19 = .ok (.iload_n 3, 1) := by decide +kernel
theorem dX7_commonDivisor_20 : decode cX7_commonDivisor 20 = .ok (.irem, 1) := by decide +kernel
theorem dX7_commonDivisor_21 : decode cX7_commonDivisor 21 = .ok (.istore 5, 2) := by decide +kernel
theorem dX7_commonDivisor_23 : decode cX7_commonDivisor 23 = .ok (.iload_n 3, 1) := by decide +kernel
theorem dX7_commonDivisor_24 : decode cX7_commonDivisor 24 = .ok (.istore_n 2, 1) := by decide +kernel
theorem dX7_commonDivisor_25 : decode cX7_commonDivisor 25 = .ok (.iload 5, 2) := by decide +kernel
theorem dX7_commonDivisor_27 : decode cX7_commonDivisor 27 = .ok (.istore_n 3, 1) := by decide +kernel
theorem dX7_commonDivisor_28 : decode cX7_commonDivisor 28 = .ok (.iinc 4 1, 3) := by decide +kernel
theorem dX7_commonDivisor_31 : decode cX7_commonDivisor 31 = .ok (.goto (-24), 3) := by decide +kernel
theorem dX7_commonDivisor_34 : decode cX7_commonDivisor 34 = .ok (.iload_n 2, 1) := by decide +kernel
theorem dX7_commonDivisor_35 : decode cX7_commonDivisor 35 = .ok (.ireturn, 1) := by decide +kernel
theorem dX7_odds_0 : decode cX7_odds 0 = .ok (.iload_n 1, 1) := by decide +kernel
theorem dX7_odds_1 : decode cX7_odds 1 = .ok (.iconst 1, 1) := by decide +kernel
theorem dX7_odds_2 : decode cX7_odds 2 = .ok (.iconst 4, 1) := by decide +kernel
theorem dX7_odds_3 : decode cX7_odds 3 = .ok (.invokestatic 247, 3) := by decide +kernel
theorem dX7_odds_6 : decode cX7_odds 6 = .ok (.ifCond .eq 12, 3) := by decide +kernel
theorem dX7_odds_9 : decode cX7_odds 9 = .ok (.iload_n 2, 1) := by decide +kernel
theorem dX7_odds_10 : decode cX7_odds 10 = .ok (.iconst 0, 1) := by decide +kernel
theorem dX7_odds_11 : decode cX7_odds 11 = .ok (.iconst 1, 1) := by decide +kernel
theorem dX7_odds_12 : decode cX7_odds 12 = .ok (.invokestatic 247, 3) := by decide +kernel
theorem dX7_odds_15 : decode cX7_odds 15 = .ok (.ifCond .ne 5, 3) := by decide +kernel
theorem dX7_odds_18 : decode cX7_odds 18 = .ok (.iconst (-1), 1) := by decide +kernel
theorem dX7_odds_19 : decode cX7_odds 19 = .ok (.ireturn, 1) := by decide +kernel
theorem dX7_odds_20 : decode cX7_odds 20 = .ok (.bipush 100, 2) := by decide +kernel
theorem dX7_odds_22 : decode cX7_odds 22 = .ok (.iload_n 1, 1) := by decide +kernel
theorem dX7_odds_23 : decode cX7_odds 23 = .ok (.invokestatic 275, 3) := by decide +kernel
theorem dX7_odds_26 : decode cX7_odds 26 = .ok (.istore_n 3, 1) := by decide +kernel
theorem dX7_odds_27 : decode cX7_odds 27 = .ok (.iload_n 3, 1) := by decide +kernel
theorem dX7_odds_28 : decode cX7_odds 28 = .ok (.bipush 100, 2) := by decide +kernel
theorem dX7_odds_30 : decode cX7_odds 30 = .ok (.aload_n 0, 1) := by decide +kernel
theorem dX7_odds_31 : decode cX7_odds 31 = .ok (.getfield 56, 3) := by decide +kernel
theorem dX7_odds_34 : decode cX7_odds 34 = .ok (.getfield 328, 3) := by decide +kernel
theorem dX7_odds_37 : decode cX7_odds 37 = .ok (.isub, 1) := by decide +kernel
theorem dX7_odds_38 : decode cX7_odds 38 = .ok (.iload_n 1, 1) := by decide +kernel
theorem dX7_odds_39 : decode cX7_odds 39 = .ok (.invokestatic 275, 3) := by decide +kernel
theorem dX7_odds_42 : decode cX7_odds 42 = .ok (.isub, 1) := by decide +kernel
theorem dX7_odds_43 : decode cX7_odds 43 = .ok (.istore 4, 2) := by decide +kernel
theorem dX7_odds_45 : decode cX7_odds 45 = .ok (.iload_n 3, 1) := by decide +kernel
theorem dX7_odds_46 : decode cX7_odds 46 = .ok (.iload 4, 2) := by decide +kernel
theorem dX7_odds_48 : decode cX7_odds 48 = .ok (.invokestatic 331, 3) := by decide +kernel
theorem dX7_odds_51 : decode cX7_odds 51 = .ok (.istore 5, 2) := by decide +kernel
theorem dX7_odds_53 : decode cX7_odds 53 = .ok (.iload 5, 2) := by decide +kernel
theorem dX7_odds_55 : decode cX7_odds 55 = .ok (.ifCond .ne 5, 3) := by decide +kernel
theorem dX7_odds_58 : decode cX7_odds 58 = .ok (.iconst (-1), 1) := by decide +kernel
theorem dX7_odds_59 : decode cX7_odds 59 = .ok (.ireturn, 1) := by decide +kernel
theorem dX7_odds_60 : decode cX7_odds 60 = .ok (.iload_n 2, 1) := by decide +kernel
theorem dX7_odds_61 : decode cX7_odds 61 = .ok (.ifCond .ne 11, 3) := by decide +kernel
theorem dX7_odds_64 : decode cX7_odds 64 = .ok (.iload 4, 2) := by decide +kernel
theorem dX7_odds_66 : decode cX7_odds 66 = .ok (.iload 5, 2) := by decide +kernel
theorem dX7_odds_68 : decode cX7_odds 68 = .ok (.idiv, 1) := by decide +kernel
theorem dX7_odds_69 : decode cX7_odds 69 = .ok (.goto 7, 3) := by decide +kernel
theorem dX7_odds_72 : decode cX7_odds 72 = .ok (.iload_n 3, 1) := by decide +kernel
theorem dX7_odds_73 : decode cX7_odds 73 = .ok (.iload 5, 2) := by decide +kernel
theorem dX7_odds_75 : decode cX7_odds 75 = .ok (.idiv, 1) := by decide +kernel
theorem dX7_odds_76 : decode cX7_odds 76 = .ok (.ireturn, 1) := by decide +kernel
def f_X7_swap (N : Nat) (h : Hp) (p1 : Int32) : Option (Int32 × Hp) :=
  (f_X7_isIn p1 0 2).bind fun v1 =>
  if ¬ (b2i v1) = 0 then
    bd2 (f_X7_findSwap N h) fun v3 h2 =>
    jn (fun (v4 : Int32) =>
      some (v4, h2)) fun (j29 : Int32 → Option (Int32 × Hp)) =>
    if (b2i v3) = 0 then
      j29 (-2)
    else
    grd (inb p1 3) <|
    j29 (gA h2 7 0 4 p1.toNatClampNeg)
  else
  some ((-1), h)
abbrev rmX7_swap : Room := { frames := 4, cells := 0, slots := 0, locals := 92 }
set_option maxRecDepth 100000 in
set_option maxHeartbeats 4000000 in
theorem w_X7_swap (X : Cx) (F : Fx X cX7_swap RX7 (some .int) rmX7_swap) (hA : xA X = Aw (xG X)) (hL : xL X = 2) (N : Nat) (h : Hp) (p1 : Int32) : Wm X (fun v => some (.int v.1)) (fun v => v.2) (fun _ => True) 0 [(0, .ref (adr (xG X) 7 0 0)), (1, .int p1)] [] h (f_X7_swap N h p1) := by
  have hS : ∀ i : Nat, i < 2 → i < xL X := fun i z => by rw [hL]; exact z
  unfold f_X7_swap
  refine r_iload_n F 1 rfl dX7_swap_0 rfl ?_
  refine r_iconst F (v := 0) dX7_swap_1 (by decide) ?_
  refine r_iconst F (v := 2) dX7_swap_2 (by decide) ?_
  refine k_zP (run_S F csX7_247 (c_X7_isIn (xG X) _ h p1 0 2) rfl rfl ⟨⟨rfl, rfl⟩, Nat.le_of_ble_eq_true rfl, Nat.le_of_ble_eq_true rfl⟩ (Nat.le_of_ble_eq_true rfl) dX7_swap_3) fun v1 _ => ?_
  refine r_ifne F (tgt := 11) dX7_swap_6 (by decide) ?_ ?_
  · skip
    refine r_aload_n F 0 rfl dX7_swap_11 rfl ?_
    refine k_zH (run_V F cvX7_303 (by decide) (c_X7_findSwap (xG X) _ N h) rfl rfl ⟨⟨rfl, rfl⟩, Nat.le_of_ble_eq_true rfl, Nat.le_of_ble_eq_true rfl⟩ (Nat.le_of_ble_eq_true rfl) dX7_swap_12) fun v3 h2 => ?_
    refine Wt_jn (fun (j29 : Int32 → Option (Int32 × Hp)) => ∀ v4 : Int32, Wm X (fun v => some (.int v.1)) (fun v => v.2) (fun _ => True) 29 [] [.int v4] h2 (j29 v4)) ?_ fun j29 hj29 => ?_
    · intro v4
      exact r_iret F hA rfl rfl trivial dX7_swap_29
    refine r_ifeq F (tgt := 27) dX7_swap_15 (by decide) ?_ ?_
    · skip
      refine r_bipush F (v := (-2)) dX7_swap_27 (by decide) ?_
      exact Wt_pick [] rfl (hj29 (-2))
    refine r_aload_n F 0 rfl dX7_swap_18 rfl ?_
    refine r_getA F frX7_50 (by decide) dX7_swap_19 ?_
    refine r_iload_n F 1 rfl dX7_swap_22 rfl ?_
    refine r_iaload F (ar_7_4 0 (by decide)) dX7_swap_23 ?_
    refine r_goto F (tgt := 29) dX7_swap_24 (by decide) ?_
    exact Wt_pick [] rfl (hj29 (gA h2 7 0 4 p1.toNatClampNeg))
  refine r_iconst F (v := (-1)) dX7_swap_9 (by decide) ?_
  exact r_iret F hA rfl rfl trivial dX7_swap_10
theorem c_X7_swap (G : Gx) (l : Launch) (N : Nat) (h : Hp) (p1 : Int32) : Ctr G l yX7_swap (.code yX7_swap cX7_swap 2 (some .int) :: GT) rmX7_swap [.ref (adr G 7 0 0), .int p1] h (f_X7_swap N h p1) (fun v => some (.int v.1)) (fun v => v.2) (fun _ => True) :=
  ctr_of (by decide) (Nat.le_of_ble_eq_true rfl) ⟨rfl, rfl⟩ fun X _ e2 hA hL F => by subst e2; exact w_X7_swap X F hA hL N h p1
def f_X7_lending (N : Nat) (h : Hp) (p1 : Int32) (p2 : Int32) (p3 : Int32) (p4 : Int32) : Option (Int32 × Hp) :=
  (f_X7_canLend h p1 p2).bind fun v1 =>
  jn (
    some ((-1), h)) fun (j29 : Option (Int32 × Hp)) =>
  if (b2i v1) = 0 then
    j29
  else
  (f_X7_isIn p3 1 99).bind fun v2 =>
  if (b2i v2) = 0 then
    j29
  else
  (f_X7_isIn p4 0 2).bind fun v3 =>
  if ¬ (b2i v3) = 0 then
    grd (inb 0 7) <| lt_ (3 + (0 : Int32).toNatClampNeg) fun o4 =>
    (f_X3_copy h o4 1).bind fun h5 =>
    (f_X3_passHours N h5 o4 p3).bind fun h6 =>
    grd (inb 1 7) <| lt_ (3 + (1 : Int32).toNatClampNeg) fun o7 =>
    (f_X3_copy h6 o7 1).bind fun h8 =>
    (f_X3_moveCart h8 o7 p1 p2).bind fun h9 =>
    (f_X3_passHours N h9 o7 p3).bind fun h10 =>
    grd (inb p1 4) <|
    grd (inb p1 4) <|
    lt_ ((if ((gA h10 3 o4 6 p1.toNatClampNeg) - (gA h10 3 o7 6 p1.toNatClampNeg)) < 0 then 0 else ((gA h10 3 o4 6 p1.toNatClampNeg) - (gA h10 3 o7 6 p1.toNatClampNeg)))) fun v11 =>
    grd (inb p2 4) <|
    grd (inb p2 4) <|
    lt_ ((if ((gA h10 3 o7 6 p2.toNatClampNeg) - (gA h10 3 o4 6 p2.toNatClampNeg)) < 0 then 0 else ((gA h10 3 o7 6 p2.toNatClampNeg) - (gA h10 3 o4 6 p2.toNatClampNeg)))) fun v12 =>
    if ¬ p4 = 2 then
      jn (fun (v13 : Int32) =>
        some (v13, h10)) fun (j161 : Int32 → Option (Int32 × Hp)) =>
      if ¬ p4 = 0 then
        j161 v12
      else
      j161 v11
    else
    jn (fun (v14 : Int32) =>
      some (v14, h10)) fun (j148 : Int32 → Option (Int32 × Hp)) =>
    if v12 ≤ v11 then
      j148 (-2)
    else
    j148 (v11 + 1)
  else
  j29
abbrev rmX7_lending : Room := { frames := 6, cells := 0, slots := 0, locals := 148 }
set_option maxRecDepth 100000 in
set_option maxHeartbeats 4000000 in
theorem w_X7_lending (X : Cx) (F : Fx X cX7_lending RX7 (some .int) rmX7_lending) (hA : xA X = Aw (xG X)) (hL : xL X = 9) (N : Nat) (h : Hp) (p1 : Int32) (p2 : Int32) (p3 : Int32) (p4 : Int32) : Wm X (fun v => some (.int v.1)) (fun v => v.2) (fun _ => True) 0 [(0, .ref (adr (xG X) 7 0 0)), (1, .int p1), (2, .int p2), (3, .int p3), (4, .int p4)] [] h (f_X7_lending N h p1 p2 p3 p4) := by
  have hS : ∀ i : Nat, i < 9 → i < xL X := fun i z => by rw [hL]; exact z
  unfold f_X7_lending
  refine r_aload_n F 0 rfl dX7_lending_0 rfl ?_
  refine r_iload_n F 1 rfl dX7_lending_1 rfl ?_
  refine r_iload_n F 2 rfl dX7_lending_2 rfl ?_
  refine k_zP (run_V F cvX7_234 (by decide) (c_X7_canLend (xG X) _ h p1 p2) rfl rfl ⟨⟨rfl, rfl⟩, Nat.le_of_ble_eq_true rfl, Nat.le_of_ble_eq_true rfl⟩ (Nat.le_of_ble_eq_true rfl) dX7_lending_3) fun v1 _ => ?_
  refine Wt_jn (fun (j29 : Option (Int32 × Hp)) => Wm X (fun v => some (.int v.1)) (fun v => v.2) (fun _ => True) 29 [] [] h (j29)) ?_ fun j29 hj29 => ?_
  · skip
    refine r_iconst F (v := (-1)) dX7_lending_29 (by decide) ?_
    exact r_iret F hA rfl rfl trivial dX7_lending_30
  refine r_ifeq F (tgt := 29) dX7_lending_6 (by decide) ?_ ?_
  · skip
    exact Wt_pick [] rfl (hj29)
  refine r_iload_n F 3 rfl dX7_lending_9 rfl ?_
  refine r_iconst F (v := 1) dX7_lending_10 (by decide) ?_
  refine r_bipush F (v := 99) dX7_lending_11 (by decide) ?_
  refine k_zP (run_S F csX7_247 (c_X7_isIn (xG X) _ h p3 1 99) rfl rfl ⟨⟨rfl, rfl⟩, Nat.le_of_ble_eq_true rfl, Nat.le_of_ble_eq_true rfl⟩ (Nat.le_of_ble_eq_true rfl) dX7_lending_13) fun v2 _ => ?_
  refine r_ifeq F (tgt := 29) dX7_lending_16 (by decide) ?_ ?_
  · skip
    exact Wt_pick [] rfl (hj29)
  refine r_iload F 4 rfl dX7_lending_19 ?_
  refine r_iconst F (v := 0) dX7_lending_21 (by decide) ?_
  refine r_iconst F (v := 2) dX7_lending_22 (by decide) ?_
  refine k_zP (run_S F csX7_247 (c_X7_isIn (xG X) _ h p4 0 2) rfl rfl ⟨⟨rfl, rfl⟩, Nat.le_of_ble_eq_true rfl, Nat.le_of_ble_eq_true rfl⟩ (Nat.le_of_ble_eq_true rfl) dX7_lending_23) fun v3 _ => ?_
  refine r_ifne F (tgt := 31) dX7_lending_26 (by decide) ?_ ?_
  · skip
    refine r_aload_n F 0 rfl dX7_lending_31 rfl ?_
    refine r_getA F frX7_78 (by decide) dX7_lending_32 ?_
    refine r_iconst F (v := 0) dX7_lending_35 (by decide) ?_
    refine r_aaload F dX7_lending_36 fun o4 hp_o4 => ?_
    refine r_astore F [(5, .ref (adr (xG X) 3 o4 0)), (0, .ref (adr (xG X) 7 0 0)), (1, .int p1), (2, .int p2), (3, .int p3), (4, .int p4)] rfl dX7_lending_37 (hS _ (by decide)) ?_
    refine r_aload F 0 rfl dX7_lending_39 ?_
    refine r_aload_n F 1 rfl dX7_lending_41 rfl ?_
    refine r_getS F frX7_72 (by decide) 1 rfl dX7_lending_42 ?_
    refine k_vH (run_V F cvX7_109 hp_o4 (c_X3_copy (xG X) _ h o4 hp_o4 1 (by decide)) rfl rfl ⟨⟨rfl, rfl⟩, Nat.le_of_ble_eq_true rfl, Nat.le_of_ble_eq_true rfl⟩ (Nat.le_of_ble_eq_true rfl) dX7_lending_45) fun h5 => ?_
    refine r_aload F 0 rfl dX7_lending_48 ?_
    refine r_iload_n F 4 rfl dX7_lending_50 rfl ?_
    refine k_vH (run_V F cvX7_265 hp_o4 (c_X3_passHours (xG X) _ N h5 o4 hp_o4 p3) rfl rfl ⟨⟨rfl, rfl⟩, Nat.le_of_ble_eq_true rfl, Nat.le_of_ble_eq_true rfl⟩ (Nat.le_of_ble_eq_true rfl) dX7_lending_51) fun h6 => ?_
    refine r_aload_n F 1 rfl dX7_lending_54 rfl ?_
    refine r_getA F frX7_78 (by decide) dX7_lending_55 ?_
    refine r_iconst F (v := 1) dX7_lending_58 (by decide) ?_
    refine r_aaload F dX7_lending_59 fun o7 hp_o7 => ?_
    refine r_astore F [(6, .ref (adr (xG X) 3 o7 0)), (5, .ref (adr (xG X) 3 o4 0)), (0, .ref (adr (xG X) 7 0 0)), (1, .int p1), (2, .int p2), (3, .int p3), (4, .int p4)] rfl dX7_lending_60 (hS _ (by decide)) ?_
    refine r_aload F 0 rfl dX7_lending_62 ?_
    refine r_aload_n F 2 rfl dX7_lending_64 rfl ?_
    refine r_getS F frX7_72 (by decide) 1 rfl dX7_lending_65 ?_
    refine k_vH (run_V F cvX7_109 hp_o7 (c_X3_copy (xG X) _ h6 o7 hp_o7 1 (by decide)) rfl rfl ⟨⟨rfl, rfl⟩, Nat.le_of_ble_eq_true rfl, Nat.le_of_ble_eq_true rfl⟩ (Nat.le_of_ble_eq_true rfl) dX7_lending_68) fun h8 => ?_
    refine r_aload F 0 rfl dX7_lending_71 ?_
    refine r_iload_n F 3 rfl dX7_lending_73 rfl ?_
    refine r_iload_n F 4 rfl dX7_lending_74 rfl ?_
    refine k_vH (run_V F cvX7_238 hp_o7 (c_X3_moveCart (xG X) _ h8 o7 hp_o7 p1 p2) rfl rfl ⟨⟨rfl, rfl⟩, Nat.le_of_ble_eq_true rfl, Nat.le_of_ble_eq_true rfl⟩ (Nat.le_of_ble_eq_true rfl) dX7_lending_75) fun h9 => ?_
    refine r_aload F 0 rfl dX7_lending_78 ?_
    refine r_iload_n F 5 rfl dX7_lending_80 rfl ?_
    refine k_vH (run_V F cvX7_265 hp_o7 (c_X3_passHours (xG X) _ N h9 o7 hp_o7 p3) rfl rfl ⟨⟨rfl, rfl⟩, Nat.le_of_ble_eq_true rfl, Nat.le_of_ble_eq_true rfl⟩ (Nat.le_of_ble_eq_true rfl) dX7_lending_81) fun h10 => ?_
    refine r_aload F 1 rfl dX7_lending_84 ?_
    refine r_getA F frX7_167 hp_o4 dX7_lending_86 ?_
    refine r_iload_n F 3 rfl dX7_lending_89 rfl ?_
    refine r_iaload F (ar_3_6 o4 hp_o4) dX7_lending_90 ?_
    refine r_aload F 0 rfl dX7_lending_91 ?_
    refine r_getA F frX7_167 hp_o7 dX7_lending_93 ?_
    refine r_iload_n F 3 rfl dX7_lending_96 rfl ?_
    refine r_iaload F (ar_3_6 o7 hp_o7) dX7_lending_97 ?_
    refine r_isub F dX7_lending_98 ?_
    refine r_iconst F (v := 0) dX7_lending_99 (by decide) ?_
    refine r_max F wd_868 ws_max ⟨Nat.le_of_ble_eq_true rfl, Nat.le_of_ble_eq_true rfl⟩ dX7_lending_100 ?_
    refine r_nmI fun v11 => ?_
    refine r_istore F [(7, .int v11), (6, .ref (adr (xG X) 3 o7 0)), (5, .ref (adr (xG X) 3 o4 0)), (0, .ref (adr (xG X) 7 0 0)), (1, .int p1), (2, .int p2), (3, .int p3), (4, .int p4)] rfl dX7_lending_103 (hS _ (by decide)) ?_
    refine r_aload F 1 rfl dX7_lending_105 ?_
    refine r_getA F frX7_167 hp_o7 dX7_lending_107 ?_
    refine r_iload_n F 5 rfl dX7_lending_110 rfl ?_
    refine r_iaload F (ar_3_6 o7 hp_o7) dX7_lending_111 ?_
    refine r_aload F 2 rfl dX7_lending_112 ?_
    refine r_getA F frX7_167 hp_o4 dX7_lending_114 ?_
    refine r_iload_n F 5 rfl dX7_lending_117 rfl ?_
    refine r_iaload F (ar_3_6 o4 hp_o4) dX7_lending_118 ?_
    refine r_isub F dX7_lending_119 ?_
    refine r_iconst F (v := 0) dX7_lending_120 (by decide) ?_
    refine r_max F wd_868 ws_max ⟨Nat.le_of_ble_eq_true rfl, Nat.le_of_ble_eq_true rfl⟩ dX7_lending_121 ?_
    refine r_nmI fun v12 => ?_
    refine r_istore F [(8, .int v12), (7, .int v11), (6, .ref (adr (xG X) 3 o7 0)), (5, .ref (adr (xG X) 3 o4 0)), (0, .ref (adr (xG X) 7 0 0)), (1, .int p1), (2, .int p2), (3, .int p3), (4, .int p4)] rfl dX7_lending_124 (hS _ (by decide)) ?_
    refine r_iload F 8 rfl dX7_lending_126 ?_
    refine r_iconst F (v := 2) dX7_lending_128 (by decide) ?_
    refine r_icmpne F (tgt := 149) dX7_lending_129 (by decide) ?_ ?_
    · skip
      refine r_iload F 8 rfl dX7_lending_149 ?_
      refine Wt_jn (fun (j161 : Int32 → Option (Int32 × Hp)) => ∀ v13 : Int32, Wm X (fun v => some (.int v.1)) (fun v => v.2) (fun _ => True) 161 [] [.int v13] h10 (j161 v13)) ?_ fun j161 hj161 => ?_
      · intro v13
        exact r_iret F hA rfl rfl trivial dX7_lending_161
      refine r_ifne F (tgt := 159) dX7_lending_151 (by decide) ?_ ?_
      · skip
        refine r_iload F 0 rfl dX7_lending_159 ?_
        exact Wt_pick [] rfl (hj161 v12)
      refine r_iload F 1 rfl dX7_lending_154 ?_
      refine r_goto F (tgt := 161) dX7_lending_156 (by decide) ?_
      exact Wt_pick [] rfl (hj161 v11)
    refine r_iload F 0 rfl dX7_lending_132 ?_
    refine r_iload F 1 rfl dX7_lending_134 ?_
    refine Wt_jn (fun (j148 : Int32 → Option (Int32 × Hp)) => ∀ v14 : Int32, Wm X (fun v => some (.int v.1)) (fun v => v.2) (fun _ => True) 148 [] [.int v14] h10 (j148 v14)) ?_ fun j148 hj148 => ?_
    · intro v14
      exact r_iret F hA rfl rfl trivial dX7_lending_148
    refine r_icmple F (tgt := 146) dX7_lending_136 (by decide) ?_ ?_
    · skip
      refine r_bipush F (v := (-2)) dX7_lending_146 (by decide) ?_
      exact Wt_pick [] rfl (hj148 (-2))
    refine r_iload F 1 rfl dX7_lending_139 ?_
    refine r_iconst F (v := 1) dX7_lending_141 (by decide) ?_
    refine r_iadd F dX7_lending_142 ?_
    refine r_goto F (tgt := 148) dX7_lending_143 (by decide) ?_
    exact Wt_pick [] rfl (hj148 (v11 + 1))
  exact Wt_pick [] rfl (hj29)
theorem c_X7_lending (G : Gx) (l : Launch) (N : Nat) (h : Hp) (p1 : Int32) (p2 : Int32) (p3 : Int32) (p4 : Int32) : Ctr G l yX7_lending (.code yX7_lending cX7_lending 9 (some .int) :: GT) rmX7_lending [.ref (adr G 7 0 0), .int p1, .int p2, .int p3, .int p4] h (f_X7_lending N h p1 p2 p3 p4) (fun v => some (.int v.1)) (fun v => v.2) (fun _ => True) :=
  ctr_of (by decide) (Nat.le_of_ble_eq_true rfl) ⟨rfl, rfl⟩ fun X _ e2 hA hL F => by subst e2; exact w_X7_lending X F hA hL N h p1 p2 p3 p4
def f_X7_findTurns_70 (N : Nat) (p1 : Int32) (r60 : Int32 → Int32 → Int32 → Int32 → Hp → Option (Int32 × Hp)) (v7 : Int32) (v8 : Int32) (v10 : Int32) (r70 : Int32 → Hp → Option (Int32 × Hp)) (v12 : Int32) (h13 : Hp) : Option (Int32 × Hp) :=
  if p1 ≤ v12 then
    grd (inb p1 7) <| lt_ (3 + p1.toNatClampNeg) fun o14 =>
    lt_ ((gI h13 3 o14 12)) fun v15 =>
    grd (inb p1 7) <| lt_ (3 + p1.toNatClampNeg) fun o16 =>
    onO (gO h13 7 0 13) fun o17 =>
    (f_X7_spread N h13 3 o16 7 (gI h13 5 o17 12)).bind fun v18 =>
    jn (fun (v19 : Int32) (v20 : Int32) (h21 : Hp) =>
      onO (gO h21 7 0 13) fun o22 =>
      bd2 (f_X7_nextWay N h21 p1 0 ((gI h21 5 o22 12) - 1)) fun v24 h23 =>
      lt_ (v10 + 1) fun v25 =>
      r60 v19 v20 v24 v25 h23) fun (j204 : Int32 → Int32 → Hp → Option (Int32 × Hp)) =>
    jn (
      grd ((0 ≤ (0 : Int32) ∧ 0 ≤ (0 : Int32) ∧ 0 ≤ p1) ∧ (0 : Int32).toNatClampNeg + p1.toNatClampNeg ≤ 6 ∧ (0 : Int32).toNatClampNeg + p1.toNatClampNeg ≤ 6) <| lt_ (sAf h13 7 0 1 (va_cpy (gA h13 7 0 0) (gA h13 7 0 1) (0 : Int32).toNatClampNeg (0 : Int32).toNatClampNeg p1.toNatClampNeg)) fun h26 =>
      j204 v15 v18 h26) fun (j183 : Option (Int32 × Hp)) =>
    if v7 < v15 then
      j183
    else
    if ¬ v15 = v7 then
      j204 v7 v8 h13
    else
    if v8 ≤ v18 then
      j204 v7 v8 h13
    else
    j183
  else
  grd (inb (v12 + 1) 7) <| lt_ (3 + (v12 + 1).toNatClampNeg) fun o27 =>
  grd (inb v12 7) <| lt_ (3 + v12.toNatClampNeg) fun o28 =>
  (f_X3_copy h13 o27 o28).bind fun h29 =>
  grd (inb (v12 + 1) 7) <| lt_ (3 + (v12 + 1).toNatClampNeg) fun o30 =>
  grd (inb v12 6) <|
  (f_X3_letForkAlone N h29 o30 (gA h29 7 0 0 v12.toNatClampNeg)).bind fun h31 =>
  grd (inb (v12 + 1) 7) <| lt_ (3 + (v12 + 1).toNatClampNeg) fun o32 =>
  (f_X3_passHour N h31 o32).bind fun h33 =>
  lt_ (v12 + 1) fun v34 =>
  r70 v34 h33
def f_X7_findTurns_60 (N : Nat) (p1 : Int32) (v6 : Int32) (r60 : Int32 → Int32 → Int32 → Int32 → Hp → Option (Int32 × Hp)) (v7 : Int32) (v8 : Int32) (v9 : Int32) (v10 : Int32) (h11 : Hp) : Option (Int32 × Hp) :=
  if v6 ≤ v10 then
    some (v7, h11)
  else
  iter (fun _ _ => none) (f_X7_findTurns_70 N p1 r60 v7 v8 v10) N v9 h11
def f_X7_findTurns_8 (N : Nat) (p1 : Int32) (r8 : Int32 → Hp → Option (Int32 × Hp)) (v2 : Int32) (h3 : Hp) : Option (Int32 × Hp) :=
  onO (gO h3 7 0 13) fun o4 =>
  if (gI h3 5 o4 12) ≤ v2 then
    onO (gO h3 7 0 13) fun o5 =>
    (f_X7_power N (gI h3 5 o5 12) p1).bind fun v6 =>
    iter (fun _ _ _ _ _ => none) (f_X7_findTurns_60 N p1 v6) N (-1) 0 0 0 h3
  else
  grd (inb 0 7) <| lt_ (3 + (0 : Int32).toNatClampNeg) fun o35 =>
  grd (inb v2 4) <| lt_ (sA h3 3 o35 4 v2.toNatClampNeg 0) fun h36 =>
  lt_ (v2 + 1) fun v37 =>
  r8 v37 h36
def f_X7_findTurns (N : Nat) (h : Hp) (p1 : Int32) : Option (Int32 × Hp) :=
  (f_X7_startWays N h p1 0).bind fun h1 =>
  iter (fun _ _ => none) (f_X7_findTurns_8 N p1) N 0 h1
abbrev rmX7_findTurns : Room := { frames := 5, cells := 0, slots := 0, locals := 126 }
set_option maxRecDepth 100000 in
set_option maxHeartbeats 4000000 in
theorem w_X7_findTurns (X : Cx) (F : Fx X cX7_findTurns RX7 (some .int) rmX7_findTurns) (hA : xA X = Aw (xG X)) (hL : xL X = 9) (N : Nat) (h : Hp) (p1 : Int32) : Wm X (fun v => some (.int v.1)) (fun v => v.2) (fun _ => True) 0 [(0, .ref (adr (xG X) 7 0 0)), (1, .int p1)] [] h (f_X7_findTurns N h p1) := by
  have hS : ∀ i : Nat, i < 9 → i < xL X := fun i z => by rw [hL]; exact z
  unfold f_X7_findTurns
  refine r_aload_n F 0 rfl dX7_findTurns_0 rfl ?_
  refine r_iload_n F 1 rfl dX7_findTurns_1 rfl ?_
  refine r_iconst F (v := 0) dX7_findTurns_2 (by decide) ?_
  refine k_vH (run_V F cvX7_272 (by decide) (c_X7_startWays (xG X) _ N h p1 0) rfl rfl ⟨⟨rfl, rfl⟩, Nat.le_of_ble_eq_true rfl, Nat.le_of_ble_eq_true rfl⟩ (Nat.le_of_ble_eq_true rfl) dX7_findTurns_3) fun h1 => ?_
  refine r_iconst F (v := 0) dX7_findTurns_6 (by decide) ?_
  refine r_istore_n F [(2, .int 0), (0, .ref (adr (xG X) 7 0 0)), (1, .int p1)] rfl dX7_findTurns_7 rfl (hS _ (by decide)) ?_
  have hl8 : ∀ n : Nat, ∀ v2 : Int32, ∀ h3 : Hp, Wm X (fun v => some (.int v.1)) (fun v => v.2) (fun _ => True) 8 [(0, .ref (adr (xG X) 7 0 0)), (1, .int p1), (2, .int v2)] [] h3 (iter (fun _ _ => none) (f_X7_findTurns_8 N p1) n v2 h3) := by
    intro n
    induction n with
    | zero => intro v2 h3; exact Wt_none
    | succ n ih =>
      revert ih
      show (∀ v2 : Int32, ∀ h3 : Hp, Wm X (fun v => some (.int v.1)) (fun v => v.2) (fun _ => True) 8 [(0, .ref (adr (xG X) 7 0 0)), (1, .int p1), (2, .int v2)] [] h3 (iter (fun _ _ => none) (f_X7_findTurns_8 N p1) n v2 h3)) → _
      intro ih8 v2 h3
      show Wm X (fun v => some (.int v.1)) (fun v => v.2) (fun _ => True) 8 [(0, .ref (adr (xG X) 7 0 0)), (1, .int p1), (2, .int v2)] [] h3 (f_X7_findTurns_8 N p1 (iter (fun _ _ => none) (f_X7_findTurns_8 N p1) n) v2 h3)
      revert ih8
      generalize iter (fun _ _ => none) (f_X7_findTurns_8 N p1) n = r8
      intro ih8
      unfold f_X7_findTurns_8
      refine r_iload_n F 2 rfl dX7_findTurns_8 rfl ?_
      refine r_aload_n F 0 rfl dX7_findTurns_9 rfl ?_
      refine r_getO F frX7_56 (by decide) dX7_findTurns_10 fun o4 hp_o4 => ?_
      refine r_getI F frX7_315 hp_o4 dX7_findTurns_13 ?_
      refine r_icmpge F (tgt := 37) dX7_findTurns_16 (by decide) ?_ ?_
      · skip
        refine r_aload_n F 0 rfl dX7_findTurns_37 rfl ?_
        refine r_getO F frX7_56 (by decide) dX7_findTurns_38 fun o5 hp_o5 => ?_
        refine r_getI F frX7_315 hp_o5 dX7_findTurns_41 ?_
        refine r_iload_n F 1 rfl dX7_findTurns_44 rfl ?_
        refine k_iP (run_S F csX7_275 (c_X7_power (xG X) _ h3 N (gI h3 5 o5 12) p1) rfl rfl ⟨⟨rfl, rfl⟩, Nat.le_of_ble_eq_true rfl, Nat.le_of_ble_eq_true rfl⟩ (Nat.le_of_ble_eq_true rfl) dX7_findTurns_45) fun v6 _ => ?_
        refine r_istore_n F [(2, .int v6), (0, .ref (adr (xG X) 7 0 0)), (1, .int p1)] rfl dX7_findTurns_48 rfl (hS _ (by decide)) ?_
        refine r_iconst F (v := (-1)) dX7_findTurns_49 (by decide) ?_
        refine r_istore_n F [(3, .int (-1)), (2, .int v6), (0, .ref (adr (xG X) 7 0 0)), (1, .int p1)] rfl dX7_findTurns_50 rfl (hS _ (by decide)) ?_
        refine r_iconst F (v := 0) dX7_findTurns_51 (by decide) ?_
        refine r_istore F [(4, .int 0), (3, .int (-1)), (2, .int v6), (0, .ref (adr (xG X) 7 0 0)), (1, .int p1)] rfl dX7_findTurns_52 (hS _ (by decide)) ?_
        refine r_iconst F (v := 0) dX7_findTurns_54 (by decide) ?_
        refine r_istore F [(5, .int 0), (4, .int 0), (3, .int (-1)), (2, .int v6), (0, .ref (adr (xG X) 7 0 0)), (1, .int p1)] rfl dX7_findTurns_55 (hS _ (by decide)) ?_
        refine r_iconst F (v := 0) dX7_findTurns_57 (by decide) ?_
        refine r_istore F [(6, .int 0), (5, .int 0), (4, .int 0), (3, .int (-1)), (2, .int v6), (0, .ref (adr (xG X) 7 0 0)), (1, .int p1)] rfl dX7_findTurns_58 (hS _ (by decide)) ?_
        have hl60 : ∀ n : Nat, ∀ v7 : Int32, ∀ v8 : Int32, ∀ v9 : Int32, ∀ v10 : Int32, ∀ h11 : Hp, Wm X (fun v => some (.int v.1)) (fun v => v.2) (fun _ => True) 60 [(0, .ref (adr (xG X) 7 0 0)), (1, .int p1), (2, .int v6), (3, .int v7), (4, .int v8), (5, .int v9), (6, .int v10)] [] h11 (iter (fun _ _ _ _ _ => none) (f_X7_findTurns_60 N p1 v6) n v7 v8 v9 v10 h11) := by
          intro n
          induction n with
          | zero => intro v7 v8 v9 v10 h11; exact Wt_none
          | succ n ih =>
            revert ih
            show (∀ v7 : Int32, ∀ v8 : Int32, ∀ v9 : Int32, ∀ v10 : Int32, ∀ h11 : Hp, Wm X (fun v => some (.int v.1)) (fun v => v.2) (fun _ => True) 60 [(0, .ref (adr (xG X) 7 0 0)), (1, .int p1), (2, .int v6), (3, .int v7), (4, .int v8), (5, .int v9), (6, .int v10)] [] h11 (iter (fun _ _ _ _ _ => none) (f_X7_findTurns_60 N p1 v6) n v7 v8 v9 v10 h11)) → _
            intro ih60 v7 v8 v9 v10 h11
            show Wm X (fun v => some (.int v.1)) (fun v => v.2) (fun _ => True) 60 [(0, .ref (adr (xG X) 7 0 0)), (1, .int p1), (2, .int v6), (3, .int v7), (4, .int v8), (5, .int v9), (6, .int v10)] [] h11 (f_X7_findTurns_60 N p1 v6 (iter (fun _ _ _ _ _ => none) (f_X7_findTurns_60 N p1 v6) n) v7 v8 v9 v10 h11)
            revert ih60
            generalize iter (fun _ _ _ _ _ => none) (f_X7_findTurns_60 N p1 v6) n = r60
            intro ih60
            unfold f_X7_findTurns_60
            refine r_iload F 6 rfl dX7_findTurns_60 ?_
            refine r_iload_n F 2 rfl dX7_findTurns_62 rfl ?_
            refine r_icmpge F (tgt := 227) dX7_findTurns_63 (by decide) ?_ ?_
            · skip
              refine r_iload_n F 3 rfl dX7_findTurns_227 rfl ?_
              exact r_iret F hA rfl rfl trivial dX7_findTurns_228
            refine r_iload F 5 rfl dX7_findTurns_66 ?_
            refine r_istore F [(7, .int v9), (0, .ref (adr (xG X) 7 0 0)), (1, .int p1), (2, .int v6), (3, .int v7), (4, .int v8), (5, .int v9), (6, .int v10)] rfl dX7_findTurns_68 (hS _ (by decide)) ?_
            have hl70 : ∀ n : Nat, ∀ v12 : Int32, ∀ h13 : Hp, Wm X (fun v => some (.int v.1)) (fun v => v.2) (fun _ => True) 70 [(0, .ref (adr (xG X) 7 0 0)), (1, .int p1), (2, .int v6), (3, .int v7), (4, .int v8), (6, .int v10), (7, .int v12)] [] h13 (iter (fun _ _ => none) (f_X7_findTurns_70 N p1 r60 v7 v8 v10) n v12 h13) := by
              intro n
              induction n with
              | zero => intro v12 h13; exact Wt_none
              | succ n ih =>
                revert ih
                show (∀ v12 : Int32, ∀ h13 : Hp, Wm X (fun v => some (.int v.1)) (fun v => v.2) (fun _ => True) 70 [(0, .ref (adr (xG X) 7 0 0)), (1, .int p1), (2, .int v6), (3, .int v7), (4, .int v8), (6, .int v10), (7, .int v12)] [] h13 (iter (fun _ _ => none) (f_X7_findTurns_70 N p1 r60 v7 v8 v10) n v12 h13)) → _
                intro ih70 v12 h13
                show Wm X (fun v => some (.int v.1)) (fun v => v.2) (fun _ => True) 70 [(0, .ref (adr (xG X) 7 0 0)), (1, .int p1), (2, .int v6), (3, .int v7), (4, .int v8), (6, .int v10), (7, .int v12)] [] h13 (f_X7_findTurns_70 N p1 r60 v7 v8 v10 (iter (fun _ _ => none) (f_X7_findTurns_70 N p1 r60 v7 v8 v10) n) v12 h13)
                revert ih70
                generalize iter (fun _ _ => none) (f_X7_findTurns_70 N p1 r60 v7 v8 v10) n = r70
                intro ih70
                unfold f_X7_findTurns_70
                refine r_iload F 6 rfl dX7_findTurns_70 ?_
                refine r_iload_n F 1 rfl dX7_findTurns_72 rfl ?_
                refine r_icmpge F (tgt := 132) dX7_findTurns_73 (by decide) ?_ ?_
                · skip
                  refine r_aload_n F 0 rfl dX7_findTurns_132 rfl ?_
                  refine r_getA F frX7_78 (by decide) dX7_findTurns_133 ?_
                  refine r_iload_n F 1 rfl dX7_findTurns_136 rfl ?_
                  refine r_aaload F dX7_findTurns_137 fun o14 hp_o14 => ?_
                  refine r_getI F frX7_221 hp_o14 dX7_findTurns_138 ?_
                  refine r_nmI fun v15 => ?_
                  refine r_istore F [(7, .int v15), (0, .ref (adr (xG X) 7 0 0)), (1, .int p1), (2, .int v6), (3, .int v7), (4, .int v8), (6, .int v10)] rfl dX7_findTurns_141 (hS _ (by decide)) ?_
                  refine r_aload_n F 1 rfl dX7_findTurns_143 rfl ?_
                  refine r_getA F frX7_78 (by decide) dX7_findTurns_144 ?_
                  refine r_iload_n F 2 rfl dX7_findTurns_147 rfl ?_
                  refine r_aaload F dX7_findTurns_148 fun o16 hp_o16 => ?_
                  refine r_getA F frX7_170 hp_o16 dX7_findTurns_149 ?_
                  refine r_aload_n F 1 rfl dX7_findTurns_152 rfl ?_
                  refine r_getO F frX7_56 (by decide) dX7_findTurns_153 fun o17 hp_o17 => ?_
                  refine r_getI F frX7_315 hp_o17 dX7_findTurns_156 ?_
                  refine k_iP (run_S F csX7_324 (c_X7_spread (xG X) _ N h13 3 o16 7 (ar_3_7 o16 hp_o16) (gI h13 5 o17 12)) rfl rfl ⟨⟨rfl, rfl⟩, Nat.le_of_ble_eq_true rfl, Nat.le_of_ble_eq_true rfl⟩ (Nat.le_of_ble_eq_true rfl) dX7_findTurns_159) fun v18 _ => ?_
                  refine r_istore F [(8, .int v18), (7, .int v15), (0, .ref (adr (xG X) 7 0 0)), (1, .int p1), (2, .int v6), (3, .int v7), (4, .int v8), (6, .int v10)] rfl dX7_findTurns_162 (hS _ (by decide)) ?_
                  refine r_iload F 1 rfl dX7_findTurns_164 ?_
                  refine r_iload_n F 5 rfl dX7_findTurns_166 rfl ?_
                  refine Wt_jn (fun (j204 : Int32 → Int32 → Hp → Option (Int32 × Hp)) => ∀ v19 : Int32, ∀ v20 : Int32, ∀ h21 : Hp, Wm X (fun v => some (.int v.1)) (fun v => v.2) (fun _ => True) 204 [(0, .ref (adr (xG X) 7 0 0)), (1, .int p1), (2, .int v6), (3, .int v19), (4, .int v20), (6, .int v10)] [] h21 (j204 v19 v20 h21)) ?_ fun j204 hj204 => ?_
                  · intro v19 v20 h21
                    refine r_aload_n F 0 rfl dX7_findTurns_204 rfl ?_
                    refine r_iload_n F 1 rfl dX7_findTurns_205 rfl ?_
                    refine r_iconst F (v := 0) dX7_findTurns_206 (by decide) ?_
                    refine r_aload_n F 0 rfl dX7_findTurns_207 rfl ?_
                    refine r_getO F frX7_56 (by decide) dX7_findTurns_208 fun o22 hp_o22 => ?_
                    refine r_getI F frX7_315 hp_o22 dX7_findTurns_211 ?_
                    refine r_iconst F (v := 1) dX7_findTurns_214 (by decide) ?_
                    refine r_isub F dX7_findTurns_215 ?_
                    refine k_iH (run_V F cvX7_287 (by decide) (c_X7_nextWay (xG X) _ N h21 p1 0 ((gI h21 5 o22 12) - 1)) rfl rfl ⟨⟨rfl, rfl⟩, Nat.le_of_ble_eq_true rfl, Nat.le_of_ble_eq_true rfl⟩ (Nat.le_of_ble_eq_true rfl) dX7_findTurns_216) fun v24 h23 => ?_
                    refine r_istore F [(5, .int v24), (0, .ref (adr (xG X) 7 0 0)), (1, .int p1), (2, .int v6), (3, .int v19), (4, .int v20), (6, .int v10)] rfl dX7_findTurns_219 (hS _ (by decide)) ?_
                    refine r_iinc F (v := 1) 6 rfl (by decide) (fun v25 => [(6, .int v25), (5, .int v24), (0, .ref (adr (xG X) 7 0 0)), (1, .int p1), (2, .int v6), (3, .int v19), (4, .int v20)]) (fun _ => rfl) dX7_findTurns_221 (hS _ (by decide)) fun v25 => ?_
                    refine r_goto F (tgt := 60) dX7_findTurns_224 (by decide) ?_
                    exact Wt_pick [2, 3, 4, 5, 6, 1, 0] rfl (ih60 v19 v20 v24 v25 h23)
                  refine Wt_jn (fun (j183 : Option (Int32 × Hp)) => Wm X (fun v => some (.int v.1)) (fun v => v.2) (fun _ => True) 183 [(0, .ref (adr (xG X) 7 0 0)), (1, .int p1), (2, .int v6), (6, .int v10), (7, .int v15), (8, .int v18)] [] h13 (j183)) ?_ fun j183 hj183 => ?_
                  · skip
                    refine r_iload F 4 rfl dX7_findTurns_183 ?_
                    refine r_istore_n F [(3, .int v15), (0, .ref (adr (xG X) 7 0 0)), (1, .int p1), (2, .int v6), (6, .int v10), (7, .int v15), (8, .int v18)] rfl dX7_findTurns_185 rfl (hS _ (by decide)) ?_
                    refine r_iload F 6 rfl dX7_findTurns_186 ?_
                    refine r_istore F [(4, .int v18), (3, .int v15), (0, .ref (adr (xG X) 7 0 0)), (1, .int p1), (2, .int v6), (6, .int v10), (7, .int v15), (8, .int v18)] rfl dX7_findTurns_188 (hS _ (by decide)) ?_
                    refine r_aload_n F 2 rfl dX7_findTurns_190 rfl ?_
                    refine r_getA F frX7_37 (by decide) dX7_findTurns_191 ?_
                    refine r_iconst F (v := 0) dX7_findTurns_194 (by decide) ?_
                    refine r_aload_n F 2 rfl dX7_findTurns_195 rfl ?_
                    refine r_getA F frX7_41 (by decide) dX7_findTurns_196 ?_
                    refine r_iconst F (v := 0) dX7_findTurns_199 (by decide) ?_
                    refine r_iload_n F 3 rfl dX7_findTurns_200 rfl ?_
                    refine r_copy F (ar_7_0 0 (by decide)) (ar_7_1 0 (by decide)) wd_824 ws_copy ⟨Nat.le_of_ble_eq_true rfl, Nat.le_of_ble_eq_true rfl⟩ dX7_findTurns_201 fun h26 => ?_
                    exact Wt_pick [2, 3, 4, 1, 0, 5] rfl (hj204 v15 v18 h26)
                  refine r_icmpgt F (tgt := 183) dX7_findTurns_167 (by decide) ?_ ?_
                  · skip
                    exact Wt_pick [2, 3, 4, 7, 1, 0] rfl (hj183)
                  refine r_iload F 1 rfl dX7_findTurns_170 ?_
                  refine r_iload_n F 5 rfl dX7_findTurns_172 rfl ?_
                  refine r_icmpne F (tgt := 204) dX7_findTurns_173 (by decide) ?_ ?_
                  · skip
                    exact Wt_pick [2, 3, 4, 5, 6, 7] rfl (hj204 v7 v8 h13)
                  refine r_iload F 0 rfl dX7_findTurns_176 ?_
                  refine r_iload F 6 rfl dX7_findTurns_178 ?_
                  refine r_icmpge F (tgt := 204) dX7_findTurns_180 (by decide) ?_ ?_
                  · skip
                    exact Wt_pick [2, 3, 4, 5, 6, 7] rfl (hj204 v7 v8 h13)
                  exact Wt_pick [2, 3, 4, 7, 1, 0] rfl (hj183)
                refine r_aload_n F 0 rfl dX7_findTurns_76 rfl ?_
                refine r_getA F frX7_78 (by decide) dX7_findTurns_77 ?_
                refine r_iload F 6 rfl dX7_findTurns_80 ?_
                refine r_iconst F (v := 1) dX7_findTurns_82 (by decide) ?_
                refine r_iadd F dX7_findTurns_83 ?_
                refine r_aaload F dX7_findTurns_84 fun o27 hp_o27 => ?_
                refine r_aload_n F 0 rfl dX7_findTurns_85 rfl ?_
                refine r_getA F frX7_78 (by decide) dX7_findTurns_86 ?_
                refine r_iload F 6 rfl dX7_findTurns_89 ?_
                refine r_aaload F dX7_findTurns_91 fun o28 hp_o28 => ?_
                refine k_vH (run_V F cvX7_109 hp_o27 (c_X3_copy (xG X) _ h13 o27 hp_o27 o28 hp_o28) rfl rfl ⟨⟨rfl, rfl⟩, Nat.le_of_ble_eq_true rfl, Nat.le_of_ble_eq_true rfl⟩ (Nat.le_of_ble_eq_true rfl) dX7_findTurns_92) fun h29 => ?_
                refine r_aload_n F 0 rfl dX7_findTurns_95 rfl ?_
                refine r_getA F frX7_78 (by decide) dX7_findTurns_96 ?_
                refine r_iload F 6 rfl dX7_findTurns_99 ?_
                refine r_iconst F (v := 1) dX7_findTurns_101 (by decide) ?_
                refine r_iadd F dX7_findTurns_102 ?_
                refine r_aaload F dX7_findTurns_103 fun o30 hp_o30 => ?_
                refine r_aload_n F 0 rfl dX7_findTurns_104 rfl ?_
                refine r_getA F frX7_37 (by decide) dX7_findTurns_105 ?_
                refine r_iload F 6 rfl dX7_findTurns_108 ?_
                refine r_iaload F (ar_7_0 0 (by decide)) dX7_findTurns_110 ?_
                refine k_vH (run_V F cvX7_321 hp_o30 (c_X3_letForkAlone (xG X) _ N h29 o30 hp_o30 (gA h29 7 0 0 v12.toNatClampNeg)) rfl rfl ⟨⟨rfl, rfl⟩, Nat.le_of_ble_eq_true rfl, Nat.le_of_ble_eq_true rfl⟩ (Nat.le_of_ble_eq_true rfl) dX7_findTurns_111) fun h31 => ?_
                refine r_aload_n F 0 rfl dX7_findTurns_114 rfl ?_
                refine r_getA F frX7_78 (by decide) dX7_findTurns_115 ?_
                refine r_iload F 6 rfl dX7_findTurns_118 ?_
                refine r_iconst F (v := 1) dX7_findTurns_120 (by decide) ?_
                refine r_iadd F dX7_findTurns_121 ?_
                refine r_aaload F dX7_findTurns_122 fun o32 hp_o32 => ?_
                refine k_vH (run_V F cvX7_278 hp_o32 (c_X3_passHour (xG X) _ N h31 o32 hp_o32) rfl rfl ⟨⟨rfl, rfl⟩, Nat.le_of_ble_eq_true rfl, Nat.le_of_ble_eq_true rfl⟩ (Nat.le_of_ble_eq_true rfl) dX7_findTurns_123) fun h33 => ?_
                refine r_iinc F (v := 1) 6 rfl (by decide) (fun v34 => [(7, .int v34), (0, .ref (adr (xG X) 7 0 0)), (1, .int p1), (2, .int v6), (3, .int v7), (4, .int v8), (6, .int v10)]) (fun _ => rfl) dX7_findTurns_126 (hS _ (by decide)) fun v34 => ?_
                refine r_goto F (tgt := 70) dX7_findTurns_129 (by decide) ?_
                exact Wt_pick [1, 2, 3, 4, 5, 6, 0] rfl (ih70 v34 h33)
            exact Wt_pick [1, 2, 3, 4, 5, 7, 0] rfl (hl70 N v9 h11)
        exact Wt_pick [5, 6, 4, 3, 2, 1, 0] rfl (hl60 N (-1) 0 0 0 h3)
      refine r_aload_n F 0 rfl dX7_findTurns_19 rfl ?_
      refine r_getA F frX7_78 (by decide) dX7_findTurns_20 ?_
      refine r_iconst F (v := 0) dX7_findTurns_23 (by decide) ?_
      refine r_aaload F dX7_findTurns_24 fun o35 hp_o35 => ?_
      refine r_getA F frX7_161 hp_o35 dX7_findTurns_25 ?_
      refine r_iload_n F 2 rfl dX7_findTurns_28 rfl ?_
      refine r_iconst F (v := 0) dX7_findTurns_29 (by decide) ?_
      refine r_iastore F (ar_3_4 o35 hp_o35) dX7_findTurns_30 fun h36 => ?_
      refine r_iinc F (v := 1) 2 rfl (by decide) (fun v37 => [(2, .int v37), (0, .ref (adr (xG X) 7 0 0)), (1, .int p1)]) (fun _ => rfl) dX7_findTurns_31 (hS _ (by decide)) fun v37 => ?_
      refine r_goto F (tgt := 8) dX7_findTurns_34 (by decide) ?_
      exact Wt_pick [1, 2, 0] rfl (ih8 v37 h36)
  exact Wt_pick [1, 2, 0] rfl (hl8 N 0 h1)
theorem c_X7_findTurns (G : Gx) (l : Launch) (N : Nat) (h : Hp) (p1 : Int32) : Ctr G l yX7_findTurns (.code yX7_findTurns cX7_findTurns 9 (some .int) :: GT) rmX7_findTurns [.ref (adr G 7 0 0), .int p1] h (f_X7_findTurns N h p1) (fun v => some (.int v.1)) (fun v => v.2) (fun _ => True) :=
  ctr_of (by decide) (Nat.le_of_ble_eq_true rfl) ⟨rfl, rfl⟩ fun X _ e2 hA hL F => by subst e2; exact w_X7_findTurns X F hA hL N h p1
def f_X7_turns (N : Nat) (h : Hp) (p1 : Int32) : Option (Int32 × Hp) :=
  (f_X7_isIn p1 1 4).bind fun v1 =>
  jn (fun (v2 : Int32) (h3 : Hp) =>
    some (v2, h3)) fun (j28 : Int32 → Hp → Option (Int32 × Hp)) =>
  jn (
    j28 (-1) h) fun (j27 : Option (Int32 × Hp)) =>
  if (b2i v1) = 0 then
    j27
  else
  onO (gO h 7 0 13) fun o4 =>
  if (gI h 5 o4 12) ≤ 0 then
    j27
  else
  bd2 (f_X7_findTurns N h p1) fun v6 h5 =>
  j28 v6 h5
abbrev rmX7_turns : Room := { frames := 6, cells := 0, slots := 0, locals := 154 }
set_option maxRecDepth 100000 in
set_option maxHeartbeats 4000000 in
theorem w_X7_turns (X : Cx) (F : Fx X cX7_turns RX7 (some .int) rmX7_turns) (hA : xA X = Aw (xG X)) (hL : xL X = 2) (N : Nat) (h : Hp) (p1 : Int32) : Wm X (fun v => some (.int v.1)) (fun v => v.2) (fun _ => True) 0 [(0, .ref (adr (xG X) 7 0 0)), (1, .int p1)] [] h (f_X7_turns N h p1) := by
  have hS : ∀ i : Nat, i < 2 → i < xL X := fun i z => by rw [hL]; exact z
  unfold f_X7_turns
  refine r_iload_n F 1 rfl dX7_turns_0 rfl ?_
  refine r_iconst F (v := 1) dX7_turns_1 (by decide) ?_
  refine r_iconst F (v := 4) dX7_turns_2 (by decide) ?_
  refine k_zP (run_S F csX7_247 (c_X7_isIn (xG X) _ h p1 1 4) rfl rfl ⟨⟨rfl, rfl⟩, Nat.le_of_ble_eq_true rfl, Nat.le_of_ble_eq_true rfl⟩ (Nat.le_of_ble_eq_true rfl) dX7_turns_3) fun v1 _ => ?_
  refine Wt_jn (fun (j28 : Int32 → Hp → Option (Int32 × Hp)) => ∀ v2 : Int32, ∀ h3 : Hp, Wm X (fun v => some (.int v.1)) (fun v => v.2) (fun _ => True) 28 [] [.int v2] h3 (j28 v2 h3)) ?_ fun j28 hj28 => ?_
  · intro v2 h3
    exact r_iret F hA rfl rfl trivial dX7_turns_28
  refine Wt_jn (fun (j27 : Option (Int32 × Hp)) => Wm X (fun v => some (.int v.1)) (fun v => v.2) (fun _ => True) 27 [] [] h (j27)) ?_ fun j27 hj27 => ?_
  · skip
    refine r_iconst F (v := (-1)) dX7_turns_27 (by decide) ?_
    exact Wt_pick [] rfl (hj28 (-1) h)
  refine r_ifeq F (tgt := 27) dX7_turns_6 (by decide) ?_ ?_
  · skip
    exact Wt_pick [] rfl (hj27)
  refine r_aload_n F 0 rfl dX7_turns_9 rfl ?_
  refine r_getO F frX7_56 (by decide) dX7_turns_10 fun o4 hp_o4 => ?_
  refine r_getI F frX7_315 hp_o4 dX7_turns_13 ?_
  refine r_ifle F (tgt := 27) dX7_turns_16 (by decide) ?_ ?_
  · skip
    exact Wt_pick [] rfl (hj27)
  refine r_aload_n F 0 rfl dX7_turns_19 rfl ?_
  refine r_iload_n F 1 rfl dX7_turns_20 rfl ?_
  refine k_iH (run_V F cvX7_318 (by decide) (c_X7_findTurns (xG X) _ N h p1) rfl rfl ⟨⟨rfl, rfl⟩, Nat.le_of_ble_eq_true rfl, Nat.le_of_ble_eq_true rfl⟩ (Nat.le_of_ble_eq_true rfl) dX7_turns_21) fun v6 h5 => ?_
  refine r_goto F (tgt := 28) dX7_turns_24 (by decide) ?_
  exact Wt_pick [] rfl (hj28 v6 h5)
theorem c_X7_turns (G : Gx) (l : Launch) (N : Nat) (h : Hp) (p1 : Int32) : Ctr G l yX7_turns (.code yX7_turns cX7_turns 2 (some .int) :: GT) rmX7_turns [.ref (adr G 7 0 0), .int p1] h (f_X7_turns N h p1) (fun v => some (.int v.1)) (fun v => v.2) (fun _ => True) :=
  ctr_of (by decide) (Nat.le_of_ble_eq_true rfl) ⟨rfl, rfl⟩ fun X _ e2 hA hL F => by subst e2; exact w_X7_turns X F hA hL N h p1
def f_X7_turn (N : Nat) (h : Hp) (p1 : Int32) (p2 : Int32) : Option (Int32 × Hp) :=
  (f_X7_isIn p1 1 4).bind fun v1 =>
  jn (
    some ((-1), h)) fun (j23 : Option (Int32 × Hp)) =>
  if (b2i v1) = 0 then
    j23
  else
  onO (gO h 7 0 13) fun o2 =>
  if (gI h 5 o2 12) = 0 then
    j23
  else
  if 0 ≤ p2 then
    if p2 < p1 then
      bd2 (f_X7_findTurns N h p1) fun v4 h3 =>
      grd (inb p2 6) <|
      some ((gA h3 7 0 1 p2.toNatClampNeg), h3)
    else
    some ((-2), h)
  else
  j23
abbrev rmX7_turn : Room := { frames := 6, cells := 0, slots := 0, locals := 154 }
set_option maxRecDepth 100000 in
set_option maxHeartbeats 4000000 in
theorem w_X7_turn (X : Cx) (F : Fx X cX7_turn RX7 (some .int) rmX7_turn) (hA : xA X = Aw (xG X)) (hL : xL X = 3) (N : Nat) (h : Hp) (p1 : Int32) (p2 : Int32) : Wm X (fun v => some (.int v.1)) (fun v => v.2) (fun _ => True) 0 [(0, .ref (adr (xG X) 7 0 0)), (1, .int p1), (2, .int p2)] [] h (f_X7_turn N h p1 p2) := by
  have hS : ∀ i : Nat, i < 3 → i < xL X := fun i z => by rw [hL]; exact z
  unfold f_X7_turn
  refine r_iload_n F 1 rfl dX7_turn_0 rfl ?_
  refine r_iconst F (v := 1) dX7_turn_1 (by decide) ?_
  refine r_iconst F (v := 4) dX7_turn_2 (by decide) ?_
  refine k_zP (run_S F csX7_247 (c_X7_isIn (xG X) _ h p1 1 4) rfl rfl ⟨⟨rfl, rfl⟩, Nat.le_of_ble_eq_true rfl, Nat.le_of_ble_eq_true rfl⟩ (Nat.le_of_ble_eq_true rfl) dX7_turn_3) fun v1 _ => ?_
  refine Wt_jn (fun (j23 : Option (Int32 × Hp)) => Wm X (fun v => some (.int v.1)) (fun v => v.2) (fun _ => True) 23 [] [] h (j23)) ?_ fun j23 hj23 => ?_
  · skip
    refine r_iconst F (v := (-1)) dX7_turn_23 (by decide) ?_
    exact r_iret F hA rfl rfl trivial dX7_turn_24
  refine r_ifeq F (tgt := 23) dX7_turn_6 (by decide) ?_ ?_
  · skip
    exact Wt_pick [] rfl (hj23)
  refine r_aload_n F 0 rfl dX7_turn_9 rfl ?_
  refine r_getO F frX7_56 (by decide) dX7_turn_10 fun o2 hp_o2 => ?_
  refine r_getI F frX7_315 hp_o2 dX7_turn_13 ?_
  refine r_ifeq F (tgt := 23) dX7_turn_16 (by decide) ?_ ?_
  · skip
    exact Wt_pick [] rfl (hj23)
  refine r_iload_n F 2 rfl dX7_turn_19 rfl ?_
  refine r_ifge F (tgt := 25) dX7_turn_20 (by decide) ?_ ?_
  · skip
    refine r_iload_n F 2 rfl dX7_turn_25 rfl ?_
    refine r_iload_n F 1 rfl dX7_turn_26 rfl ?_
    refine r_icmplt F (tgt := 33) dX7_turn_27 (by decide) ?_ ?_
    · skip
      refine r_aload_n F 0 rfl dX7_turn_33 rfl ?_
      refine r_iload_n F 1 rfl dX7_turn_34 rfl ?_
      refine k_iH (run_V F cvX7_318 (by decide) (c_X7_findTurns (xG X) _ N h p1) rfl rfl ⟨⟨rfl, rfl⟩, Nat.le_of_ble_eq_true rfl, Nat.le_of_ble_eq_true rfl⟩ (Nat.le_of_ble_eq_true rfl) dX7_turn_35) fun v4 h3 => ?_
      refine r_pop F rfl dX7_turn_38 ?_
      refine r_aload_n F 0 rfl dX7_turn_39 rfl ?_
      refine r_getA F frX7_41 (by decide) dX7_turn_40 ?_
      refine r_iload_n F 2 rfl dX7_turn_43 rfl ?_
      refine r_iaload F (ar_7_1 0 (by decide)) dX7_turn_44 ?_
      exact r_iret F hA rfl rfl trivial dX7_turn_45
    refine r_bipush F (v := (-2)) dX7_turn_30 (by decide) ?_
    exact r_iret F hA rfl rfl trivial dX7_turn_32
  exact Wt_pick [] rfl (hj23)
theorem c_X7_turn (G : Gx) (l : Launch) (N : Nat) (h : Hp) (p1 : Int32) (p2 : Int32) : Ctr G l yX7_turn (.code yX7_turn cX7_turn 3 (some .int) :: GT) rmX7_turn [.ref (adr G 7 0 0), .int p1, .int p2] h (f_X7_turn N h p1 p2) (fun v => some (.int v.1)) (fun v => v.2) (fun _ => True) :=
  ctr_of (by decide) (Nat.le_of_ble_eq_true rfl) ⟨rfl, rfl⟩ fun X _ e2 hA hL F => by subst e2; exact w_X7_turn X F hA hL N h p1 p2
def f_X7_commonDivisor_7 (r7 : Int32 → Int32 → Int32 → Option Int32) (v1 : Int32) (v2 : Int32) (v3 : Int32) : Option Int32 :=
  jn (
    some v1) fun (j34 : Option Int32) =>
  if 64 ≤ v3 then
    j34
  else
  if v2 = 0 then
    j34
  else
  grd (¬ v2 = 0) <|
  lt_ ((v1 - v1 / v2 * v2)) fun v4 =>
  lt_ (v3 + 1) fun v5 =>
  r7 v2 v4 v5
def f_X7_commonDivisor (N : Nat) (p0 : Int32) (p1 : Int32) : Option Int32 :=
  iter (fun _ _ _ => none) f_X7_commonDivisor_7 N p0 p1 0
abbrev rmX7_commonDivisor : Room := { frames := 0, cells := 0, slots := 0, locals := 0 }
set_option maxRecDepth 100000 in
set_option maxHeartbeats 4000000 in
theorem w_X7_commonDivisor (X : Cx) (F : Fx X cX7_commonDivisor RX7 (some .int) rmX7_commonDivisor) (hA : xA X = Aw (xG X)) (hL : xL X = 6) (h : Hp) (N : Nat) (p0 : Int32) (p1 : Int32) : Wm X (fun v => some (.int v)) (fun _ => h) (fun _ => True) 0 [(0, .int p0), (1, .int p1)] [] h (f_X7_commonDivisor N p0 p1) := by
  have hS : ∀ i : Nat, i < 6 → i < xL X := fun i z => by rw [hL]; exact z
  unfold f_X7_commonDivisor
  refine r_iload_n F 0 rfl dX7_commonDivisor_0 rfl ?_
  refine r_istore_n F [(2, .int p0), (0, .int p0), (1, .int p1)] rfl dX7_commonDivisor_1 rfl (hS _ (by decide)) ?_
  refine r_iload_n F 2 rfl dX7_commonDivisor_2 rfl ?_
  refine r_istore_n F [(3, .int p1), (2, .int p0), (0, .int p0), (1, .int p1)] rfl dX7_commonDivisor_3 rfl (hS _ (by decide)) ?_
  refine r_iconst F (v := 0) dX7_commonDivisor_4 (by decide) ?_
  refine r_istore F [(4, .int 0), (3, .int p1), (2, .int p0), (0, .int p0), (1, .int p1)] rfl dX7_commonDivisor_5 (hS _ (by decide)) ?_
  have hl7 : ∀ n : Nat, ∀ v1 : Int32, ∀ v2 : Int32, ∀ v3 : Int32, Wm X (fun v => some (.int v)) (fun _ => h) (fun _ => True) 7 [(2, .int v1), (3, .int v2), (4, .int v3)] [] h (iter (fun _ _ _ => none) f_X7_commonDivisor_7 n v1 v2 v3) := by
    intro n
    induction n with
    | zero => intro v1 v2 v3; exact Wt_none
    | succ n ih =>
      revert ih
      show (∀ v1 : Int32, ∀ v2 : Int32, ∀ v3 : Int32, Wm X (fun v => some (.int v)) (fun _ => h) (fun _ => True) 7 [(2, .int v1), (3, .int v2), (4, .int v3)] [] h (iter (fun _ _ _ => none) f_X7_commonDivisor_7 n v1 v2 v3)) → _
      intro ih7 v1 v2 v3
      show Wm X (fun v => some (.int v)) (fun _ => h) (fun _ => True) 7 [(2, .int v1), (3, .int v2), (4, .int v3)] [] h (f_X7_commonDivisor_7 (iter (fun _ _ _ => none) f_X7_commonDivisor_7 n) v1 v2 v3)
      revert ih7
      generalize iter (fun _ _ _ => none) f_X7_commonDivisor_7 n = r7
      intro ih7
      unfold f_X7_commonDivisor_7
      refine r_iload F 2 rfl dX7_commonDivisor_7 ?_
      refine r_bipush F (v := 64) dX7_commonDivisor_9 (by decide) ?_
      refine Wt_jn (fun (j34 : Option Int32) => Wm X (fun v => some (.int v)) (fun _ => h) (fun _ => True) 34 [(2, .int v1)] [] h (j34)) ?_ fun j34 hj34 => ?_
      · skip
        refine r_iload_n F 0 rfl dX7_commonDivisor_34 rfl ?_
        exact r_iret F hA rfl rfl trivial dX7_commonDivisor_35
      refine r_icmpge F (tgt := 34) dX7_commonDivisor_11 (by decide) ?_ ?_
      · skip
        exact Wt_pick [0] rfl (hj34)
      refine r_iload_n F 1 rfl dX7_commonDivisor_14 rfl ?_
      refine r_ifeq F (tgt := 34) dX7_commonDivisor_15 (by decide) ?_ ?_
      · skip
        exact Wt_pick [0] rfl (hj34)
      refine r_iload_n F 0 rfl dX7_commonDivisor_18 rfl ?_
      refine r_iload_n F 1 rfl dX7_commonDivisor_19 rfl ?_
      refine r_irem F dX7_commonDivisor_20 ?_
      refine r_nmI fun v4 => ?_
      refine r_istore F [(5, .int v4), (2, .int v1), (3, .int v2), (4, .int v3)] rfl dX7_commonDivisor_21 (hS _ (by decide)) ?_
      refine r_iload_n F 2 rfl dX7_commonDivisor_23 rfl ?_
      refine r_istore_n F [(2, .int v2), (5, .int v4), (3, .int v2), (4, .int v3)] rfl dX7_commonDivisor_24 rfl (hS _ (by decide)) ?_
      refine r_iload F 1 rfl dX7_commonDivisor_25 ?_
      refine r_istore_n F [(3, .int v4), (2, .int v2), (5, .int v4), (4, .int v3)] rfl dX7_commonDivisor_27 rfl (hS _ (by decide)) ?_
      refine r_iinc F (v := 1) 3 rfl (by decide) (fun v5 => [(4, .int v5), (3, .int v4), (2, .int v2), (5, .int v4)]) (fun _ => rfl) dX7_commonDivisor_28 (hS _ (by decide)) fun v5 => ?_
      refine r_goto F (tgt := 7) dX7_commonDivisor_31 (by decide) ?_
      exact Wt_pick [2, 1, 0] rfl (ih7 v2 v4 v5)
  exact Wt_pick [2, 1, 0] rfl (hl7 N p0 p1 0)
theorem c_X7_commonDivisor (G : Gx) (l : Launch) (h : Hp) (N : Nat) (p0 : Int32) (p1 : Int32) : Ctr G l yX7_commonDivisor (.code yX7_commonDivisor cX7_commonDivisor 6 (some .int) :: GT) rmX7_commonDivisor [.int p0, .int p1] h (f_X7_commonDivisor N p0 p1) (fun v => some (.int v)) (fun _ => h) (fun _ => True) :=
  ctr_of (by decide) (Nat.le_of_ble_eq_true rfl) ⟨rfl, rfl⟩ fun X _ e2 hA hL F => by subst e2; exact w_X7_commonDivisor X F hA hL h N p0 p1
def f_X7_odds (N : Nat) (h : Hp) (p1 : Int32) (p2 : Int32) : Option Int32 :=
  (f_X7_isIn p1 1 4).bind fun v1 =>
  jn (
    some (-1)) fun (j18 : Option Int32) =>
  if (b2i v1) = 0 then
    j18
  else
  (f_X7_isIn p2 0 1).bind fun v2 =>
  if ¬ (b2i v2) = 0 then
    (f_X7_power N 100 p1).bind fun v3 =>
    onO (gO h 7 0 13) fun o4 =>
    (f_X7_power N (100 - (gI h 5 o4 17)) p1).bind fun v5 =>
    lt_ ((v3 - v5)) fun v6 =>
    (f_X7_commonDivisor N v3 v6).bind fun v7 =>
    if ¬ v7 = 0 then
      jn (fun (v8 : Int32) =>
        some v8) fun (j76 : Int32 → Option Int32) =>
      if ¬ p2 = 0 then
        grd (¬ v7 = 0) <|
        j76 (v3 / v7)
      else
      grd (¬ v7 = 0) <|
      j76 (v6 / v7)
    else
    some (-1)
  else
  j18
abbrev rmX7_odds : Room := { frames := 1, cells := 0, slots := 0, locals := 25 }
set_option maxRecDepth 100000 in
set_option maxHeartbeats 4000000 in
theorem w_X7_odds (X : Cx) (F : Fx X cX7_odds RX7 (some .int) rmX7_odds) (hA : xA X = Aw (xG X)) (hL : xL X = 6) (N : Nat) (h : Hp) (p1 : Int32) (p2 : Int32) : Wm X (fun v => some (.int v)) (fun _ => h) (fun _ => True) 0 [(0, .ref (adr (xG X) 7 0 0)), (1, .int p1), (2, .int p2)] [] h (f_X7_odds N h p1 p2) := by
  have hS : ∀ i : Nat, i < 6 → i < xL X := fun i z => by rw [hL]; exact z
  unfold f_X7_odds
  refine r_iload_n F 1 rfl dX7_odds_0 rfl ?_
  refine r_iconst F (v := 1) dX7_odds_1 (by decide) ?_
  refine r_iconst F (v := 4) dX7_odds_2 (by decide) ?_
  refine k_zP (run_S F csX7_247 (c_X7_isIn (xG X) _ h p1 1 4) rfl rfl ⟨⟨rfl, rfl⟩, Nat.le_of_ble_eq_true rfl, Nat.le_of_ble_eq_true rfl⟩ (Nat.le_of_ble_eq_true rfl) dX7_odds_3) fun v1 _ => ?_
  refine Wt_jn (fun (j18 : Option Int32) => Wm X (fun v => some (.int v)) (fun _ => h) (fun _ => True) 18 [] [] h (j18)) ?_ fun j18 hj18 => ?_
  · skip
    refine r_iconst F (v := (-1)) dX7_odds_18 (by decide) ?_
    exact r_iret F hA rfl rfl trivial dX7_odds_19
  refine r_ifeq F (tgt := 18) dX7_odds_6 (by decide) ?_ ?_
  · skip
    exact Wt_pick [] rfl (hj18)
  refine r_iload_n F 2 rfl dX7_odds_9 rfl ?_
  refine r_iconst F (v := 0) dX7_odds_10 (by decide) ?_
  refine r_iconst F (v := 1) dX7_odds_11 (by decide) ?_
  refine k_zP (run_S F csX7_247 (c_X7_isIn (xG X) _ h p2 0 1) rfl rfl ⟨⟨rfl, rfl⟩, Nat.le_of_ble_eq_true rfl, Nat.le_of_ble_eq_true rfl⟩ (Nat.le_of_ble_eq_true rfl) dX7_odds_12) fun v2 _ => ?_
  refine r_ifne F (tgt := 20) dX7_odds_15 (by decide) ?_ ?_
  · skip
    refine r_bipush F (v := 100) dX7_odds_20 (by decide) ?_
    refine r_iload_n F 1 rfl dX7_odds_22 rfl ?_
    refine k_iP (run_S F csX7_275 (c_X7_power (xG X) _ h N 100 p1) rfl rfl ⟨⟨rfl, rfl⟩, Nat.le_of_ble_eq_true rfl, Nat.le_of_ble_eq_true rfl⟩ (Nat.le_of_ble_eq_true rfl) dX7_odds_23) fun v3 _ => ?_
    refine r_istore_n F [(3, .int v3), (0, .ref (adr (xG X) 7 0 0)), (1, .int p1), (2, .int p2)] rfl dX7_odds_26 rfl (hS _ (by decide)) ?_
    refine r_iload_n F 0 rfl dX7_odds_27 rfl ?_
    refine r_bipush F (v := 100) dX7_odds_28 (by decide) ?_
    refine r_aload_n F 1 rfl dX7_odds_30 rfl ?_
    refine r_getO F frX7_56 (by decide) dX7_odds_31 fun o4 hp_o4 => ?_
    refine r_getI F frX7_328 hp_o4 dX7_odds_34 ?_
    refine r_isub F dX7_odds_37 ?_
    refine r_iload_n F 2 rfl dX7_odds_38 rfl ?_
    refine k_iP (run_S F csX7_275 (c_X7_power (xG X) _ h N (100 - (gI h 5 o4 17)) p1) rfl rfl ⟨⟨rfl, rfl⟩, Nat.le_of_ble_eq_true rfl, Nat.le_of_ble_eq_true rfl⟩ (Nat.le_of_ble_eq_true rfl) dX7_odds_39) fun v5 _ => ?_
    refine r_isub F dX7_odds_42 ?_
    refine r_nmI fun v6 => ?_
    refine r_istore F [(4, .int v6), (3, .int v3), (0, .ref (adr (xG X) 7 0 0)), (1, .int p1), (2, .int p2)] rfl dX7_odds_43 (hS _ (by decide)) ?_
    refine r_iload_n F 1 rfl dX7_odds_45 rfl ?_
    refine r_iload F 0 rfl dX7_odds_46 ?_
    refine k_iP (run_S F csX7_331 (c_X7_commonDivisor (xG X) _ h N v3 v6) rfl rfl ⟨⟨rfl, rfl⟩, Nat.le_of_ble_eq_true rfl, Nat.le_of_ble_eq_true rfl⟩ (Nat.le_of_ble_eq_true rfl) dX7_odds_48) fun v7 _ => ?_
    refine r_istore F [(5, .int v7), (4, .int v6), (3, .int v3), (0, .ref (adr (xG X) 7 0 0)), (1, .int p1), (2, .int p2)] rfl dX7_odds_51 (hS _ (by decide)) ?_
    refine r_iload F 0 rfl dX7_odds_53 ?_
    refine r_ifne F (tgt := 60) dX7_odds_55 (by decide) ?_ ?_
    · skip
      refine r_iload_n F 5 rfl dX7_odds_60 rfl ?_
      refine Wt_jn (fun (j76 : Int32 → Option Int32) => ∀ v8 : Int32, Wm X (fun v => some (.int v)) (fun _ => h) (fun _ => True) 76 [] [.int v8] h (j76 v8)) ?_ fun j76 hj76 => ?_
      · intro v8
        exact r_iret F hA rfl rfl trivial dX7_odds_76
      refine r_ifne F (tgt := 72) dX7_odds_61 (by decide) ?_ ?_
      · skip
        refine r_iload_n F 2 rfl dX7_odds_72 rfl ?_
        refine r_iload F 0 rfl dX7_odds_73 ?_
        refine r_idiv F dX7_odds_75 ?_
        exact Wt_pick [] rfl (hj76 (v3 / v7))
      refine r_iload F 1 rfl dX7_odds_64 ?_
      refine r_iload F 0 rfl dX7_odds_66 ?_
      refine r_idiv F dX7_odds_68 ?_
      refine r_goto F (tgt := 76) dX7_odds_69 (by decide) ?_
      exact Wt_pick [] rfl (hj76 (v6 / v7))
    refine r_iconst F (v := (-1)) dX7_odds_58 (by decide) ?_
    exact r_iret F hA rfl rfl trivial dX7_odds_59
  exact Wt_pick [] rfl (hj18)
theorem c_X7_odds (G : Gx) (l : Launch) (N : Nat) (h : Hp) (p1 : Int32) (p2 : Int32) : Ctr G l yX7_odds (.code yX7_odds cX7_odds 6 (some .int) :: GT) rmX7_odds [.ref (adr G 7 0 0), .int p1, .int p2] h (f_X7_odds N h p1 p2) (fun v => some (.int v)) (fun _ => h) (fun _ => True) :=
  ctr_of (by decide) (Nat.le_of_ble_eq_true rfl) ⟨rfl, rfl⟩ fun X _ e2 hA hL F => by subst e2; exact w_X7_odds X F hA hL N h p1 p2
