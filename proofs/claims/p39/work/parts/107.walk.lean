theorem dX3_cart_0 : decode cX3_cart 0 = .ok (.aload_n 0, 1) := by decide +kernel
theorem dX3_cart_1 : decode cX3_cart 1 = .ok (.iload_n 1, 1) := by decide +kernel
theorem dX3_cart_2 : decode cX3_cart 2 = .ok (.iconst 0, 1) := by decide +kernel
theorem dX3_cart_3 : decode cX3_cart 3 = .ok (.invokevirtual 140, 3) := by decide +kernel
theorem dX3_cart_6 : decode cX3_cart 6 = .ok (.istore_n 2, 1) := by decide +kernel
theorem dX3_cart_7 : decode cX3_cart 7 = .ok (.iload_n 2, 1) := by decide +kernel
theorem dX3_cart_8 : decode cX3_cart 8 = .ok (.bipush (-2), 2) := by decide +kernel
theorem dX3_cart_10 : decode cX3_cart 10 = .ok (.if_icmp .ne 4, 3) := by decide +kernel
theorem dX3_cart_13 : decode cX3_cart 13 = .ok (.return_, 1) := by decide +kernel
theorem dX3_cart_14 : decode cX3_cart 14 = .ok (.iconst (-1), 1) := by decide +kernel
theorem dX3_cart_15 : decode cX3_cart 15 = .ok (.istore_n 3, 1) := by decide +kernel
theorem dX3_cart_16 : decode cX3_cart 16 = .ok (.iconst (-1), 1) := by decide +kernel
theorem dX3_cart_17 : decode cX3_cart 17 = .ok (.istore 4, 2) := by decide +kernel
theorem dX3_cart_19 : decode cX3_cart 19 = .ok (.iconst 0, 1) := by decide +kernel
theorem dX3_cart_20 : decode cX3_cart 20 = .ok (.istore 5, 2) := by decide +kernel
theorem dX3_cart_22 : decode cX3_cart 22 = .ok (.iload 5, 2) := by decide +kernel
theorem dX3_cart_24 : decode cX3_cart 24 = .ok (.aload_n 0, 1) := by decide +kernel
theorem dX3_cart_25 : decode cX3_cart 25 = .ok (.getfield 44, 3) := by decide +kernel
theorem dX3_cart_28 : decode cX3_cart 28 = .ok (.getfield 144, 3) := by decide +kernel
theorem dX3_cart_31 : decode cX3_cart 31 = .ok (.if_icmp .ge 45, 3) := by decide +kernel
theorem dX3_cart_34 : decode cX3_cart 34 = .ok (.aload_n 0, 1) := by decide +kernel
theorem dX3_cart_35 : decode cX3_cart 35 = .ok (.getfield 44, 3) := by decide +kernel
theorem dX3_cart_38 : decode cX3_cart 38 = .ok (.getfield 147, 3) := by decide +kernel
theorem dX3_cart_41 : decode cX3_cart 41 = .ok (.iload 5, 2) := by decide +kernel
theorem dX3_cart_43 : decode cX3_cart 43 = .ok (.iaload, 1) := by decide +kernel
theorem dX3_cart_44 : decode cX3_cart 44 = .ok (.iload_n 1, 1) := by decide +kernel
theorem dX3_cart_45 : decode cX3_cart 45 = .ok (.if_icmp .ne 25, 3) := by decide +kernel
theorem dX3_cart_48 : decode cX3_cart 48 = .ok (.aload_n 0, 1) := by decide +kernel
theorem dX3_cart_49 : decode cX3_cart 49 = .ok (.iload 5, 2) := by decide +kernel
theorem dX3_cart_51 : decode cX3_cart 51 = .ok (.invokevirtual 150, 3) := by decide +kernel
theorem dX3_cart_54 : decode cX3_cart 54 = .ok (.istore 6, 2) := by decide +kernel
theorem dX3_cart_56 : decode cX3_cart 56 = .ok (.iload 6, 2) := by decide +kernel
theorem dX3_cart_58 : decode cX3_cart 58 = .ok (.iload 4, 2) := by decide +kernel
theorem dX3_cart_60 : decode cX3_cart 60 = .ok (.if_icmp .le 10, 3) := by decide +kernel
theorem dX3_cart_63 : decode cX3_cart 63 = .ok (.iload 6, 2) := by decide +kernel
theorem dX3_cart_65 : decode cX3_cart 65 = .ok (.istore 4, 2) := by decide +kernel
theorem dX3_cart_67 : decode cX3_cart 67 = .ok (.iload 5, 2) := by decide +kernel
theorem dX3_cart_69 : decode cX3_cart 69 = .ok (.istore_n 3, 1) := by decide +kernel
theorem dX3_cart_70 : decode cX3_cart 70 = .ok (.iinc 5 1, 3) := by decide +kernel
theorem dX3_cart_73 : decode cX3_cart 73 = .ok (.goto (-51), 3) := by decide +kernel
theorem dX3_cart_76 : decode cX3_cart 76 = .ok (.iload_n 3, 1) := by decide +kernel
theorem dX3_cart_77 : decode cX3_cart 77 = .ok (.iconst (-1), 1) := by decide +kernel
theorem dX3_cart_78 : decode cX3_cart 78 = .ok (.if_icmp .ne 4, 3) := by decide +kernel
theorem dX3_cart_81 : decode cX3_cart 81 = .ok (.return_, 1) := by decide +kernel
theorem dX3_cart_82 : decode cX3_cart 82 = .ok (.iload_n 2, 1) := by decide +kernel
theorem dX3_cart_83 : decode cX3_cart 83 = .ok (.bipush (-3), 2) := by decide +kernel
theorem dX3_cart_85 : decode cX3_cart 85 = .ok (.if_icmp .ne 10, 3) := by decide +kernel
theorem dX3_cart_88 : decode cX3_cart 88 = .ok (.aload_n 0, 1) := by decide +kernel
theorem dX3_cart_89 : decode cX3_cart 89 = .ok (.getfield 61, 3) := by decide +kernel
theorem dX3_cart_92 : decode cX3_cart 92 = .ok (.goto 9, 3) := by decide +kernel
theorem dX3_cart_95 : decode cX3_cart 95 = .ok (.aload_n 0, 1) := by decide +kernel
theorem dX3_cart_96 : decode cX3_cart 96 = .ok (.getfield 11, 3) := by decide +kernel
theorem dX3_cart_99 : decode cX3_cart 99 = .ok (.iload_n 2, 1) := by decide +kernel
theorem dX3_cart_100 : decode cX3_cart 100 = .ok (.iaload, 1) := by decide +kernel
theorem dX3_cart_101 : decode cX3_cart 101 = .ok (.istore 5, 2) := by decide +kernel
theorem dX3_cart_103 : decode cX3_cart 103 = .ok (.aload_n 0, 1) := by decide +kernel
theorem dX3_cart_104 : decode cX3_cart 104 = .ok (.iload_n 1, 1) := by decide +kernel
theorem dX3_cart_105 : decode cX3_cart 105 = .ok (.iload 5, 2) := by decide +kernel
theorem dX3_cart_107 : decode cX3_cart 107 = .ok (.invokevirtual 154, 3) := by decide +kernel
theorem dX3_cart_110 : decode cX3_cart 110 = .ok (.istore 6, 2) := by decide +kernel
theorem dX3_cart_112 : decode cX3_cart 112 = .ok (.iload_n 2, 1) := by decide +kernel
theorem dX3_cart_113 : decode cX3_cart 113 = .ok (.bipush (-3), 2) := by decide +kernel
theorem dX3_cart_115 : decode cX3_cart 115 = .ok (.if_icmp .ne 17, 3) := by decide +kernel
theorem dX3_cart_118 : decode cX3_cart 118 = .ok (.aload_n 0, 1) := by decide +kernel
theorem dX3_cart_119 : decode cX3_cart 119 = .ok (.dup, 1) := by decide +kernel
theorem dX3_cart_120 : decode cX3_cart 120 = .ok (.getfield 61, 3) := by decide +kernel
theorem dX3_cart_123 : decode cX3_cart 123 = .ok (.iload 6, 2) := by decide +kernel
theorem dX3_cart_125 : decode cX3_cart 125 = .ok (.isub, 1) := by decide +kernel
theorem dX3_cart_126 : decode cX3_cart 126 = .ok (.putfield 61, 3) := by decide +kernel
theorem dX3_cart_129 : decode cX3_cart 129 = .ok (.goto 14, 3) := by decide +kernel
theorem dX3_cart_132 : decode cX3_cart 132 = .ok (.aload_n 0, 1) := by decide +kernel
theorem dX3_cart_133 : decode cX3_cart 133 = .ok (.getfield 11, 3) := by decide +kernel
theorem dX3_cart_136 : decode cX3_cart 136 = .ok (.iload_n 2, 1) := by decide +kernel
theorem dX3_cart_137 : decode cX3_cart 137 = .ok (.dup2, 1) := by decide +kernel
theorem dX3_cart_138 : decode cX3_cart 138 = .ok (.iaload, 1) := by decide +kernel
theorem dX3_cart_139 : decode cX3_cart 139 = .ok (.iload 6, 2) := by decide +kernel
theorem dX3_cart_141 : decode cX3_cart 141 = .ok (.isub, 1) := by decide +kernel
theorem dX3_cart_142 : decode cX3_cart 142 = .ok (.iastore, 1) := by decide +kernel
theorem dX3_cart_143 : decode cX3_cart 143 = .ok (.aload_n 0, 1) := by decide +kernel
theorem dX3_cart_144 : decode cX3_cart 144 = .ok (.getfield 41, 3) := by decide +kernel
theorem dX3_cart_147 : decode cX3_cart 147 = .ok (.iload_n 3, 1) := by decide +kernel
theorem dX3_cart_148 : decode cX3_cart 148 = .ok (.dup2, 1) := by decide +kernel
theorem dX3_cart_149 : decode cX3_cart 149 = .ok (.iaload, 1) := by decide +kernel
theorem dX3_cart_150 : decode cX3_cart 150 = .ok (.iload 6, 2) := by decide +kernel
theorem dX3_cart_152 : decode cX3_cart 152 = .ok (.iadd, 1) := by decide +kernel
theorem dX3_cart_153 : decode cX3_cart 153 = .ok (.iastore, 1) := by decide +kernel
theorem dX3_cart_154 : decode cX3_cart 154 = .ok (.aload_n 0, 1) := by decide +kernel
theorem dX3_cart_155 : decode cX3_cart 155 = .ok (.getfield 32, 3) := by decide +kernel
theorem dX3_cart_158 : decode cX3_cart 158 = .ok (.iload_n 1, 1) := by decide +kernel
theorem dX3_cart_159 : decode cX3_cart 159 = .ok (.dup2, 1) := by decide +kernel
theorem dX3_cart_160 : decode cX3_cart 160 = .ok (.iaload, 1) := by decide +kernel
theorem dX3_cart_161 : decode cX3_cart 161 = .ok (.iload 4, 2) := by decide +kernel
theorem dX3_cart_163 : decode cX3_cart 163 = .ok (.iload 6, 2) := by decide +kernel
theorem dX3_cart_165 : decode cX3_cart 165 = .ok (.imul, 1) := by decide +kernel
theorem dX3_cart_166 : decode cX3_cart 166 = .ok (.iadd, 1) := by decide +kernel
theorem dX3_cart_167 : decode cX3_cart 167 = .ok (.iastore, 1) := by decide +kernel
theorem dX3_cart_168 : decode cX3_cart 168 = .ok (.return_, 1) := by decide +kernel
theorem dX3_fork_0 : decode cX3_fork 0 = .ok (.aload_n 0, 1) := by decide +kernel
theorem dX3_fork_1 : decode cX3_fork 1 = .ok (.iload_n 1, 1) := by decide +kernel
theorem dX3_fork_2 : decode cX3_fork 2 = .ok (.iconst 1, 1) := by decide +kernel
theorem dX3_fork_3 : decode cX3_fork 3 = .ok (.invokevirtual 140, 3) := by decide +kernel
theorem dX3_fork_6 : decode cX3_fork 6 = .ok (.istore_n 2, 1) := by decide +kernel
theorem dX3_fork_7 : decode cX3_fork 7 = .ok (.iload_n 2, 1) := by decide +kernel
theorem dX3_fork_8 : decode cX3_fork 8 = .ok (.ifCond .ge 4, 3) := by decide +kernel
theorem dX3_fork_11 : decode cX3_fork 11 = .ok (.return_, 1) := by decide +kernel
theorem dX3_fork_12 : decode cX3_fork 12 = .ok (.aload_n 0, 1) := by decide +kernel
theorem dX3_fork_13 : decode cX3_fork 13 = .ok (.aload_n 0, 1) := by decide +kernel
theorem dX3_fork_14 : decode cX3_fork 14 = .ok (.getfield 11, 3) := by decide +kernel
theorem dX3_fork_17 : decode cX3_fork 17 = .ok (.iload_n 2, 1) := by decide +kernel
theorem dX3_fork_18 : decode cX3_fork 18 = .ok (.iaload, 1) := by decide +kernel
theorem dX3_fork_19 : decode cX3_fork 19 = .ok (.iload_n 1, 1) := by decide +kernel
theorem dX3_fork_20 : decode cX3_fork 20 = .ok (.invokevirtual 157, 3) := by decide +kernel
theorem dX3_fork_23 : decode cX3_fork 23 = .ok (.aload_n 0, 1) := by decide +kernel
theorem dX3_fork_24 : decode cX3_fork 24 = .ok (.getfield 44, 3) := by decide +kernel
theorem dX3_fork_27 : decode cX3_fork 27 = .ok (.getfield 161, 3) := by decide +kernel
theorem dX3_fork_30 : decode cX3_fork 30 = .ok (.iconst 1, 1) := by decide +kernel
theorem dX3_fork_31 : decode cX3_fork 31 = .ok (.invokevirtual 165, 3) := by decide +kernel
theorem dX3_fork_34 : decode cX3_fork 34 = .ok (.lstore_n 3, 1) := by decide +kernel
theorem dX3_fork_35 : decode cX3_fork 35 = .ok (.lload_n 3, 1) := by decide +kernel
theorem dX3_fork_36 : decode cX3_fork 36 = .ok (.ldc2_w 171, 3) := by decide +kernel
theorem dX3_fork_39 : decode cX3_fork 39 = .ok (.lcmp, 1) := by decide +kernel
theorem dX3_fork_40 : decode cX3_fork 40 = .ok (.ifCond .ne 8, 3) := by decide +kernel
theorem dX3_fork_43 : decode cX3_fork 43 = .ok (.bipush 8, 2) := by decide +kernel
theorem dX3_fork_45 : decode cX3_fork 45 = .ok (.goto 9, 3) := by decide +kernel
theorem dX3_fork_48 : decode cX3_fork 48 = .ok (.lload_n 3, 1) := by decide +kernel
theorem dX3_fork_49 : decode cX3_fork 49 = .ok (.bipush 99, 2) := by decide +kernel
theorem dX3_fork_51 : decode cX3_fork 51 = .ok (.invokestatic 173, 3) := by decide +kernel
theorem dX3_fork_54 : decode cX3_fork 54 = .ok (.istore 5, 2) := by decide +kernel
theorem dX3_fork_56 : decode cX3_fork 56 = .ok (.iload 5, 2) := by decide +kernel
theorem dX3_fork_58 : decode cX3_fork 58 = .ok (.aload_n 0, 1) := by decide +kernel
theorem dX3_fork_59 : decode cX3_fork 59 = .ok (.getfield 11, 3) := by decide +kernel
theorem dX3_fork_62 : decode cX3_fork 62 = .ok (.iload_n 2, 1) := by decide +kernel
theorem dX3_fork_63 : decode cX3_fork 63 = .ok (.iaload, 1) := by decide +kernel
theorem dX3_fork_64 : decode cX3_fork 64 = .ok (.invokestatic 114, 3) := by decide +kernel
theorem dX3_fork_67 : decode cX3_fork 67 = .ok (.istore 6, 2) := by decide +kernel
theorem dX3_fork_69 : decode cX3_fork 69 = .ok (.aload_n 0, 1) := by decide +kernel
theorem dX3_fork_70 : decode cX3_fork 70 = .ok (.getfield 11, 3) := by decide +kernel
theorem dX3_fork_73 : decode cX3_fork 73 = .ok (.iload_n 2, 1) := by decide +kernel
theorem dX3_fork_74 : decode cX3_fork 74 = .ok (.dup2, 1) := by decide +kernel
theorem dX3_fork_75 : decode cX3_fork 75 = .ok (.iaload, 1) := by decide +kernel
theorem dX3_fork_76 : decode cX3_fork 76 = .ok (.iload 6, 2) := by decide +kernel
theorem dX3_fork_78 : decode cX3_fork 78 = .ok (.isub, 1) := by decide +kernel
theorem dX3_fork_79 : decode cX3_fork 79 = .ok (.iastore, 1) := by decide +kernel
theorem dX3_fork_80 : decode cX3_fork 80 = .ok (.aload_n 0, 1) := by decide +kernel
theorem dX3_fork_81 : decode cX3_fork 81 = .ok (.dup, 1) := by decide +kernel
theorem dX3_fork_82 : decode cX3_fork 82 = .ok (.getfield 61, 3) := by decide +kernel
theorem dX3_fork_85 : decode cX3_fork 85 = .ok (.iload 6, 2) := by decide +kernel
theorem dX3_fork_87 : decode cX3_fork 87 = .ok (.iadd, 1) := by decide +kernel
theorem dX3_fork_88 : decode cX3_fork 88 = .ok (.putfield 61, 3) := by decide +kernel
theorem dX3_fork_91 : decode cX3_fork 91 = .ok (.aload_n 0, 1) := by decide +kernel
theorem dX3_fork_92 : decode cX3_fork 92 = .ok (.getfield 35, 3) := by decide +kernel
theorem dX3_fork_95 : decode cX3_fork 95 = .ok (.iload_n 1, 1) := by decide +kernel
theorem dX3_fork_96 : decode cX3_fork 96 = .ok (.dup2, 1) := by decide +kernel
theorem dX3_fork_97 : decode cX3_fork 97 = .ok (.iaload, 1) := by decide +kernel
theorem dX3_fork_98 : decode cX3_fork 98 = .ok (.iload 6, 2) := by decide +kernel
theorem dX3_fork_100 : decode cX3_fork 100 = .ok (.iadd, 1) := by decide +kernel
theorem dX3_fork_101 : decode cX3_fork 101 = .ok (.iastore, 1) := by decide +kernel
theorem dX3_fork_102 : decode cX3_fork 102 = .ok (.return_, 1) := by decide +kernel
theorem dX3_ebb_0 : decode cX3_ebb 0 = .ok (.iconst 0, 1) := by decide +kernel
theorem dX3_ebb_1 : decode cX3_ebb 1 = .ok (.istore_n 1, 1) := by decide +kernel
theorem dX3_ebb_2 : decode cX3_ebb 2 = .ok (.iload_n 1, 1) := by decide +kernel
theorem dX3_ebb_3 : decode cX3_ebb 3 = .ok (.aload_n 0, 1) := by decide +kernel
theorem dX3_ebb_4 : decode cX3_ebb 4 = .ok (.getfield 44, 3) := by decide +kernel
theorem dX3_ebb_7 : decode cX3_ebb 7 = .ok (.getfield 108, 3) := by decide +kernel
theorem dX3_ebb_10 : decode cX3_ebb 10 = .ok (.if_icmp .ge 85, 3) := by decide +kernel
theorem dX3_ebb_13 : decode cX3_ebb 13 = .ok (.aload_n 0, 1) := by decide +kernel
theorem dX3_ebb_14 : decode cX3_ebb 14 = .ok (.aload_n 0, 1) := by decide +kernel
theorem dX3_ebb_15 : decode cX3_ebb 15 = .ok (.getfield 11, 3) := by decide +kernel
theorem dX3_ebb_18 : decode cX3_ebb 18 = .ok (.iload_n 1, 1) := by decide +kernel
theorem dX3_ebb_19 : decode cX3_ebb 19 = .ok (.iaload, 1) := by decide +kernel
theorem dX3_ebb_20 : decode cX3_ebb 20 = .ok (.iconst (-1), 1) := by decide +kernel
theorem dX3_ebb_21 : decode cX3_ebb 21 = .ok (.invokevirtual 157, 3) := by decide +kernel
theorem dX3_ebb_24 : decode cX3_ebb 24 = .ok (.aload_n 0, 1) := by decide +kernel
theorem dX3_ebb_25 : decode cX3_ebb 25 = .ok (.getfield 44, 3) := by decide +kernel
theorem dX3_ebb_28 : decode cX3_ebb 28 = .ok (.getfield 161, 3) := by decide +kernel
theorem dX3_ebb_31 : decode cX3_ebb 31 = .ok (.iconst 2, 1) := by decide +kernel
theorem dX3_ebb_32 : decode cX3_ebb 32 = .ok (.invokevirtual 165, 3) := by decide +kernel
theorem dX3_ebb_35 : decode cX3_ebb 35 = .ok (.lstore_n 2, 1) := by decide +kernel
theorem dX3_ebb_36 : decode cX3_ebb 36 = .ok (.lload_n 2, 1) := by decide +kernel
theorem dX3_ebb_37 : decode cX3_ebb 37 = .ok (.ldc2_w 171, 3) := by decide +kernel
theorem dX3_ebb_40 : decode cX3_ebb 40 = .ok (.lcmp, 1) := by decide +kernel
theorem dX3_ebb_41 : decode cX3_ebb 41 = .ok (.ifCond .ne 14, 3) := by decide +kernel
theorem dX3_ebb_44 : decode cX3_ebb 44 = .ok (.aload_n 0, 1) := by decide +kernel
theorem dX3_ebb_45 : decode cX3_ebb 45 = .ok (.getfield 11, 3) := by decide +kernel
theorem dX3_ebb_48 : decode cX3_ebb 48 = .ok (.iload_n 1, 1) := by decide +kernel
theorem dX3_ebb_49 : decode cX3_ebb 49 = .ok (.iaload, 1) := by decide +kernel
theorem dX3_ebb_50 : decode cX3_ebb 50 = .ok (.iconst 2, 1) := by decide +kernel
theorem dX3_ebb_51 : decode cX3_ebb 51 = .ok (.idiv, 1) := by decide +kernel
theorem dX3_ebb_52 : decode cX3_ebb 52 = .ok (.goto 13, 3) := by decide +kernel
theorem dX3_ebb_55 : decode cX3_ebb 55 = .ok (.lload_n 2, 1) := by decide +kernel
theorem dX3_ebb_56 : decode cX3_ebb 56 = .ok (.aload_n 0, 1) := by decide +kernel
theorem dX3_ebb_57 : decode cX3_ebb 57 = .ok (.getfield 11, 3) := by decide +kernel
theorem dX3_ebb_60 : decode cX3_ebb 60 = .ok (.iload_n 1, 1) := by decide +kernel
theorem dX3_ebb_61 : decode cX3_ebb 61 = .ok (.iaload, 1) := by decide +kernel
theorem dX3_ebb_62 : decode cX3_ebb 62 = .ok (.invokestatic 173, 3) := by decide +kernel
theorem dX3_ebb_65 : decode cX3_ebb 65 = .ok (.istore 4, 2) := by decide +kernel
theorem dX3_ebb_67 : decode cX3_ebb 67 = .ok (.aload_n 0, 1) := by decide +kernel
theorem dX3_ebb_68 : decode cX3_ebb 68 = .ok (.getfield 11, 3) := by decide +kernel
theorem dX3_ebb_71 : decode cX3_ebb 71 = .ok (.iload_n 1, 1) := by decide +kernel
theorem dX3_ebb_72 : decode cX3_ebb 72 = .ok (.dup2, 1) := by decide +kernel
theorem dX3_ebb_73 : decode cX3_ebb 73 = .ok (.iaload, 1) := by decide +kernel
theorem dX3_ebb_74 : decode cX3_ebb 74 = .ok (.iload 4, 2) := by decide +kernel
theorem dX3_ebb_76 : decode cX3_ebb 76 = .ok (.isub, 1) := by decide +kernel
theorem dX3_ebb_77 : decode cX3_ebb 77 = .ok (.iastore, 1) := by decide +kernel
theorem dX3_ebb_78 : decode cX3_ebb 78 = .ok (.aload_n 0, 1) := by decide +kernel
theorem dX3_ebb_79 : decode cX3_ebb 79 = .ok (.dup, 1) := by decide +kernel
theorem dX3_ebb_80 : decode cX3_ebb 80 = .ok (.getfield 62, 3) := by decide +kernel
theorem dX3_ebb_83 : decode cX3_ebb 83 = .ok (.iload 4, 2) := by decide +kernel
theorem dX3_ebb_85 : decode cX3_ebb 85 = .ok (.iadd, 1) := by decide +kernel
theorem dX3_ebb_86 : decode cX3_ebb 86 = .ok (.putfield 62, 3) := by decide +kernel
theorem dX3_ebb_89 : decode cX3_ebb 89 = .ok (.iinc 1 1, 3) := by decide +kernel
theorem dX3_ebb_92 : decode cX3_ebb 92 = .ok (.goto (-90), 3) := by decide +kernel
theorem dX3_ebb_95 : decode cX3_ebb 95 = .ok (.return_, 1) := by decide +kernel
theorem dX3_passHour_0 : decode cX3_passHour 0 = .ok (.iconst 0, 1) := by decide +kernel
theorem dX3_passHour_1 : decode cX3_passHour 1 = .ok (.istore_n 1, 1) := by decide +kernel
theorem dX3_passHour_2 : decode cX3_passHour 2 = .ok (.iload_n 1, 1) := by decide +kernel
theorem dX3_passHour_3 : decode cX3_passHour 3 = .ok (.aload_n 0, 1) := by decide +kernel
theorem dX3_passHour_4 : decode cX3_passHour 4 = .ok (.getfield 44, 3) := by decide +kernel
theorem dX3_passHour_7 : decode cX3_passHour 7 = .ok (.getfield 76, 3) := by decide +kernel
theorem dX3_passHour_10 : decode cX3_passHour 10 = .ok (.if_icmp .ge 68, 3) := by decide +kernel
theorem dX3_passHour_13 : decode cX3_passHour 13 = .ok (.aload_n 0, 1) := by decide +kernel
theorem dX3_passHour_14 : decode cX3_passHour 14 = .ok (.getfield 26, 3) := by decide +kernel
theorem dX3_passHour_17 : decode cX3_passHour 17 = .ok (.iload_n 1, 1) := by decide +kernel
theorem dX3_passHour_18 : decode cX3_passHour 18 = .ok (.iaload, 1) := by decide +kernel
theorem dX3_passHour_19 : decode cX3_passHour 19 = .ok (.aload_n 0, 1) := by decide +kernel
theorem dX3_passHour_20 : decode cX3_passHour 20 = .ok (.getfield 52, 3) := by decide +kernel
theorem dX3_passHour_23 : decode cX3_passHour 23 = .ok (.if_icmp .gt 49, 3) := by decide +kernel
theorem dX3_passHour_26 : decode cX3_passHour 26 = .ok (.aload_n 0, 1) := by decide +kernel
theorem dX3_passHour_27 : decode cX3_passHour 27 = .ok (.getfield 29, 3) := by decide +kernel
theorem dX3_passHour_30 : decode cX3_passHour 30 = .ok (.iload_n 1, 1) := by decide +kernel
theorem dX3_passHour_31 : decode cX3_passHour 31 = .ok (.iaload, 1) := by decide +kernel
theorem dX3_passHour_32 : decode cX3_passHour 32 = .ok (.ifCond .ne 10, 3) := by decide +kernel
theorem dX3_passHour_35 : decode cX3_passHour 35 = .ok (.aload_n 0, 1) := by decide +kernel
theorem dX3_passHour_36 : decode cX3_passHour 36 = .ok (.invokevirtual 120, 3) := by decide +kernel
theorem dX3_passHour_39 : decode cX3_passHour 39 = .ok (.goto 9, 3) := by decide +kernel
theorem dX3_passHour_42 : decode cX3_passHour 42 = .ok (.aload_n 0, 1) := by decide +kernel
theorem dX3_passHour_43 : decode cX3_passHour 43 = .ok (.getfield 29, 3) := by decide +kernel
theorem dX3_passHour_46 : decode cX3_passHour 46 = .ok (.iload_n 1, 1) := by decide +kernel
theorem dX3_passHour_47 : decode cX3_passHour 47 = .ok (.iaload, 1) := by decide +kernel
theorem dX3_passHour_48 : decode cX3_passHour 48 = .ok (.istore_n 2, 1) := by decide +kernel
theorem dX3_passHour_49 : decode cX3_passHour 49 = .ok (.iload_n 2, 1) := by decide +kernel
theorem dX3_passHour_50 : decode cX3_passHour 50 = .ok (.iconst 1, 1) := by decide +kernel
theorem dX3_passHour_51 : decode cX3_passHour 51 = .ok (.if_icmp .ne 11, 3) := by decide +kernel
theorem dX3_passHour_54 : decode cX3_passHour 54 = .ok (.aload_n 0, 1) := by decide +kernel
theorem dX3_passHour_55 : decode cX3_passHour 55 = .ok (.iload_n 1, 1) := by decide +kernel
theorem dX3_passHour_56 : decode cX3_passHour 56 = .ok (.invokevirtual 123, 3) := by decide +kernel
theorem dX3_passHour_59 : decode cX3_passHour 59 = .ok (.goto 13, 3) := by decide +kernel
theorem dX3_passHour_62 : decode cX3_passHour 62 = .ok (.iload_n 2, 1) := by decide +kernel
theorem dX3_passHour_63 : decode cX3_passHour 63 = .ok (.iconst 2, 1) := by decide +kernel
theorem dX3_passHour_64 : decode cX3_passHour 64 = .ok (.if_icmp .ne 8, 3) := by decide +kernel
theorem dX3_passHour_67 : decode cX3_passHour 67 = .ok (.aload_n 0, 1) := by decide +kernel
theorem dX3_passHour_68 : decode cX3_passHour 68 = .ok (.iload_n 1, 1) := by decide +kernel
theorem dX3_passHour_69 : decode cX3_passHour 69 = .ok (.invokevirtual 127, 3) := by decide +kernel
theorem dX3_passHour_72 : decode cX3_passHour 72 = .ok (.iinc 1 1, 3) := by decide +kernel
theorem dX3_passHour_75 : decode cX3_passHour 75 = .ok (.goto (-73), 3) := by decide +kernel
theorem dX3_passHour_78 : decode cX3_passHour 78 = .ok (.aload_n 0, 1) := by decide +kernel
theorem dX3_passHour_79 : decode cX3_passHour 79 = .ok (.getfield 48, 3) := by decide +kernel
theorem dX3_passHour_82 : decode cX3_passHour 82 = .ok (.ifCond .eq 24, 3) := by decide +kernel
theorem dX3_passHour_85 : decode cX3_passHour 85 = .ok (.aload_n 0, 1) := by decide +kernel
theorem dX3_passHour_86 : decode cX3_passHour 86 = .ok (.getfield 44, 3) := by decide +kernel
theorem dX3_passHour_89 : decode cX3_passHour 89 = .ok (.aload_n 0, 1) := by decide +kernel
theorem dX3_passHour_90 : decode cX3_passHour 90 = .ok (.getfield 52, 3) := by decide +kernel
theorem dX3_passHour_93 : decode cX3_passHour 93 = .ok (.bipush 24, 2) := by decide +kernel
theorem dX3_passHour_95 : decode cX3_passHour 95 = .ok (.irem, 1) := by decide +kernel
theorem dX3_passHour_96 : decode cX3_passHour 96 = .ok (.invokevirtual 130, 3) := by decide +kernel
theorem dX3_passHour_99 : decode cX3_passHour 99 = .ok (.ifCond .eq 7, 3) := by decide +kernel
theorem dX3_passHour_102 : decode cX3_passHour 102 = .ok (.aload_n 0, 1) := by decide +kernel
theorem dX3_passHour_103 : decode cX3_passHour 103 = .ok (.invokevirtual 134, 3) := by decide +kernel
theorem dX3_passHour_106 : decode cX3_passHour 106 = .ok (.aload_n 0, 1) := by decide +kernel
theorem dX3_passHour_107 : decode cX3_passHour 107 = .ok (.dup, 1) := by decide +kernel
theorem dX3_passHour_108 : decode cX3_passHour 108 = .ok (.getfield 52, 3) := by decide +kernel
theorem dX3_passHour_111 : decode cX3_passHour 111 = .ok (.iconst 1, 1) := by decide +kernel
theorem dX3_passHour_112 : decode cX3_passHour 112 = .ok (.iadd, 1) := by decide +kernel
theorem dX3_passHour_113 : decode cX3_passHour 113 = .ok (.putfield 52, 3) := by decide +kernel
theorem dX3_passHour_116 : decode cX3_passHour 116 = .ok (.return_, 1) := by decide +kernel
theorem dX3_passHours_0 : decode cX3_passHours 0 = .ok (.iconst 0, 1) := by decide +kernel
theorem dX3_passHours_1 : decode cX3_passHours 1 = .ok (.istore_n 2, 1) := by decide +kernel
theorem dX3_passHours_2 : decode cX3_passHours 2 = .ok (.iload_n 2, 1) := by decide +kernel
theorem dX3_passHours_3 : decode cX3_passHours 3 = .ok (.iload_n 1, 1) := by decide +kernel
theorem dX3_passHours_4 : decode cX3_passHours 4 = .ok (.if_icmp .ge 13, 3) := by decide +kernel
theorem dX3_passHours_7 : decode cX3_passHours 7 = .ok (.aload_n 0, 1) := by decide +kernel
theorem dX3_passHours_8 : decode cX3_passHours 8 = .ok (.invokevirtual 88, 3) := by decide +kernel
theorem dX3_passHours_11 : decode cX3_passHours 11 = .ok (.iinc 2 1, 3) := by decide +kernel
theorem dX3_passHours_14 : decode cX3_passHours 14 = .ok (.goto (-12), 3) := by decide +kernel
theorem dX3_passHours_17 : decode cX3_passHours 17 = .ok (.return_, 1) := by decide +kernel
theorem dX3_drawNumber_0 : decode cX3_drawNumber 0 = .ok (.aload_n 0, 1) := by decide +kernel
theorem dX3_drawNumber_1 : decode cX3_drawNumber 1 = .ok (.aload_n 0, 1) := by decide +kernel
theorem dX3_drawNumber_2 : decode cX3_drawNumber 2 = .ok (.getfield 72, 3) := by decide +kernel
theorem dX3_drawNumber_5 : decode cX3_drawNumber 5 = .ok (.i2l, 1) := by decide +kernel
theorem dX3_drawNumber_6 : decode cX3_drawNumber 6 = .ok (.ldc2_w 101, 3) := by decide +kernel
theorem dX3_drawNumber_9 : decode cX3_drawNumber 9 = .ok (.lmul, 1) := by decide +kernel
theorem dX3_drawNumber_10 : decode cX3_drawNumber 10 = .ok (.ldc2_w 103, 3) := by decide +kernel
theorem dX3_drawNumber_13 : decode cX3_drawNumber 13 = .ok (.ladd, 1) := by decide +kernel
theorem dX3_drawNumber_14 : decode cX3_drawNumber 14 = .ok (.ldc2_w 105, 3) := by decide +kernel
theorem dX3_drawNumber_17 : decode cX3_drawNumber 17 = .ok (.land, 1) := by decide +kernel
theorem dX3_drawNumber_18 : decode cX3_drawNumber 18 = .ok (.l2i, 1) := by decide +kernel
theorem dX3_drawNumber_19 : decode cX3_drawNumber 19 = .ok (.putfield 72, 3) := by decide +kernel
theorem dX3_drawNumber_22 : decode cX3_drawNumber 22 = .ok (.aload_n 0, 1) := by decide +kernel
theorem dX3_drawNumber_23 : decode cX3_drawNumber 23 = .ok (.getfield 72, 3) := by decide +kernel
theorem dX3_drawNumber_26 : decode cX3_drawNumber 26 = .ok (.ldc 107, 2) := by decide +kernel
theorem dX3_drawNumber_28 : decode cX3_drawNumber 28 = .ok (.idiv, 1) := by decide +kernel
theorem dX3_drawNumber_29 : decode cX3_drawNumber 29 = .ok (.ireturn, 1) := by decide +kernel
def f_X3_cart_22 (N : Nat) (o : Nat) (p1 : Int32) (v1 : Int32) (r22 : Int32 → Int32 → Int32 → Hp → Option Hp) (v2 : Int32) (v3 : Int32) (v4 : Int32) (h5 : Hp) : Option Hp :=
  onO (gO h5 3 o 10) fun o6 =>
  if (gI h5 5 o6 13) ≤ v4 then
    if ¬ v2 = (-1) then
      jn (fun (v7 : Int32) =>
        bd2 (f_X3_loadOf N h5 o p1 v7) fun v9 h8 =>
        jn (fun (h10 : Hp) =>
          grd (inb v2 6) <|
          grd (inb v2 6) <| lt_ (sA h10 3 o 9 v2.toNatClampNeg ((gA h10 3 o 9 v2.toNatClampNeg) + v9)) fun h11 =>
          grd (inb p1 4) <|
          grd (inb p1 4) <| lt_ (sA h11 3 o 6 p1.toNatClampNeg ((gA h11 3 o 6 p1.toNatClampNeg) + (v3 * v9))) fun h12 =>
          some h12) fun (j143 : Hp → Option Hp) =>
        if ¬ v1 = (-3) then
          grd (inb v1 8) <|
          grd (inb v1 8) <| lt_ (sA h8 3 o 0 v1.toNatClampNeg ((gA h8 3 o 0 v1.toNatClampNeg) - v9)) fun h13 =>
          j143 h13
        else
        lt_ (sI h8 3 o 12 ((gI h8 3 o 12) - v9)) fun h14 =>
        j143 h14) fun (j101 : Int32 → Option Hp) =>
      if ¬ v1 = (-3) then
        grd (inb v1 8) <|
        j101 (gA h5 3 o 0 v1.toNatClampNeg)
      else
      j101 (gI h5 3 o 12)
    else
    some h5
  else
  onO (gO h5 3 o 10) fun o15 =>
  grd (inb v4 6) <|
  jn (fun (v16 : Int32) (v17 : Int32) (h18 : Hp) =>
    lt_ (v4 + 1) fun v19 =>
    r22 v16 v17 v19 h18) fun (j70 : Int32 → Int32 → Hp → Option Hp) =>
  if ¬ (gA h5 5 o15 5 v4.toNatClampNeg) = p1 then
    j70 v2 v3 h5
  else
  bd2 (f_X3_worthOf N h5 o v4) fun v21 h20 =>
  if v21 ≤ v3 then
    j70 v2 v3 h20
  else
  j70 v4 v21 h20
def f_X3_cart (N : Nat) (h : Hp) (o : Nat) (p1 : Int32) : Option Hp :=
  (f_X3_sourceOf N h o p1 false).bind fun v1 =>
  if ¬ v1 = (-2) then
    iter (fun _ _ _ _ => none) (f_X3_cart_22 N o p1 v1) N (-1) (-1) 0 h
  else
  some h
abbrev rmX3_cart : Room := { frames := 3, cells := 0, slots := 0, locals := 78 }
set_option maxRecDepth 100000 in
set_option maxHeartbeats 4000000 in
theorem w_X3_cart (X : Cx) (F : Fx X cX3_cart RX3 none rmX3_cart) (hA : xA X = Aw (xG X)) (hL : xL X = 7) (N : Nat) (h : Hp) (o : Nat) (h_o : o < cnt 3) (p1 : Int32) : Wm X (fun _ => none) (fun v => v) (fun _ => True) 0 [(0, .ref (adr (xG X) 3 o 0)), (1, .int p1)] [] h (f_X3_cart N h o p1) := by
  have hS : ∀ i : Nat, i < 7 → i < xL X := fun i z => by rw [hL]; exact z
  unfold f_X3_cart
  refine r_aload_n F 0 rfl dX3_cart_0 rfl ?_
  refine r_iload_n F 1 rfl dX3_cart_1 rfl ?_
  refine r_iconst F (v := 0) dX3_cart_2 (by decide) ?_
  refine k_iP (run_V F cvX3_140 h_o (c_X3_sourceOf (xG X) _ N h o h_o p1 false) rfl rfl ⟨⟨rfl, rfl⟩, Nat.le_of_ble_eq_true rfl, Nat.le_of_ble_eq_true rfl⟩ (Nat.le_of_ble_eq_true rfl) dX3_cart_3) fun v1 _ => ?_
  refine r_istore_n F [(2, .int v1), (0, .ref (adr (xG X) 3 o 0)), (1, .int p1)] rfl dX3_cart_6 rfl (hS _ (by decide)) ?_
  refine r_iload_n F 0 rfl dX3_cart_7 rfl ?_
  refine r_bipush F (v := (-2)) dX3_cart_8 (by decide) ?_
  refine r_icmpne F (tgt := 14) dX3_cart_10 (by decide) ?_ ?_
  · skip
    refine r_iconst F (v := (-1)) dX3_cart_14 (by decide) ?_
    refine r_istore_n F [(3, .int (-1)), (2, .int v1), (0, .ref (adr (xG X) 3 o 0)), (1, .int p1)] rfl dX3_cart_15 rfl (hS _ (by decide)) ?_
    refine r_iconst F (v := (-1)) dX3_cart_16 (by decide) ?_
    refine r_istore F [(4, .int (-1)), (3, .int (-1)), (2, .int v1), (0, .ref (adr (xG X) 3 o 0)), (1, .int p1)] rfl dX3_cart_17 (hS _ (by decide)) ?_
    refine r_iconst F (v := 0) dX3_cart_19 (by decide) ?_
    refine r_istore F [(5, .int 0), (4, .int (-1)), (3, .int (-1)), (2, .int v1), (0, .ref (adr (xG X) 3 o 0)), (1, .int p1)] rfl dX3_cart_20 (hS _ (by decide)) ?_
    have hl22 : ∀ n : Nat, ∀ v2 : Int32, ∀ v3 : Int32, ∀ v4 : Int32, ∀ h5 : Hp, Wm X (fun _ => none) (fun v => v) (fun _ => True) 22 [(0, .ref (adr (xG X) 3 o 0)), (1, .int p1), (2, .int v1), (3, .int v2), (4, .int v3), (5, .int v4)] [] h5 (iter (fun _ _ _ _ => none) (f_X3_cart_22 N o p1 v1) n v2 v3 v4 h5) := by
      intro n
      induction n with
      | zero => intro v2 v3 v4 h5; exact Wt_none
      | succ n ih =>
        revert ih
        show (∀ v2 : Int32, ∀ v3 : Int32, ∀ v4 : Int32, ∀ h5 : Hp, Wm X (fun _ => none) (fun v => v) (fun _ => True) 22 [(0, .ref (adr (xG X) 3 o 0)), (1, .int p1), (2, .int v1), (3, .int v2), (4, .int v3), (5, .int v4)] [] h5 (iter (fun _ _ _ _ => none) (f_X3_cart_22 N o p1 v1) n v2 v3 v4 h5)) → _
        intro ih22 v2 v3 v4 h5
        show Wm X (fun _ => none) (fun v => v) (fun _ => True) 22 [(0, .ref (adr (xG X) 3 o 0)), (1, .int p1), (2, .int v1), (3, .int v2), (4, .int v3), (5, .int v4)] [] h5 (f_X3_cart_22 N o p1 v1 (iter (fun _ _ _ _ => none) (f_X3_cart_22 N o p1 v1) n) v2 v3 v4 h5)
        revert ih22
        generalize iter (fun _ _ _ _ => none) (f_X3_cart_22 N o p1 v1) n = r22
        intro ih22
        unfold f_X3_cart_22
        refine r_iload F 5 rfl dX3_cart_22 ?_
        refine r_aload_n F 0 rfl dX3_cart_24 rfl ?_
        refine r_getO F frX3_44 h_o dX3_cart_25 fun o6 hp_o6 => ?_
        refine r_getI F frX3_144 hp_o6 dX3_cart_28 ?_
        refine r_icmpge F (tgt := 76) dX3_cart_31 (by decide) ?_ ?_
        · skip
          refine r_iload_n F 3 rfl dX3_cart_76 rfl ?_
          refine r_iconst F (v := (-1)) dX3_cart_77 (by decide) ?_
          refine r_icmpne F (tgt := 82) dX3_cart_78 (by decide) ?_ ?_
          · skip
            refine r_iload_n F 2 rfl dX3_cart_82 rfl ?_
            refine r_bipush F (v := (-3)) dX3_cart_83 (by decide) ?_
            refine Wt_jn (fun (j101 : Int32 → Option Hp) => ∀ v7 : Int32, Wm X (fun _ => none) (fun v => v) (fun _ => True) 101 [(0, .ref (adr (xG X) 3 o 0)), (1, .int p1), (2, .int v1), (3, .int v2), (4, .int v3)] [.int v7] h5 (j101 v7)) ?_ fun j101 hj101 => ?_
            · intro v7
              refine r_istore F [(5, .int v7), (0, .ref (adr (xG X) 3 o 0)), (1, .int p1), (2, .int v1), (3, .int v2), (4, .int v3)] rfl dX3_cart_101 (hS _ (by decide)) ?_
              refine r_aload_n F 1 rfl dX3_cart_103 rfl ?_
              refine r_iload_n F 2 rfl dX3_cart_104 rfl ?_
              refine r_iload F 0 rfl dX3_cart_105 ?_
              refine k_iH (run_V F cvX3_154 h_o (c_X3_loadOf (xG X) _ N h5 o h_o p1 v7) rfl rfl ⟨⟨rfl, rfl⟩, Nat.le_of_ble_eq_true rfl, Nat.le_of_ble_eq_true rfl⟩ (Nat.le_of_ble_eq_true rfl) dX3_cart_107) fun v9 h8 => ?_
              refine r_istore F [(6, .int v9), (5, .int v7), (0, .ref (adr (xG X) 3 o 0)), (1, .int p1), (2, .int v1), (3, .int v2), (4, .int v3)] rfl dX3_cart_110 (hS _ (by decide)) ?_
              refine r_iload_n F 4 rfl dX3_cart_112 rfl ?_
              refine r_bipush F (v := (-3)) dX3_cart_113 (by decide) ?_
              refine Wt_jn (fun (j143 : Hp → Option Hp) => ∀ h10 : Hp, Wm X (fun _ => none) (fun v => v) (fun _ => True) 143 [(0, .ref (adr (xG X) 3 o 0)), (1, .int p1), (3, .int v2), (4, .int v3), (6, .int v9)] [] h10 (j143 h10)) ?_ fun j143 hj143 => ?_
              · intro h10
                refine r_aload_n F 0 rfl dX3_cart_143 rfl ?_
                refine r_getA F frX3_41 h_o dX3_cart_144 ?_
                refine r_iload_n F 2 rfl dX3_cart_147 rfl ?_
                refine r_dup2 F rfl rfl dX3_cart_148 ?_
                refine r_iaload F (ar_3_9 o h_o) dX3_cart_149 ?_
                refine r_iload F 4 rfl dX3_cart_150 ?_
                refine r_iadd F dX3_cart_152 ?_
                refine r_iastore F (ar_3_9 o h_o) dX3_cart_153 fun h11 => ?_
                refine r_aload_n F 0 rfl dX3_cart_154 rfl ?_
                refine r_getA F frX3_32 h_o dX3_cart_155 ?_
                refine r_iload_n F 1 rfl dX3_cart_158 rfl ?_
                refine r_dup2 F rfl rfl dX3_cart_159 ?_
                refine r_iaload F (ar_3_6 o h_o) dX3_cart_160 ?_
                refine r_iload F 3 rfl dX3_cart_161 ?_
                refine r_iload F 4 rfl dX3_cart_163 ?_
                refine r_imul F dX3_cart_165 ?_
                refine r_iadd F dX3_cart_166 ?_
                refine r_iastore F (ar_3_6 o h_o) dX3_cart_167 fun h12 => ?_
                exact r_vret F hA rfl rfl trivial dX3_cart_168
              refine r_icmpne F (tgt := 132) dX3_cart_115 (by decide) ?_ ?_
              · skip
                refine r_aload_n F 2 rfl dX3_cart_132 rfl ?_
                refine r_getA F frX3_11 h_o dX3_cart_133 ?_
                refine r_iload_n F 4 rfl dX3_cart_136 rfl ?_
                refine r_dup2 F rfl rfl dX3_cart_137 ?_
                refine r_iaload F (ar_3_0 o h_o) dX3_cart_138 ?_
                refine r_iload F 0 rfl dX3_cart_139 ?_
                refine r_isub F dX3_cart_141 ?_
                refine r_iastore F (ar_3_0 o h_o) dX3_cart_142 fun h13 => ?_
                exact Wt_pick [2, 3, 5, 6, 0] rfl (hj143 h13)
              refine r_aload_n F 2 rfl dX3_cart_118 rfl ?_
              refine r_dup F rfl dX3_cart_119 ?_
              refine r_getI F frX3_61 h_o dX3_cart_120 ?_
              refine r_iload F 0 rfl dX3_cart_123 ?_
              refine r_isub F dX3_cart_125 ?_
              refine r_putI F frX3_61 h_o rfl rfl dX3_cart_126 fun h14 => ?_
              refine r_goto F (tgt := 143) dX3_cart_129 (by decide) ?_
              exact Wt_pick [2, 3, 5, 6, 0] rfl (hj143 h14)
            refine r_icmpne F (tgt := 95) dX3_cart_85 (by decide) ?_ ?_
            · skip
              refine r_aload_n F 0 rfl dX3_cart_95 rfl ?_
              refine r_getA F frX3_11 h_o dX3_cart_96 ?_
              refine r_iload_n F 2 rfl dX3_cart_99 rfl ?_
              refine r_iaload F (ar_3_0 o h_o) dX3_cart_100 ?_
              exact Wt_pick [0, 1, 2, 3, 4] rfl (hj101 (gA h5 3 o 0 v1.toNatClampNeg))
            refine r_aload_n F 0 rfl dX3_cart_88 rfl ?_
            refine r_getI F frX3_61 h_o dX3_cart_89 ?_
            refine r_goto F (tgt := 101) dX3_cart_92 (by decide) ?_
            exact Wt_pick [0, 1, 2, 3, 4] rfl (hj101 (gI h5 3 o 12))
          exact r_vret F hA rfl rfl trivial dX3_cart_81
        refine r_aload_n F 0 rfl dX3_cart_34 rfl ?_
        refine r_getO F frX3_44 h_o dX3_cart_35 fun o15 hp_o15 => ?_
        refine r_getA F frX3_147 hp_o15 dX3_cart_38 ?_
        refine r_iload F 5 rfl dX3_cart_41 ?_
        refine r_iaload F (ar_5_5 o15 hp_o15) dX3_cart_43 ?_
        refine r_iload_n F 1 rfl dX3_cart_44 rfl ?_
        refine Wt_jn (fun (j70 : Int32 → Int32 → Hp → Option Hp) => ∀ v16 : Int32, ∀ v17 : Int32, ∀ h18 : Hp, Wm X (fun _ => none) (fun v => v) (fun _ => True) 70 [(0, .ref (adr (xG X) 3 o 0)), (1, .int p1), (2, .int v1), (3, .int v16), (4, .int v17), (5, .int v4)] [] h18 (j70 v16 v17 h18)) ?_ fun j70 hj70 => ?_
        · intro v16 v17 h18
          refine r_iinc F (v := 1) 5 rfl (by decide) (fun v19 => [(5, .int v19), (0, .ref (adr (xG X) 3 o 0)), (1, .int p1), (2, .int v1), (3, .int v16), (4, .int v17)]) (fun _ => rfl) dX3_cart_70 (hS _ (by decide)) fun v19 => ?_
          refine r_goto F (tgt := 22) dX3_cart_73 (by decide) ?_
          exact Wt_pick [1, 2, 3, 4, 5, 0] rfl (ih22 v16 v17 v19 h18)
        refine r_icmpne F (tgt := 70) dX3_cart_45 (by decide) ?_ ?_
        · skip
          exact Wt_pick [0, 1, 2, 3, 4, 5] rfl (hj70 v2 v3 h5)
        refine r_aload_n F 0 rfl dX3_cart_48 rfl ?_
        refine r_iload F 5 rfl dX3_cart_49 ?_
        refine k_iH (run_V F cvX3_150 h_o (c_X3_worthOf (xG X) _ N h5 o h_o v4) rfl rfl ⟨⟨rfl, rfl⟩, Nat.le_of_ble_eq_true rfl, Nat.le_of_ble_eq_true rfl⟩ (Nat.le_of_ble_eq_true rfl) dX3_cart_51) fun v21 h20 => ?_
        refine r_istore F [(6, .int v21), (0, .ref (adr (xG X) 3 o 0)), (1, .int p1), (2, .int v1), (3, .int v2), (4, .int v3), (5, .int v4)] rfl dX3_cart_54 (hS _ (by decide)) ?_
        refine r_iload F 0 rfl dX3_cart_56 ?_
        refine r_iload F 5 rfl dX3_cart_58 ?_
        refine r_icmple F (tgt := 70) dX3_cart_60 (by decide) ?_ ?_
        · skip
          exact Wt_pick [1, 2, 3, 4, 5, 6] rfl (hj70 v2 v3 h20)
        refine r_iload F 0 rfl dX3_cart_63 ?_
        refine r_istore F [(4, .int v21), (6, .int v21), (0, .ref (adr (xG X) 3 o 0)), (1, .int p1), (2, .int v1), (3, .int v2), (5, .int v4)] rfl dX3_cart_65 (hS _ (by decide)) ?_
        refine r_iload F 6 rfl dX3_cart_67 ?_
        refine r_istore_n F [(3, .int v4), (4, .int v21), (6, .int v21), (0, .ref (adr (xG X) 3 o 0)), (1, .int p1), (2, .int v1), (5, .int v4)] rfl dX3_cart_69 rfl (hS _ (by decide)) ?_
        exact Wt_pick [3, 4, 5, 0, 1, 6] rfl (hj70 v4 v21 h20)
    exact Wt_pick [4, 5, 3, 2, 1, 0] rfl (hl22 N (-1) (-1) 0 h)
  exact r_vret F hA rfl rfl trivial dX3_cart_13
theorem c_X3_cart (G : Gx) (l : Launch) (N : Nat) (h : Hp) (o : Nat) (h_o : o < cnt 3) (p1 : Int32) : Ctr G l yX3_cart (.code yX3_cart cX3_cart 7 none :: GT) rmX3_cart [.ref (adr G 3 o 0), .int p1] h (f_X3_cart N h o p1) (fun _ => none) (fun v => v) (fun _ => True) :=
  ctr_of (by decide) (Nat.le_of_ble_eq_true rfl) ⟨rfl, rfl⟩ fun X _ e2 hA hL F => by subst e2; exact w_X3_cart X F hA hL N h o h_o p1
def f_X3_fork (N : Nat) (h : Hp) (o : Nat) (p1 : Int32) : Option Hp :=
  (f_X3_sourceOf N h o p1 true).bind fun v1 =>
  if 0 ≤ v1 then
    grd (inb v1 8) <|
    (f_X3_namePlace h o (gA h 3 o 0 v1.toNatClampNeg) p1).bind fun h2 =>
    onO (gO h2 3 o 10) fun o3 =>
    bd2 (f_X0_value N h2 o3 1) fun v5 h4 =>
    jn (fun (v6 : Int32) =>
      grd (inb v1 8) <|
      lt_ ((if (gA h4 3 o 0 v1.toNatClampNeg) < v6 then (gA h4 3 o 0 v1.toNatClampNeg) else v6)) fun v7 =>
      grd (inb v1 8) <|
      grd (inb v1 8) <| lt_ (sA h4 3 o 0 v1.toNatClampNeg ((gA h4 3 o 0 v1.toNatClampNeg) - v7)) fun h8 =>
      lt_ (sI h8 3 o 12 ((gI h8 3 o 12) + v7)) fun h9 =>
      grd (inb p1 4) <|
      grd (inb p1 4) <| lt_ (sA h9 3 o 7 p1.toNatClampNeg ((gA h9 3 o 7 p1.toNatClampNeg) + v7)) fun h10 =>
      some h10) fun (j54 : Int32 → Option Hp) =>
    if ¬ (lg_cmp v5 (-9223372036854775808 : Int64)) = 0 then
      (f_X3_putWithin v5 99).bind fun v11 =>
      j54 v11
    else
    j54 8
  else
  some h
abbrev rmX3_fork : Room := { frames := 2, cells := 0, slots := 0, locals := 54 }
set_option maxRecDepth 100000 in
set_option maxHeartbeats 4000000 in
theorem w_X3_fork (X : Cx) (F : Fx X cX3_fork RX3 none rmX3_fork) (hA : xA X = Aw (xG X)) (hL : xL X = 7) (N : Nat) (h : Hp) (o : Nat) (h_o : o < cnt 3) (p1 : Int32) : Wm X (fun _ => none) (fun v => v) (fun _ => True) 0 [(0, .ref (adr (xG X) 3 o 0)), (1, .int p1)] [] h (f_X3_fork N h o p1) := by
  have hS : ∀ i : Nat, i < 7 → i < xL X := fun i z => by rw [hL]; exact z
  unfold f_X3_fork
  refine r_aload_n F 0 rfl dX3_fork_0 rfl ?_
  refine r_iload_n F 1 rfl dX3_fork_1 rfl ?_
  refine r_iconst F (v := 1) dX3_fork_2 (by decide) ?_
  refine k_iP (run_V F cvX3_140 h_o (c_X3_sourceOf (xG X) _ N h o h_o p1 true) rfl rfl ⟨⟨rfl, rfl⟩, Nat.le_of_ble_eq_true rfl, Nat.le_of_ble_eq_true rfl⟩ (Nat.le_of_ble_eq_true rfl) dX3_fork_3) fun v1 _ => ?_
  refine r_istore_n F [(2, .int v1), (0, .ref (adr (xG X) 3 o 0)), (1, .int p1)] rfl dX3_fork_6 rfl (hS _ (by decide)) ?_
  refine r_iload_n F 0 rfl dX3_fork_7 rfl ?_
  refine r_ifge F (tgt := 12) dX3_fork_8 (by decide) ?_ ?_
  · skip
    refine r_aload_n F 1 rfl dX3_fork_12 rfl ?_
    refine r_aload_n F 1 rfl dX3_fork_13 rfl ?_
    refine r_getA F frX3_11 h_o dX3_fork_14 ?_
    refine r_iload_n F 0 rfl dX3_fork_17 rfl ?_
    refine r_iaload F (ar_3_0 o h_o) dX3_fork_18 ?_
    refine r_iload_n F 2 rfl dX3_fork_19 rfl ?_
    refine k_vH (run_V F cvX3_157 h_o (c_X3_namePlace (xG X) _ h o h_o (gA h 3 o 0 v1.toNatClampNeg) p1) rfl rfl ⟨⟨rfl, rfl⟩, Nat.le_of_ble_eq_true rfl, Nat.le_of_ble_eq_true rfl⟩ (Nat.le_of_ble_eq_true rfl) dX3_fork_20) fun h2 => ?_
    refine r_aload_n F 1 rfl dX3_fork_23 rfl ?_
    refine r_getO F frX3_44 h_o dX3_fork_24 fun o3 hp_o3 => ?_
    refine r_getS F frX3_161 hp_o3 o3 rfl dX3_fork_27 ?_
    refine r_iconst F (v := 1) dX3_fork_30 (by decide) ?_
    refine k_lH (run_V F cvX3_165 hp_o3 (c_X0_value (xG X) _ N h2 o3 hp_o3 1) rfl rfl ⟨⟨rfl, rfl⟩, Nat.le_of_ble_eq_true rfl, Nat.le_of_ble_eq_true rfl⟩ (Nat.le_of_ble_eq_true rfl) dX3_fork_31) fun v5 h4 => ?_
    refine r_lstore_n F [(3, .long v5), (2, .int v1), (0, .ref (adr (xG X) 3 o 0)), (1, .int p1)] rfl dX3_fork_34 rfl (hS _ (by decide)) ?_
    refine r_lload_n F 0 rfl dX3_fork_35 rfl ?_
    refine r_ldc2 F wd_670 dX3_fork_36 ?_
    refine r_lcmp F dX3_fork_39 ?_
    refine Wt_jn (fun (j54 : Int32 → Option Hp) => ∀ v6 : Int32, Wm X (fun _ => none) (fun v => v) (fun _ => True) 54 [(0, .ref (adr (xG X) 3 o 0)), (1, .int p1), (2, .int v1)] [.int v6] h4 (j54 v6)) ?_ fun j54 hj54 => ?_
    · intro v6
      refine r_istore F [(5, .int v6), (0, .ref (adr (xG X) 3 o 0)), (1, .int p1), (2, .int v1)] rfl dX3_fork_54 (hS _ (by decide)) ?_
      refine r_iload F 0 rfl dX3_fork_56 ?_
      refine r_aload_n F 1 rfl dX3_fork_58 rfl ?_
      refine r_getA F frX3_11 h_o dX3_fork_59 ?_
      refine r_iload_n F 3 rfl dX3_fork_62 rfl ?_
      refine r_iaload F (ar_3_0 o h_o) dX3_fork_63 ?_
      refine r_min F wd_736 ws_min ⟨Nat.le_of_ble_eq_true rfl, Nat.le_of_ble_eq_true rfl⟩ dX3_fork_64 ?_
      refine r_nmI fun v7 => ?_
      refine r_istore F [(6, .int v7), (5, .int v6), (0, .ref (adr (xG X) 3 o 0)), (1, .int p1), (2, .int v1)] rfl dX3_fork_67 (hS _ (by decide)) ?_
      refine r_aload_n F 2 rfl dX3_fork_69 rfl ?_
      refine r_getA F frX3_11 h_o dX3_fork_70 ?_
      refine r_iload_n F 4 rfl dX3_fork_73 rfl ?_
      refine r_dup2 F rfl rfl dX3_fork_74 ?_
      refine r_iaload F (ar_3_0 o h_o) dX3_fork_75 ?_
      refine r_iload F 0 rfl dX3_fork_76 ?_
      refine r_isub F dX3_fork_78 ?_
      refine r_iastore F (ar_3_0 o h_o) dX3_fork_79 fun h8 => ?_
      refine r_aload_n F 2 rfl dX3_fork_80 rfl ?_
      refine r_dup F rfl dX3_fork_81 ?_
      refine r_getI F frX3_61 h_o dX3_fork_82 ?_
      refine r_iload F 0 rfl dX3_fork_85 ?_
      refine r_iadd F dX3_fork_87 ?_
      refine r_putI F frX3_61 h_o rfl rfl dX3_fork_88 fun h9 => ?_
      refine r_aload_n F 2 rfl dX3_fork_91 rfl ?_
      refine r_getA F frX3_35 h_o dX3_fork_92 ?_
      refine r_iload_n F 3 rfl dX3_fork_95 rfl ?_
      refine r_dup2 F rfl rfl dX3_fork_96 ?_
      refine r_iaload F (ar_3_7 o h_o) dX3_fork_97 ?_
      refine r_iload F 0 rfl dX3_fork_98 ?_
      refine r_iadd F dX3_fork_100 ?_
      refine r_iastore F (ar_3_7 o h_o) dX3_fork_101 fun h10 => ?_
      exact r_vret F hA rfl rfl trivial dX3_fork_102
    refine r_ifne F (tgt := 48) dX3_fork_40 (by decide) ?_ ?_
    · skip
      refine r_lload_n F 0 rfl dX3_fork_48 rfl ?_
      refine r_bipush F (v := 99) dX3_fork_49 (by decide) ?_
      refine k_iP (run_S F csX3_173 (c_X3_putWithin (xG X) _ h4 v5 99) rfl rfl ⟨⟨rfl, rfl⟩, Nat.le_of_ble_eq_true rfl, Nat.le_of_ble_eq_true rfl⟩ (Nat.le_of_ble_eq_true rfl) dX3_fork_51) fun v11 _ => ?_
      exact Wt_pick [2, 3, 1] rfl (hj54 v11)
    refine r_bipush F (v := 8) dX3_fork_43 (by decide) ?_
    refine r_goto F (tgt := 54) dX3_fork_45 (by decide) ?_
    exact Wt_pick [2, 3, 1] rfl (hj54 8)
  exact r_vret F hA rfl rfl trivial dX3_fork_11
theorem c_X3_fork (G : Gx) (l : Launch) (N : Nat) (h : Hp) (o : Nat) (h_o : o < cnt 3) (p1 : Int32) : Ctr G l yX3_fork (.code yX3_fork cX3_fork 7 none :: GT) rmX3_fork [.ref (adr G 3 o 0), .int p1] h (f_X3_fork N h o p1) (fun _ => none) (fun v => v) (fun _ => True) :=
  ctr_of (by decide) (Nat.le_of_ble_eq_true rfl) ⟨rfl, rfl⟩ fun X _ e2 hA hL F => by subst e2; exact w_X3_fork X F hA hL N h o h_o p1
def f_X3_ebb_2 (N : Nat) (o : Nat) (r2 : Int32 → Hp → Option Hp) (v1 : Int32) (h2 : Hp) : Option Hp :=
  onO (gO h2 3 o 10) fun o3 =>
  if (gI h2 5 o3 11) ≤ v1 then
    some h2
  else
  grd (inb v1 8) <|
  (f_X3_namePlace h2 o (gA h2 3 o 0 v1.toNatClampNeg) (-1)).bind fun h4 =>
  onO (gO h4 3 o 10) fun o5 =>
  bd2 (f_X0_value N h4 o5 2) fun v7 h6 =>
  jn (fun (v8 : Int32) =>
    grd (inb v1 8) <|
    grd (inb v1 8) <| lt_ (sA h6 3 o 0 v1.toNatClampNeg ((gA h6 3 o 0 v1.toNatClampNeg) - v8)) fun h9 =>
    lt_ (sI h9 3 o 13 ((gI h9 3 o 13) + v8)) fun h10 =>
    lt_ (v1 + 1) fun v11 =>
    r2 v11 h10) fun (j65 : Int32 → Option Hp) =>
  if ¬ (lg_cmp v7 (-9223372036854775808 : Int64)) = 0 then
    grd (inb v1 8) <|
    (f_X3_putWithin v7 (gA h6 3 o 0 v1.toNatClampNeg)).bind fun v12 =>
    j65 v12
  else
  grd (inb v1 8) <|
  j65 ((gA h6 3 o 0 v1.toNatClampNeg) / 2)
def f_X3_ebb (N : Nat) (h : Hp) (o : Nat) : Option Hp :=
  iter (fun _ _ => none) (f_X3_ebb_2 N o) N 0 h
abbrev rmX3_ebb : Room := { frames := 2, cells := 0, slots := 0, locals := 54 }
set_option maxRecDepth 100000 in
set_option maxHeartbeats 4000000 in
theorem w_X3_ebb (X : Cx) (F : Fx X cX3_ebb RX3 none rmX3_ebb) (hA : xA X = Aw (xG X)) (hL : xL X = 5) (N : Nat) (h : Hp) (o : Nat) (h_o : o < cnt 3) : Wm X (fun _ => none) (fun v => v) (fun _ => True) 0 [(0, .ref (adr (xG X) 3 o 0))] [] h (f_X3_ebb N h o) := by
  have hS : ∀ i : Nat, i < 5 → i < xL X := fun i z => by rw [hL]; exact z
  unfold f_X3_ebb
  refine r_iconst F (v := 0) dX3_ebb_0 (by decide) ?_
  refine r_istore_n F [(1, .int 0), (0, .ref (adr (xG X) 3 o 0))] rfl dX3_ebb_1 rfl (hS _ (by decide)) ?_
  have hl2 : ∀ n : Nat, ∀ v1 : Int32, ∀ h2 : Hp, Wm X (fun _ => none) (fun v => v) (fun _ => True) 2 [(0, .ref (adr (xG X) 3 o 0)), (1, .int v1)] [] h2 (iter (fun _ _ => none) (f_X3_ebb_2 N o) n v1 h2) := by
    intro n
    induction n with
    | zero => intro v1 h2; exact Wt_none
    | succ n ih =>
      revert ih
      show (∀ v1 : Int32, ∀ h2 : Hp, Wm X (fun _ => none) (fun v => v) (fun _ => True) 2 [(0, .ref (adr (xG X) 3 o 0)), (1, .int v1)] [] h2 (iter (fun _ _ => none) (f_X3_ebb_2 N o) n v1 h2)) → _
      intro ih2 v1 h2
      show Wm X (fun _ => none) (fun v => v) (fun _ => True) 2 [(0, .ref (adr (xG X) 3 o 0)), (1, .int v1)] [] h2 (f_X3_ebb_2 N o (iter (fun _ _ => none) (f_X3_ebb_2 N o) n) v1 h2)
      revert ih2
      generalize iter (fun _ _ => none) (f_X3_ebb_2 N o) n = r2
      intro ih2
      unfold f_X3_ebb_2
      refine r_iload_n F 1 rfl dX3_ebb_2 rfl ?_
      refine r_aload_n F 0 rfl dX3_ebb_3 rfl ?_
      refine r_getO F frX3_44 h_o dX3_ebb_4 fun o3 hp_o3 => ?_
      refine r_getI F frX3_108 hp_o3 dX3_ebb_7 ?_
      refine r_icmpge F (tgt := 95) dX3_ebb_10 (by decide) ?_ ?_
      · skip
        exact r_vret F hA rfl rfl trivial dX3_ebb_95
      refine r_aload_n F 0 rfl dX3_ebb_13 rfl ?_
      refine r_aload_n F 0 rfl dX3_ebb_14 rfl ?_
      refine r_getA F frX3_11 h_o dX3_ebb_15 ?_
      refine r_iload_n F 1 rfl dX3_ebb_18 rfl ?_
      refine r_iaload F (ar_3_0 o h_o) dX3_ebb_19 ?_
      refine r_iconst F (v := (-1)) dX3_ebb_20 (by decide) ?_
      refine k_vH (run_V F cvX3_157 h_o (c_X3_namePlace (xG X) _ h2 o h_o (gA h2 3 o 0 v1.toNatClampNeg) (-1)) rfl rfl ⟨⟨rfl, rfl⟩, Nat.le_of_ble_eq_true rfl, Nat.le_of_ble_eq_true rfl⟩ (Nat.le_of_ble_eq_true rfl) dX3_ebb_21) fun h4 => ?_
      refine r_aload_n F 0 rfl dX3_ebb_24 rfl ?_
      refine r_getO F frX3_44 h_o dX3_ebb_25 fun o5 hp_o5 => ?_
      refine r_getS F frX3_161 hp_o5 o5 rfl dX3_ebb_28 ?_
      refine r_iconst F (v := 2) dX3_ebb_31 (by decide) ?_
      refine k_lH (run_V F cvX3_165 hp_o5 (c_X0_value (xG X) _ N h4 o5 hp_o5 2) rfl rfl ⟨⟨rfl, rfl⟩, Nat.le_of_ble_eq_true rfl, Nat.le_of_ble_eq_true rfl⟩ (Nat.le_of_ble_eq_true rfl) dX3_ebb_32) fun v7 h6 => ?_
      refine r_lstore_n F [(2, .long v7), (0, .ref (adr (xG X) 3 o 0)), (1, .int v1)] rfl dX3_ebb_35 rfl (hS _ (by decide)) ?_
      refine r_lload_n F 0 rfl dX3_ebb_36 rfl ?_
      refine r_ldc2 F wd_670 dX3_ebb_37 ?_
      refine r_lcmp F dX3_ebb_40 ?_
      refine Wt_jn (fun (j65 : Int32 → Option Hp) => ∀ v8 : Int32, Wm X (fun _ => none) (fun v => v) (fun _ => True) 65 [(0, .ref (adr (xG X) 3 o 0)), (1, .int v1)] [.int v8] h6 (j65 v8)) ?_ fun j65 hj65 => ?_
      · intro v8
        refine r_istore F [(4, .int v8), (0, .ref (adr (xG X) 3 o 0)), (1, .int v1)] rfl dX3_ebb_65 (hS _ (by decide)) ?_
        refine r_aload_n F 1 rfl dX3_ebb_67 rfl ?_
        refine r_getA F frX3_11 h_o dX3_ebb_68 ?_
        refine r_iload_n F 2 rfl dX3_ebb_71 rfl ?_
        refine r_dup2 F rfl rfl dX3_ebb_72 ?_
        refine r_iaload F (ar_3_0 o h_o) dX3_ebb_73 ?_
        refine r_iload F 0 rfl dX3_ebb_74 ?_
        refine r_isub F dX3_ebb_76 ?_
        refine r_iastore F (ar_3_0 o h_o) dX3_ebb_77 fun h9 => ?_
        refine r_aload_n F 1 rfl dX3_ebb_78 rfl ?_
        refine r_dup F rfl dX3_ebb_79 ?_
        refine r_getI F frX3_62 h_o dX3_ebb_80 ?_
        refine r_iload F 0 rfl dX3_ebb_83 ?_
        refine r_iadd F dX3_ebb_85 ?_
        refine r_putI F frX3_62 h_o rfl rfl dX3_ebb_86 fun h10 => ?_
        refine r_iinc F (v := 1) 2 rfl (by decide) (fun v11 => [(1, .int v11), (4, .int v8), (0, .ref (adr (xG X) 3 o 0))]) (fun _ => rfl) dX3_ebb_89 (hS _ (by decide)) fun v11 => ?_
        refine r_goto F (tgt := 2) dX3_ebb_92 (by decide) ?_
        exact Wt_pick [2, 0] rfl (ih2 v11 h10)
      refine r_ifne F (tgt := 55) dX3_ebb_41 (by decide) ?_ ?_
      · skip
        refine r_lload_n F 0 rfl dX3_ebb_55 rfl ?_
        refine r_aload_n F 1 rfl dX3_ebb_56 rfl ?_
        refine r_getA F frX3_11 h_o dX3_ebb_57 ?_
        refine r_iload_n F 2 rfl dX3_ebb_60 rfl ?_
        refine r_iaload F (ar_3_0 o h_o) dX3_ebb_61 ?_
        refine k_iP (run_S F csX3_173 (c_X3_putWithin (xG X) _ h6 v7 (gA h6 3 o 0 v1.toNatClampNeg)) rfl rfl ⟨⟨rfl, rfl⟩, Nat.le_of_ble_eq_true rfl, Nat.le_of_ble_eq_true rfl⟩ (Nat.le_of_ble_eq_true rfl) dX3_ebb_62) fun v12 _ => ?_
        exact Wt_pick [1, 2] rfl (hj65 v12)
      refine r_aload_n F 1 rfl dX3_ebb_44 rfl ?_
      refine r_getA F frX3_11 h_o dX3_ebb_45 ?_
      refine r_iload_n F 2 rfl dX3_ebb_48 rfl ?_
      refine r_iaload F (ar_3_0 o h_o) dX3_ebb_49 ?_
      refine r_iconst F (v := 2) dX3_ebb_50 (by decide) ?_
      refine r_idivc F (by decide) dX3_ebb_51 ?_
      refine r_goto F (tgt := 65) dX3_ebb_52 (by decide) ?_
      exact Wt_pick [1, 2] rfl (hj65 ((gA h6 3 o 0 v1.toNatClampNeg) / 2))
  exact Wt_pick [1, 0] rfl (hl2 N 0 h)
theorem c_X3_ebb (G : Gx) (l : Launch) (N : Nat) (h : Hp) (o : Nat) (h_o : o < cnt 3) : Ctr G l yX3_ebb (.code yX3_ebb cX3_ebb 5 none :: GT) rmX3_ebb [.ref (adr G 3 o 0)] h (f_X3_ebb N h o) (fun _ => none) (fun v => v) (fun _ => True) :=
  ctr_of (by decide) (Nat.le_of_ble_eq_true rfl) ⟨rfl, rfl⟩ fun X _ e2 hA hL F => by subst e2; exact w_X3_ebb X F hA hL N h o h_o
def f_X3_passHour_2 (N : Nat) (o : Nat) (r2 : Int32 → Hp → Option Hp) (v1 : Int32) (h2 : Hp) : Option Hp :=
  onO (gO h2 3 o 10) fun o3 =>
  if (gI h2 5 o3 12) ≤ v1 then
    jn (fun (h4 : Hp) =>
      lt_ (sI h4 3 o 11 ((gI h4 3 o 11) + 1)) fun h5 =>
      some h5) fun (j106 : Hp → Option Hp) =>
    if (b2i (gZ h2 3 o 16)) = 0 then
      j106 h2
    else
    onO (gO h2 3 o 10) fun o6 =>
    (f_X5_hasTide N h2 o6 ((gI h2 3 o 11) - (gI h2 3 o 11) / 24 * 24)).bind fun v7 =>
    if (b2i v7) = 0 then
      j106 h2
    else
    (f_X3_ebb N h2 o).bind fun h8 =>
    j106 h8
  else
  grd (inb v1 4) <|
  jn (fun (h9 : Hp) =>
    lt_ (v1 + 1) fun v10 =>
    r2 v10 h9) fun (j72 : Hp → Option Hp) =>
  if (gI h2 3 o 11) < (gA h2 3 o 4 v1.toNatClampNeg) then
    j72 h2
  else
  grd (inb v1 4) <|
  jn (fun (v11 : Int32) =>
    if ¬ v11 = 1 then
      if ¬ v11 = 2 then
        j72 h2
      else
      (f_X3_fork N h2 o v1).bind fun h12 =>
      j72 h12
    else
    (f_X3_cart N h2 o v1).bind fun h13 =>
    j72 h13) fun (j48 : Int32 → Option Hp) =>
  if ¬ (gA h2 3 o 5 v1.toNatClampNeg) = 0 then
    grd (inb v1 4) <|
    j48 (gA h2 3 o 5 v1.toNatClampNeg)
  else
  (f_X3_ruledAct N h2 o).bind fun v14 =>
  j48 v14
def f_X3_passHour (N : Nat) (h : Hp) (o : Nat) : Option Hp :=
  iter (fun _ _ => none) (f_X3_passHour_2 N o) N 0 h
abbrev rmX3_passHour : Room := { frames := 4, cells := 0, slots := 0, locals := 104 }
set_option maxRecDepth 100000 in
set_option maxHeartbeats 4000000 in
theorem w_X3_passHour (X : Cx) (F : Fx X cX3_passHour RX3 none rmX3_passHour) (hA : xA X = Aw (xG X)) (hL : xL X = 3) (N : Nat) (h : Hp) (o : Nat) (h_o : o < cnt 3) : Wm X (fun _ => none) (fun v => v) (fun _ => True) 0 [(0, .ref (adr (xG X) 3 o 0))] [] h (f_X3_passHour N h o) := by
  have hS : ∀ i : Nat, i < 3 → i < xL X := fun i z => by rw [hL]; exact z
  unfold f_X3_passHour
  refine r_iconst F (v := 0) dX3_passHour_0 (by decide) ?_
  refine r_istore_n F [(1, .int 0), (0, .ref (adr (xG X) 3 o 0))] rfl dX3_passHour_1 rfl (hS _ (by decide)) ?_
  have hl2 : ∀ n : Nat, ∀ v1 : Int32, ∀ h2 : Hp, Wm X (fun _ => none) (fun v => v) (fun _ => True) 2 [(0, .ref (adr (xG X) 3 o 0)), (1, .int v1)] [] h2 (iter (fun _ _ => none) (f_X3_passHour_2 N o) n v1 h2) := by
    intro n
    induction n with
    | zero => intro v1 h2; exact Wt_none
    | succ n ih =>
      revert ih
      show (∀ v1 : Int32, ∀ h2 : Hp, Wm X (fun _ => none) (fun v => v) (fun _ => True) 2 [(0, .ref (adr (xG X) 3 o 0)), (1, .int v1)] [] h2 (iter (fun _ _ => none) (f_X3_passHour_2 N o) n v1 h2)) → _
      intro ih2 v1 h2
      show Wm X (fun _ => none) (fun v => v) (fun _ => True) 2 [(0, .ref (adr (xG X) 3 o 0)), (1, .int v1)] [] h2 (f_X3_passHour_2 N o (iter (fun _ _ => none) (f_X3_passHour_2 N o) n) v1 h2)
      revert ih2
      generalize iter (fun _ _ => none) (f_X3_passHour_2 N o) n = r2
      intro ih2
      unfold f_X3_passHour_2
      refine r_iload_n F 1 rfl dX3_passHour_2 rfl ?_
      refine r_aload_n F 0 rfl dX3_passHour_3 rfl ?_
      refine r_getO F frX3_44 h_o dX3_passHour_4 fun o3 hp_o3 => ?_
      refine r_getI F frX3_76 hp_o3 dX3_passHour_7 ?_
      refine r_icmpge F (tgt := 78) dX3_passHour_10 (by decide) ?_ ?_
      · skip
        refine r_aload_n F 0 rfl dX3_passHour_78 rfl ?_
        refine r_getZ F frX3_48 h_o dX3_passHour_79 ?_
        refine Wt_jn (fun (j106 : Hp → Option Hp) => ∀ h4 : Hp, Wm X (fun _ => none) (fun v => v) (fun _ => True) 106 [(0, .ref (adr (xG X) 3 o 0))] [] h4 (j106 h4)) ?_ fun j106 hj106 => ?_
        · intro h4
          refine r_aload_n F 0 rfl dX3_passHour_106 rfl ?_
          refine r_dup F rfl dX3_passHour_107 ?_
          refine r_getI F frX3_52 h_o dX3_passHour_108 ?_
          refine r_iconst F (v := 1) dX3_passHour_111 (by decide) ?_
          refine r_iadd F dX3_passHour_112 ?_
          refine r_putI F frX3_52 h_o rfl rfl dX3_passHour_113 fun h5 => ?_
          exact r_vret F hA rfl rfl trivial dX3_passHour_116
        refine r_ifeq F (tgt := 106) dX3_passHour_82 (by decide) ?_ ?_
        · skip
          exact Wt_pick [0] rfl (hj106 h2)
        refine r_aload_n F 0 rfl dX3_passHour_85 rfl ?_
        refine r_getO F frX3_44 h_o dX3_passHour_86 fun o6 hp_o6 => ?_
        refine r_aload_n F 0 rfl dX3_passHour_89 rfl ?_
        refine r_getI F frX3_52 h_o dX3_passHour_90 ?_
        refine r_bipush F (v := 24) dX3_passHour_93 (by decide) ?_
        refine r_iremc F (by decide) dX3_passHour_95 ?_
        refine k_zP (run_V F cvX3_130 hp_o6 (c_X5_hasTide (xG X) _ N h2 o6 hp_o6 ((gI h2 3 o 11) - (gI h2 3 o 11) / 24 * 24)) rfl rfl ⟨⟨rfl, rfl⟩, Nat.le_of_ble_eq_true rfl, Nat.le_of_ble_eq_true rfl⟩ (Nat.le_of_ble_eq_true rfl) dX3_passHour_96) fun v7 _ => ?_
        refine r_ifeq F (tgt := 106) dX3_passHour_99 (by decide) ?_ ?_
        · skip
          exact Wt_pick [0] rfl (hj106 h2)
        refine r_aload_n F 0 rfl dX3_passHour_102 rfl ?_
        refine k_vH (run_V F cvX3_134 h_o (c_X3_ebb (xG X) _ N h2 o h_o) rfl rfl ⟨⟨rfl, rfl⟩, Nat.le_of_ble_eq_true rfl, Nat.le_of_ble_eq_true rfl⟩ (Nat.le_of_ble_eq_true rfl) dX3_passHour_103) fun h8 => ?_
        exact Wt_pick [0] rfl (hj106 h8)
      refine r_aload_n F 0 rfl dX3_passHour_13 rfl ?_
      refine r_getA F frX3_26 h_o dX3_passHour_14 ?_
      refine r_iload_n F 1 rfl dX3_passHour_17 rfl ?_
      refine r_iaload F (ar_3_4 o h_o) dX3_passHour_18 ?_
      refine r_aload_n F 0 rfl dX3_passHour_19 rfl ?_
      refine r_getI F frX3_52 h_o dX3_passHour_20 ?_
      refine Wt_jn (fun (j72 : Hp → Option Hp) => ∀ h9 : Hp, Wm X (fun _ => none) (fun v => v) (fun _ => True) 72 [(0, .ref (adr (xG X) 3 o 0)), (1, .int v1)] [] h9 (j72 h9)) ?_ fun j72 hj72 => ?_
      · intro h9
        refine r_iinc F (v := 1) 1 rfl (by decide) (fun v10 => [(1, .int v10), (0, .ref (adr (xG X) 3 o 0))]) (fun _ => rfl) dX3_passHour_72 (hS _ (by decide)) fun v10 => ?_
        refine r_goto F (tgt := 2) dX3_passHour_75 (by decide) ?_
        exact Wt_pick [1, 0] rfl (ih2 v10 h9)
      refine r_icmpgt F (tgt := 72) dX3_passHour_23 (by decide) ?_ ?_
      · skip
        exact Wt_pick [0, 1] rfl (hj72 h2)
      refine r_aload_n F 0 rfl dX3_passHour_26 rfl ?_
      refine r_getA F frX3_29 h_o dX3_passHour_27 ?_
      refine r_iload_n F 1 rfl dX3_passHour_30 rfl ?_
      refine r_iaload F (ar_3_5 o h_o) dX3_passHour_31 ?_
      refine Wt_jn (fun (j48 : Int32 → Option Hp) => ∀ v11 : Int32, Wm X (fun _ => none) (fun v => v) (fun _ => True) 48 [(0, .ref (adr (xG X) 3 o 0)), (1, .int v1)] [.int v11] h2 (j48 v11)) ?_ fun j48 hj48 => ?_
      · intro v11
        refine r_istore_n F [(2, .int v11), (0, .ref (adr (xG X) 3 o 0)), (1, .int v1)] rfl dX3_passHour_48 rfl (hS _ (by decide)) ?_
        refine r_iload_n F 0 rfl dX3_passHour_49 rfl ?_
        refine r_iconst F (v := 1) dX3_passHour_50 (by decide) ?_
        refine r_icmpne F (tgt := 62) dX3_passHour_51 (by decide) ?_ ?_
        · skip
          refine r_iload_n F 0 rfl dX3_passHour_62 rfl ?_
          refine r_iconst F (v := 2) dX3_passHour_63 (by decide) ?_
          refine r_icmpne F (tgt := 72) dX3_passHour_64 (by decide) ?_ ?_
          · skip
            exact Wt_pick [1, 2] rfl (hj72 h2)
          refine r_aload_n F 1 rfl dX3_passHour_67 rfl ?_
          refine r_iload_n F 2 rfl dX3_passHour_68 rfl ?_
          refine k_vH (run_V F cvX3_127 h_o (c_X3_fork (xG X) _ N h2 o h_o v1) rfl rfl ⟨⟨rfl, rfl⟩, Nat.le_of_ble_eq_true rfl, Nat.le_of_ble_eq_true rfl⟩ (Nat.le_of_ble_eq_true rfl) dX3_passHour_69) fun h12 => ?_
          exact Wt_pick [1, 2] rfl (hj72 h12)
        refine r_aload_n F 1 rfl dX3_passHour_54 rfl ?_
        refine r_iload_n F 2 rfl dX3_passHour_55 rfl ?_
        refine k_vH (run_V F cvX3_123 h_o (c_X3_cart (xG X) _ N h2 o h_o v1) rfl rfl ⟨⟨rfl, rfl⟩, Nat.le_of_ble_eq_true rfl, Nat.le_of_ble_eq_true rfl⟩ (Nat.le_of_ble_eq_true rfl) dX3_passHour_56) fun h13 => ?_
        refine r_goto F (tgt := 72) dX3_passHour_59 (by decide) ?_
        exact Wt_pick [1, 2] rfl (hj72 h13)
      refine r_ifne F (tgt := 42) dX3_passHour_32 (by decide) ?_ ?_
      · skip
        refine r_aload_n F 0 rfl dX3_passHour_42 rfl ?_
        refine r_getA F frX3_29 h_o dX3_passHour_43 ?_
        refine r_iload_n F 1 rfl dX3_passHour_46 rfl ?_
        refine r_iaload F (ar_3_5 o h_o) dX3_passHour_47 ?_
        exact Wt_pick [0, 1] rfl (hj48 (gA h2 3 o 5 v1.toNatClampNeg))
      refine r_aload_n F 0 rfl dX3_passHour_35 rfl ?_
      refine k_iP (run_V F cvX3_120 h_o (c_X3_ruledAct (xG X) _ N h2 o h_o) rfl rfl ⟨⟨rfl, rfl⟩, Nat.le_of_ble_eq_true rfl, Nat.le_of_ble_eq_true rfl⟩ (Nat.le_of_ble_eq_true rfl) dX3_passHour_36) fun v14 _ => ?_
      refine r_goto F (tgt := 48) dX3_passHour_39 (by decide) ?_
      exact Wt_pick [0, 1] rfl (hj48 v14)
  exact Wt_pick [1, 0] rfl (hl2 N 0 h)
theorem c_X3_passHour (G : Gx) (l : Launch) (N : Nat) (h : Hp) (o : Nat) (h_o : o < cnt 3) : Ctr G l yX3_passHour (.code yX3_passHour cX3_passHour 3 none :: GT) rmX3_passHour [.ref (adr G 3 o 0)] h (f_X3_passHour N h o) (fun _ => none) (fun v => v) (fun _ => True) :=
  ctr_of (by decide) (Nat.le_of_ble_eq_true rfl) ⟨rfl, rfl⟩ fun X _ e2 hA hL F => by subst e2; exact w_X3_passHour X F hA hL N h o h_o
def f_X3_passHours_2 (N : Nat) (o : Nat) (p1 : Int32) (r2 : Int32 → Hp → Option Hp) (v1 : Int32) (h2 : Hp) : Option Hp :=
  if p1 ≤ v1 then
    some h2
  else
  (f_X3_passHour N h2 o).bind fun h3 =>
  lt_ (v1 + 1) fun v4 =>
  r2 v4 h3
def f_X3_passHours (N : Nat) (h : Hp) (o : Nat) (p1 : Int32) : Option Hp :=
  iter (fun _ _ => none) (f_X3_passHours_2 N o p1) N 0 h
abbrev rmX3_passHours : Room := { frames := 5, cells := 0, slots := 0, locals := 126 }
set_option maxRecDepth 100000 in
set_option maxHeartbeats 4000000 in
theorem w_X3_passHours (X : Cx) (F : Fx X cX3_passHours RX3 none rmX3_passHours) (hA : xA X = Aw (xG X)) (hL : xL X = 3) (N : Nat) (h : Hp) (o : Nat) (h_o : o < cnt 3) (p1 : Int32) : Wm X (fun _ => none) (fun v => v) (fun _ => True) 0 [(0, .ref (adr (xG X) 3 o 0)), (1, .int p1)] [] h (f_X3_passHours N h o p1) := by
  have hS : ∀ i : Nat, i < 3 → i < xL X := fun i z => by rw [hL]; exact z
  unfold f_X3_passHours
  refine r_iconst F (v := 0) dX3_passHours_0 (by decide) ?_
  refine r_istore_n F [(2, .int 0), (0, .ref (adr (xG X) 3 o 0)), (1, .int p1)] rfl dX3_passHours_1 rfl (hS _ (by decide)) ?_
  have hl2 : ∀ n : Nat, ∀ v1 : Int32, ∀ h2 : Hp, Wm X (fun _ => none) (fun v => v) (fun _ => True) 2 [(0, .ref (adr (xG X) 3 o 0)), (1, .int p1), (2, .int v1)] [] h2 (iter (fun _ _ => none) (f_X3_passHours_2 N o p1) n v1 h2) := by
    intro n
    induction n with
    | zero => intro v1 h2; exact Wt_none
    | succ n ih =>
      revert ih
      show (∀ v1 : Int32, ∀ h2 : Hp, Wm X (fun _ => none) (fun v => v) (fun _ => True) 2 [(0, .ref (adr (xG X) 3 o 0)), (1, .int p1), (2, .int v1)] [] h2 (iter (fun _ _ => none) (f_X3_passHours_2 N o p1) n v1 h2)) → _
      intro ih2 v1 h2
      show Wm X (fun _ => none) (fun v => v) (fun _ => True) 2 [(0, .ref (adr (xG X) 3 o 0)), (1, .int p1), (2, .int v1)] [] h2 (f_X3_passHours_2 N o p1 (iter (fun _ _ => none) (f_X3_passHours_2 N o p1) n) v1 h2)
      revert ih2
      generalize iter (fun _ _ => none) (f_X3_passHours_2 N o p1) n = r2
      intro ih2
      unfold f_X3_passHours_2
      refine r_iload_n F 2 rfl dX3_passHours_2 rfl ?_
      refine r_iload_n F 1 rfl dX3_passHours_3 rfl ?_
      refine r_icmpge F (tgt := 17) dX3_passHours_4 (by decide) ?_ ?_
      · skip
        exact r_vret F hA rfl rfl trivial dX3_passHours_17
      refine r_aload_n F 0 rfl dX3_passHours_7 rfl ?_
      refine k_vH (run_V F cvX3_88 h_o (c_X3_passHour (xG X) _ N h2 o h_o) rfl rfl ⟨⟨rfl, rfl⟩, Nat.le_of_ble_eq_true rfl, Nat.le_of_ble_eq_true rfl⟩ (Nat.le_of_ble_eq_true rfl) dX3_passHours_8) fun h3 => ?_
      refine r_iinc F (v := 1) 2 rfl (by decide) (fun v4 => [(2, .int v4), (0, .ref (adr (xG X) 3 o 0)), (1, .int p1)]) (fun _ => rfl) dX3_passHours_11 (hS _ (by decide)) fun v4 => ?_
      refine r_goto F (tgt := 2) dX3_passHours_14 (by decide) ?_
      exact Wt_pick [1, 2, 0] rfl (ih2 v4 h3)
  exact Wt_pick [1, 2, 0] rfl (hl2 N 0 h)
theorem c_X3_passHours (G : Gx) (l : Launch) (N : Nat) (h : Hp) (o : Nat) (h_o : o < cnt 3) (p1 : Int32) : Ctr G l yX3_passHours (.code yX3_passHours cX3_passHours 3 none :: GT) rmX3_passHours [.ref (adr G 3 o 0), .int p1] h (f_X3_passHours N h o p1) (fun _ => none) (fun v => v) (fun _ => True) :=
  ctr_of (by decide) (Nat.le_of_ble_eq_true rfl) ⟨rfl, rfl⟩ fun X _ e2 hA hL F => by subst e2; exact w_X3_passHours X F hA hL N h o h_o p1
def f_X3_drawNumber (h : Hp) (o : Nat) : Option (Int32 × Hp) :=
  lt_ (sI h 3 o 15 ((((((gI h 3 o 15)).toInt64 * (1103515245 : Int64)) + (12345 : Int64)) &&& (2147483647 : Int64))).toInt32) fun h1 =>
  some (((gI h1 3 o 15) / 65536), h1)
abbrev rmX3_drawNumber : Room := { frames := 0, cells := 0, slots := 0, locals := 0 }
set_option maxRecDepth 100000 in
set_option maxHeartbeats 4000000 in
theorem w_X3_drawNumber (X : Cx) (F : Fx X cX3_drawNumber RX3 (some .int) rmX3_drawNumber) (hA : xA X = Aw (xG X)) (hL : xL X = 1) (h : Hp) (o : Nat) (h_o : o < cnt 3) : Wm X (fun v => some (.int v.1)) (fun v => v.2) (fun _ => True) 0 [(0, .ref (adr (xG X) 3 o 0))] [] h (f_X3_drawNumber h o) := by
  have hS : ∀ i : Nat, i < 1 → i < xL X := fun i z => by rw [hL]; exact z
  unfold f_X3_drawNumber
  refine r_aload_n F 0 rfl dX3_drawNumber_0 rfl ?_
  refine r_aload_n F 0 rfl dX3_drawNumber_1 rfl ?_
  refine r_getI F frX3_72 h_o dX3_drawNumber_2 ?_
  refine r_i2l F dX3_drawNumber_5 ?_
  refine r_ldc2 F wd_728 dX3_drawNumber_6 ?_
  refine r_lmul F dX3_drawNumber_9 ?_
  refine r_ldc2 F wd_729 dX3_drawNumber_10 ?_
  refine r_ladd F dX3_drawNumber_13 ?_
  refine r_ldc2 F wd_730 dX3_drawNumber_14 ?_
  refine r_land F dX3_drawNumber_17 ?_
  refine r_l2i F dX3_drawNumber_18 ?_
  refine r_putI F frX3_72 h_o rfl rfl dX3_drawNumber_19 fun h1 => ?_
  refine r_aload_n F 0 rfl dX3_drawNumber_22 rfl ?_
  refine r_getI F frX3_72 h_o dX3_drawNumber_23 ?_
  refine r_ldc F wd_731 dX3_drawNumber_26 ?_
  refine r_idivc F (by decide) dX3_drawNumber_28 ?_
  exact r_iret F hA rfl rfl trivial dX3_drawNumber_29
theorem c_X3_drawNumber (G : Gx) (l : Launch) (h : Hp) (o : Nat) (h_o : o < cnt 3) : Ctr G l yX3_drawNumber (.code yX3_drawNumber cX3_drawNumber 1 (some .int) :: GT) rmX3_drawNumber [.ref (adr G 3 o 0)] h (f_X3_drawNumber h o) (fun v => some (.int v.1)) (fun v => v.2) (fun _ => True) :=
  ctr_of (by decide) (Nat.le_of_ble_eq_true rfl) ⟨rfl, rfl⟩ fun X _ e2 hA hL F => by subst e2; exact w_X3_drawNumber X F hA hL h o h_o
