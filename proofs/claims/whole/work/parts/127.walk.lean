theorem dX8_rests_0 : decode cX8_rests 0 = .ok (.aload_n 0, 1) := by decide +kernel
theorem dX8_rests_1 : decode cX8_rests 1 = .ok (.iconst 0, 1) := by decide +kernel
theorem dX8_rests_2 : decode cX8_rests 2 = .ok (.putfield 163, 3) := by decide +kernel
theorem dX8_rests_5 : decode cX8_rests 5 = .ok (.aload_n 0, 1) := by decide +kernel
theorem dX8_rests_6 : decode cX8_rests 6 = .ok (.iload_n 1, 1) := by decide +kernel
theorem dX8_rests_7 : decode cX8_rests 7 = .ok (.iload_n 2, 1) := by decide +kernel
theorem dX8_rests_8 : decode cX8_rests 8 = .ok (.iload_n 3, 1) := by decide +kernel
theorem dX8_rests_9 : decode cX8_rests 9 = .ok (.invokevirtual 513, 3) := by decide +kernel
theorem dX8_rests_12 : decode cX8_rests 12 = .ok (.ifCond .eq 14, 3) := by decide +kernel
theorem dX8_rests_15 : decode cX8_rests 15 = .ok (.aload_n 0, 1) := by decide +kernel
theorem dX8_rests_16 : decode cX8_rests 16 = .ok (.iload_n 1, 1) := by decide +kernel
theorem dX8_rests_17 : decode cX8_rests 17 = .ok (.iload_n 2, 1) := by decide +kernel
theorem dX8_rests_18 : decode cX8_rests 18 = .ok (.iload_n 3, 1) := by decide +kernel
theorem dX8_rests_19 : decode cX8_rests 19 = .ok (.iconst (-1), 1) := by decide +kernel
theorem dX8_rests_20 : decode cX8_rests 20 = .ok (.invokevirtual 516, 3) := by decide +kernel
theorem dX8_rests_23 : decode cX8_rests 23 = .ok (.goto 4, 3) := by decide +kernel
theorem dX8_rests_26 : decode cX8_rests 26 = .ok (.iconst (-1), 1) := by decide +kernel
theorem dX8_rests_27 : decode cX8_rests 27 = .ok (.ireturn, 1) := by decide +kernel
theorem dX8_rest_0 : decode cX8_rest 0 = .ok (.aload_n 0, 1) := by decide +kernel
theorem dX8_rest_1 : decode cX8_rest 1 = .ok (.iconst 0, 1) := by decide +kernel
theorem dX8_rest_2 : decode cX8_rest 2 = .ok (.putfield 163, 3) := by decide +kernel
theorem dX8_rest_5 : decode cX8_rest 5 = .ok (.aload_n 0, 1) := by decide +kernel
theorem dX8_rest_6 : decode cX8_rest 6 = .ok (.iload_n 1, 1) := by decide +kernel
theorem dX8_rest_7 : decode cX8_rest 7 = .ok (.iload_n 2, 1) := by decide +kernel
theorem dX8_rest_8 : decode cX8_rest 8 = .ok (.iload_n 3, 1) := by decide +kernel
theorem dX8_rest_9 : decode cX8_rest 9 = .ok (.invokevirtual 513, 3) := by decide +kernel
theorem dX8_rest_12 : decode cX8_rest 12 = .ok (.ifCond .eq 20, 3) := by decide +kernel
theorem dX8_rest_15 : decode cX8_rest 15 = .ok (.iload 4, 2) := by decide +kernel
theorem dX8_rest_17 : decode cX8_rest 17 = .ok (.ifCond .lt 15, 3) := by decide +kernel
theorem dX8_rest_20 : decode cX8_rest 20 = .ok (.aload_n 0, 1) := by decide +kernel
theorem dX8_rest_21 : decode cX8_rest 21 = .ok (.iload_n 1, 1) := by decide +kernel
theorem dX8_rest_22 : decode cX8_rest 22 = .ok (.iload_n 2, 1) := by decide +kernel
theorem dX8_rest_23 : decode cX8_rest 23 = .ok (.iload_n 3, 1) := by decide +kernel
theorem dX8_rest_24 : decode cX8_rest 24 = .ok (.iload 4, 2) := by decide +kernel
theorem dX8_rest_26 : decode cX8_rest 26 = .ok (.invokevirtual 516, 3) := by decide +kernel
theorem dX8_rest_29 : decode cX8_rest 29 = .ok (.goto 4, 3) := by decide +kernel
theorem dX8_rest_32 : decode cX8_rest 32 = .ok (.iconst (-1), 1) := by decide +kernel
theorem dX8_rest_33 : decode cX8_rest 33 = .ok (.ireturn, 1) := by decide +kernel
theorem dX8_unlikeLots_0 : decode cX8_unlikeLots 0 = .ok (.iconst 0, 1) := by decide +kernel
theorem dX8_unlikeLots_1 : decode cX8_unlikeLots 1 = .ok (.istore_n 1, 1) := by decide +kernel
theorem dX8_unlikeLots_2 : decode cX8_unlikeLots 2 = .ok (.ldc 201, 2) := by decide +kernel
theorem dX8_unlikeLots_4 : decode cX8_unlikeLots 4 = .ok (.istore_n 2, 1) := by decide +kernel
theorem dX8_unlikeLots_5 : decode cX8_unlikeLots 5 = .ok (.iconst 0, 1) := by decide +kernel
theorem dX8_unlikeLots_6 : decode cX8_unlikeLots 6 = .ok (.istore_n 3, 1) := by decide +kernel
theorem dX8_unlikeLots_7 : decode cX8_unlikeLots 7 = .ok (.iload_n 3, 1) := by decide +kernel
theorem dX8_unlikeLots_8 : decode cX8_unlikeLots 8 = .ok (.aload_n 0, 1) := by decide +kernel
theorem dX8_unlikeLots_9 : decode cX8_unlikeLots 9 = .ok (.getfield 246, 3) := by decide +kernel
theorem dX8_unlikeLots_12 : decode cX8_unlikeLots 12 = .ok (.if_icmp .ge 42, 3) := by decide +kernel
theorem dX8_unlikeLots_15 : decode cX8_unlikeLots 15 = .ok (.aload_n 0, 1) := by decide +kernel
theorem dX8_unlikeLots_16 : decode cX8_unlikeLots 16 = .ok (.iload_n 3, 1) := by decide +kernel
theorem dX8_unlikeLots_17 : decode cX8_unlikeLots 17 = .ok (.invokevirtual 465, 3) := by decide +kernel
theorem dX8_unlikeLots_20 : decode cX8_unlikeLots 20 = .ok (.istore 4, 2) := by decide +kernel
theorem dX8_unlikeLots_22 : decode cX8_unlikeLots 22 = .ok (.iload 4, 2) := by decide +kernel
theorem dX8_unlikeLots_24 : decode cX8_unlikeLots 24 = .ok (.iload_n 1, 1) := by decide +kernel
theorem dX8_unlikeLots_25 : decode cX8_unlikeLots 25 = .ok (.if_icmp .le 8, 3) := by decide +kernel
theorem dX8_unlikeLots_28 : decode cX8_unlikeLots 28 = .ok (.iload 4, 2) := by decide +kernel
theorem dX8_unlikeLots_30 : decode cX8_unlikeLots 30 = .ok (.goto 4, 3) := by decide +kernel
theorem dX8_unlikeLots_33 : decode cX8_unlikeLots 33 = .ok (.iload_n 1, 1) := by decide +kernel
theorem dX8_unlikeLots_34 : decode cX8_unlikeLots 34 = .ok (.istore_n 1, 1) := by decide +kernel
theorem dX8_unlikeLots_35 : decode cX8_unlikeLots 35 = .ok (.iload 4, 2) := by decide +kernel
theorem dX8_unlikeLots_37 : decode cX8_unlikeLots 37 = .ok (.iload_n 2, 1) := by decide +kernel
theorem dX8_unlikeLots_38 : decode cX8_unlikeLots 38 = .ok (.if_icmp .ge 8, 3) := by decide +kernel
theorem dX8_unlikeLots_41 : decode cX8_unlikeLots 41 = .ok (.iload 4, 2) := by decide +kernel
theorem dX8_unlikeLots_43 : decode cX8_unlikeLots 43 = .ok (.goto 4, 3) := by decide +kernel
theorem dX8_unlikeLots_46 : decode cX8_unlikeLots 46 = .ok (.iload_n 2, 1) := by decide +kernel
theorem dX8_unlikeLots_47 : decode cX8_unlikeLots 47 = .ok (.istore_n 2, 1) := by decide +kernel
theorem dX8_unlikeLots_48 : decode cX8_unlikeLots 48 = .ok (.iinc 3 1, 3) := by decide +kernel
theorem dX8_unlikeLots_51 : decode cX8_unlikeLots 51 = .ok (.goto (-44), 3) := by decide +kernel
theorem dX8_unlikeLots_54 : decode cX8_unlikeLots 54 = .ok (.aload_n 0, 1) := by decide +kernel
theorem dX8_unlikeLots_55 : decode cX8_unlikeLots 55 = .ok (.getfield 246, 3) := by decide +kernel
theorem dX8_unlikeLots_58 : decode cX8_unlikeLots 58 = .ok (.ifCond .ne 7, 3) := by decide +kernel
theorem dX8_unlikeLots_61 : decode cX8_unlikeLots 61 = .ok (.iconst 0, 1) := by decide +kernel
theorem dX8_unlikeLots_62 : decode cX8_unlikeLots 62 = .ok (.goto 6, 3) := by decide +kernel
theorem dX8_unlikeLots_65 : decode cX8_unlikeLots 65 = .ok (.iload_n 1, 1) := by decide +kernel
theorem dX8_unlikeLots_66 : decode cX8_unlikeLots 66 = .ok (.iload_n 2, 1) := by decide +kernel
theorem dX8_unlikeLots_67 : decode cX8_unlikeLots 67 = .ok (.isub, 1) := by decide +kernel
theorem dX8_unlikeLots_68 : decode cX8_unlikeLots 68 = .ok (.ireturn, 1) := by decide +kernel
theorem dX8_unlike_0 : decode cX8_unlike 0 = .ok (.aload_n 0, 1) := by decide +kernel
theorem dX8_unlike_1 : decode cX8_unlike 1 = .ok (.iconst 0, 1) := by decide +kernel
theorem dX8_unlike_2 : decode cX8_unlike 2 = .ok (.putfield 163, 3) := by decide +kernel
theorem dX8_unlike_5 : decode cX8_unlike 5 = .ok (.aload_n 0, 1) := by decide +kernel
theorem dX8_unlike_6 : decode cX8_unlike 6 = .ok (.invokevirtual 519, 3) := by decide +kernel
theorem dX8_unlike_9 : decode cX8_unlike 9 = .ok (.ireturn, 1) := by decide +kernel
theorem dX8_swaps_0 : decode cX8_swaps 0 = .ok (.aload_n 0, 1) := by decide +kernel
theorem dX8_swaps_1 : decode cX8_swaps 1 = .ok (.getfield 88, 3) := by decide +kernel
theorem dX8_swaps_4 : decode cX8_swaps 4 = .ok (.iload_n 1, 1) := by decide +kernel
theorem dX8_swaps_5 : decode cX8_swaps 5 = .ok (.iaload, 1) := by decide +kernel
theorem dX8_swaps_6 : decode cX8_swaps 6 = .ok (.istore_n 3, 1) := by decide +kernel
theorem dX8_swaps_7 : decode cX8_swaps 7 = .ok (.aload_n 0, 1) := by decide +kernel
theorem dX8_swaps_8 : decode cX8_swaps 8 = .ok (.getfield 88, 3) := by decide +kernel
theorem dX8_swaps_11 : decode cX8_swaps 11 = .ok (.iload_n 1, 1) := by decide +kernel
theorem dX8_swaps_12 : decode cX8_swaps 12 = .ok (.aload_n 0, 1) := by decide +kernel
theorem dX8_swaps_13 : decode cX8_swaps 13 = .ok (.getfield 88, 3) := by decide +kernel
theorem dX8_swaps_16 : decode cX8_swaps 16 = .ok (.iload_n 2, 1) := by decide +kernel
theorem dX8_swaps_17 : decode cX8_swaps 17 = .ok (.iaload, 1) := by decide +kernel
theorem dX8_swaps_18 : decode cX8_swaps 18 = .ok (.iastore, 1) := by decide +kernel
theorem dX8_swaps_19 : decode cX8_swaps 19 = .ok (.aload_n 0, 1) := by decide +kernel
theorem dX8_swaps_20 : decode cX8_swaps 20 = .ok (.getfield 88, 3) := by decide +kernel
theorem dX8_swaps_23 : decode cX8_swaps 23 = .ok (.iload_n 2, 1) := by decide +kernel
theorem dX8_swaps_24 : decode cX8_swaps 24 = .ok (.iload_n 3, 1) := by decide +kernel
theorem dX8_swaps_25 : decode cX8_swaps 25 = .ok (.iastore, 1) := by decide +kernel
theorem dX8_swaps_26 : decode cX8_swaps 26 = .ok (.return_, 1) := by decide +kernel
theorem dX8_swap_0 : decode cX8_swap 0 = .ok (.aload_n 0, 1) := by decide +kernel
theorem dX8_swap_1 : decode cX8_swap 1 = .ok (.iconst 0, 1) := by decide +kernel
theorem dX8_swap_2 : decode cX8_swap 2 = .ok (.putfield 163, 3) := by decide +kernel
theorem dX8_swap_5 : decode cX8_swap 5 = .ok (.iload_n 1, 1) := by decide +kernel
theorem dX8_swap_6 : decode cX8_swap 6 = .ok (.iconst 0, 1) := by decide +kernel
theorem dX8_swap_7 : decode cX8_swap 7 = .ok (.iconst 2, 1) := by decide +kernel
theorem dX8_swap_8 : decode cX8_swap 8 = .ok (.invokestatic 208, 3) := by decide +kernel
theorem dX8_swap_11 : decode cX8_swap 11 = .ok (.ifCond .ne 5, 3) := by decide +kernel
theorem dX8_swap_14 : decode cX8_swap 14 = .ok (.iconst (-1), 1) := by decide +kernel
theorem dX8_swap_15 : decode cX8_swap 15 = .ok (.ireturn, 1) := by decide +kernel
theorem dX8_swap_16 : decode cX8_swap 16 = .ok (.aload_n 0, 1) := by decide +kernel
theorem dX8_swap_17 : decode cX8_swap 17 = .ok (.invokevirtual 519, 3) := by decide +kernel
theorem dX8_swap_20 : decode cX8_swap 20 = .ok (.istore_n 2, 1) := by decide +kernel
theorem dX8_swap_21 : decode cX8_swap 21 = .ok (.bipush (-2), 2) := by decide +kernel
theorem dX8_swap_23 : decode cX8_swap 23 = .ok (.istore_n 3, 1) := by decide +kernel
theorem dX8_swap_24 : decode cX8_swap 24 = .ok (.bipush (-2), 2) := by decide +kernel
theorem dX8_swap_26 : decode cX8_swap 26 = .ok (.istore 4, 2) := by decide +kernel
theorem dX8_swap_28 : decode cX8_swap 28 = .ok (.iconst 0, 1) := by decide +kernel
theorem dX8_swap_29 : decode cX8_swap 29 = .ok (.istore 5, 2) := by decide +kernel
theorem dX8_swap_31 : decode cX8_swap 31 = .ok (.iload 5, 2) := by decide +kernel
theorem dX8_swap_33 : decode cX8_swap 33 = .ok (.aload_n 0, 1) := by decide +kernel
theorem dX8_swap_34 : decode cX8_swap 34 = .ok (.getfield 243, 3) := by decide +kernel
theorem dX8_swap_37 : decode cX8_swap 37 = .ok (.if_icmp .ge 91, 3) := by decide +kernel
theorem dX8_swap_40 : decode cX8_swap 40 = .ok (.iload 5, 2) := by decide +kernel
theorem dX8_swap_42 : decode cX8_swap 42 = .ok (.iconst 1, 1) := by decide +kernel
theorem dX8_swap_43 : decode cX8_swap 43 = .ok (.iadd, 1) := by decide +kernel
theorem dX8_swap_44 : decode cX8_swap 44 = .ok (.istore 6, 2) := by decide +kernel
theorem dX8_swap_46 : decode cX8_swap 46 = .ok (.iload 6, 2) := by decide +kernel
theorem dX8_swap_48 : decode cX8_swap 48 = .ok (.aload_n 0, 1) := by decide +kernel
theorem dX8_swap_49 : decode cX8_swap 49 = .ok (.getfield 243, 3) := by decide +kernel
theorem dX8_swap_52 : decode cX8_swap 52 = .ok (.if_icmp .ge 70, 3) := by decide +kernel
theorem dX8_swap_55 : decode cX8_swap 55 = .ok (.aload_n 0, 1) := by decide +kernel
theorem dX8_swap_56 : decode cX8_swap 56 = .ok (.getfield 88, 3) := by decide +kernel
theorem dX8_swap_59 : decode cX8_swap 59 = .ok (.iload 5, 2) := by decide +kernel
theorem dX8_swap_61 : decode cX8_swap 61 = .ok (.iaload, 1) := by decide +kernel
theorem dX8_swap_62 : decode cX8_swap 62 = .ok (.aload_n 0, 1) := by decide +kernel
theorem dX8_swap_63 : decode cX8_swap 63 = .ok (.getfield 88, 3) := by decide +kernel
theorem dX8_swap_66 : decode cX8_swap 66 = .ok (.iload 6, 2) := by decide +kernel
theorem dX8_swap_68 : decode cX8_swap 68 = .ok (.iaload, 1) := by decide +kernel
theorem dX8_swap_69 : decode cX8_swap 69 = .ok (.if_icmp .ne 6, 3) := by decide +kernel
theorem dX8_swap_72 : decode cX8_swap 72 = .ok (.goto 44, 3) := by decide +kernel
theorem dX8_swap_75 : decode cX8_swap 75 = .ok (.aload_n 0, 1) := by decide +kernel
theorem dX8_swap_76 : decode cX8_swap 76 = .ok (.iload 5, 2) := by decide +kernel
theorem dX8_swap_78 : decode cX8_swap 78 = .ok (.iload 6, 2) := by decide +kernel
theorem dX8_swap_80 : decode cX8_swap 80 = .ok (.invokevirtual 522, 3) := by decide +kernel
theorem dX8_swap_83 : decode cX8_swap 83 = .ok (.aload_n 0, 1) := by decide +kernel
theorem dX8_swap_84 : decode cX8_swap 84 = .ok (.invokevirtual 519, 3) := by decide +kernel
theorem dX8_swap_87 : decode cX8_swap 87 = .ok (.istore 7, 2) := by decide +kernel
theorem dX8_swap_89 : decode cX8_swap 89 = .ok (.aload_n 0, 1) := by decide +kernel
theorem dX8_swap_90 : decode cX8_swap 90 = .ok (.iload 5, 2) := by decide +kernel
theorem dX8_swap_92 : decode cX8_swap 92 = .ok (.iload 6, 2) := by decide +kernel
theorem dX8_swap_94 : decode cX8_swap 94 = .ok (.invokevirtual 522, 3) := by decide +kernel
theorem dX8_swap_97 : decode cX8_swap 97 = .ok (.iload 7, 2) := by decide +kernel
theorem dX8_swap_99 : decode cX8_swap 99 = .ok (.iload_n 2, 1) := by decide +kernel
theorem dX8_swap_100 : decode cX8_swap 100 = .ok (.if_icmp .lt 6, 3) := by decide +kernel
theorem dX8_swap_103 : decode cX8_swap 103 = .ok (.goto 13, 3) := by decide +kernel
theorem dX8_swap_106 : decode cX8_swap 106 = .ok (.iload 7, 2) := by decide +kernel
theorem dX8_swap_108 : decode cX8_swap 108 = .ok (.istore_n 2, 1) := by decide +kernel
theorem dX8_swap_109 : decode cX8_swap 109 = .ok (.iload 5, 2) := by decide +kernel
theorem dX8_swap_111 : decode cX8_swap 111 = .ok (.istore_n 3, 1) := by decide +kernel
theorem dX8_swap_112 : decode cX8_swap 112 = .ok (.iload 6, 2) := by decide +kernel
theorem dX8_swap_114 : decode cX8_swap 114 = .ok (.istore 4, 2) := by decide +kernel
theorem dX8_swap_116 : decode cX8_swap 116 = .ok (.iinc 6 1, 3) := by decide +kernel
theorem dX8_swap_119 : decode cX8_swap 119 = .ok (.goto (-73), 3) := by decide +kernel
theorem dX8_swap_122 : decode cX8_swap 122 = .ok (.iinc 5 1, 3) := by decide +kernel
theorem dX8_swap_125 : decode cX8_swap 125 = .ok (.goto (-94), 3) := by decide +kernel
theorem dX8_swap_128 : decode cX8_swap 128 = .ok (.iload_n 1, 1) := by decide +kernel
theorem dX8_swap_129 : decode cX8_swap 129 = .ok (.ifCond .ne 7, 3) := by decide +kernel
theorem dX8_swap_132 : decode cX8_swap 132 = .ok (.iload_n 3, 1) := by decide +kernel
theorem dX8_swap_133 : decode cX8_swap 133 = .ok (.goto 23, 3) := by decide +kernel
theorem dX8_swap_136 : decode cX8_swap 136 = .ok (.iload_n 1, 1) := by decide +kernel
theorem dX8_swap_137 : decode cX8_swap 137 = .ok (.iconst 1, 1) := by decide +kernel
theorem dX8_swap_138 : decode cX8_swap 138 = .ok (.if_icmp .ne 8, 3) := by decide +kernel
theorem dX8_swap_141 : decode cX8_swap 141 = .ok (.iload 4, 2) := by decide +kernel
theorem dX8_swap_143 : decode cX8_swap 143 = .ok (.goto 13, 3) := by decide +kernel
theorem dX8_swap_146 : decode cX8_swap 146 = .ok (.iload_n 3, 1) := by decide +kernel
theorem dX8_swap_147 : decode cX8_swap 147 = .ok (.ifCond .ge 8, 3) := by decide +kernel
theorem dX8_swap_150 : decode cX8_swap 150 = .ok (.bipush (-2), 2) := by decide +kernel
theorem dX8_swap_152 : decode cX8_swap 152 = .ok (.goto 4, 3) := by decide +kernel
theorem dX8_swap_155 : decode cX8_swap 155 = .ok (.iload_n 2, 1) := by decide +kernel
theorem dX8_swap_156 : decode cX8_swap 156 = .ok (.ireturn, 1) := by decide +kernel
theorem dX8_lending_0 : decode cX8_lending 0 = .ok (.aload_n 0, 1) := by decide +kernel
theorem dX8_lending_1 : decode cX8_lending 1 = .ok (.iconst 0, 1) := by decide +kernel
theorem dX8_lending_2 : decode cX8_lending 2 = .ok (.putfield 163, 3) := by decide +kernel
theorem dX8_lending_5 : decode cX8_lending 5 = .ok (.aload_n 0, 1) := by decide +kernel
theorem dX8_lending_6 : decode cX8_lending 6 = .ok (.iload_n 1, 1) := by decide +kernel
theorem dX8_lending_7 : decode cX8_lending 7 = .ok (.iload_n 2, 1) := by decide +kernel
theorem dX8_lending_8 : decode cX8_lending 8 = .ok (.invokevirtual 476, 3) := by decide +kernel
theorem dX8_lending_11 : decode cX8_lending 11 = .ok (.ifCond .eq 23, 3) := by decide +kernel
theorem dX8_lending_14 : decode cX8_lending 14 = .ok (.iload_n 3, 1) := by decide +kernel
theorem dX8_lending_15 : decode cX8_lending 15 = .ok (.iconst 1, 1) := by decide +kernel
theorem dX8_lending_16 : decode cX8_lending 16 = .ok (.bipush 99, 2) := by decide +kernel
theorem dX8_lending_18 : decode cX8_lending 18 = .ok (.invokestatic 208, 3) := by decide +kernel
theorem dX8_lending_21 : decode cX8_lending 21 = .ok (.ifCond .eq 13, 3) := by decide +kernel
theorem dX8_lending_24 : decode cX8_lending 24 = .ok (.iload 4, 2) := by decide +kernel
theorem dX8_lending_26 : decode cX8_lending 26 = .ok (.iconst 0, 1) := by decide +kernel
theorem dX8_lending_27 : decode cX8_lending 27 = .ok (.iconst 2, 1) := by decide +kernel
theorem dX8_lending_28 : decode cX8_lending 28 = .ok (.invokestatic 208, 3) := by decide +kernel
theorem dX8_lending_31 : decode cX8_lending 31 = .ok (.ifCond .ne 5, 3) := by decide +kernel
theorem dX8_lending_34 : decode cX8_lending 34 = .ok (.iconst (-1), 1) := by decide +kernel
theorem dX8_lending_35 : decode cX8_lending 35 = .ok (.ireturn, 1) := by decide +kernel
theorem dX8_lending_36 : decode cX8_lending 36 = .ok (.aload_n 0, 1) := by decide +kernel
theorem dX8_lending_37 : decode cX8_lending 37 = .ok (.invokevirtual 485, 3) := by decide +kernel
theorem dX8_lending_40 : decode cX8_lending 40 = .ok (.aload_n 0, 1) := by decide +kernel
theorem dX8_lending_41 : decode cX8_lending 41 = .ok (.iload_n 3, 1) := by decide +kernel
theorem dX8_lending_42 : decode cX8_lending 42 = .ok (.aload_n 0, 1) := by decide +kernel
theorem dX8_lending_43 : decode cX8_lending 43 = .ok (.getfield 363, 3) := by decide +kernel
theorem dX8_lending_46 : decode cX8_lending 46 = .ok (.invokevirtual 488, 3) := by decide +kernel
theorem dX8_lending_49 : decode cX8_lending 49 = .ok (.aload_n 0, 1) := by decide +kernel
theorem dX8_lending_50 : decode cX8_lending 50 = .ok (.getfield 100, 3) := by decide +kernel
theorem dX8_lending_53 : decode cX8_lending 53 = .ok (.iconst 4, 1) := by decide +kernel
theorem dX8_lending_54 : decode cX8_lending 54 = .ok (.iload_n 1, 1) := by decide +kernel
theorem dX8_lending_55 : decode cX8_lending 55 = .ok (.iadd, 1) := by decide +kernel
theorem dX8_lending_56 : decode cX8_lending 56 = .ok (.iaload, 1) := by decide +kernel
theorem dX8_lending_57 : decode cX8_lending 57 = .ok (.istore 5, 2) := by decide +kernel
theorem dX8_lending_59 : decode cX8_lending 59 = .ok (.aload_n 0, 1) := by decide +kernel
theorem dX8_lending_60 : decode cX8_lending 60 = .ok (.getfield 100, 3) := by decide +kernel
theorem dX8_lending_63 : decode cX8_lending 63 = .ok (.iconst 4, 1) := by decide +kernel
theorem dX8_lending_64 : decode cX8_lending 64 = .ok (.iload_n 2, 1) := by decide +kernel
theorem dX8_lending_65 : decode cX8_lending 65 = .ok (.iadd, 1) := by decide +kernel
theorem dX8_lending_66 : decode cX8_lending 66 = .ok (.iaload, 1) := by decide +kernel
theorem dX8_lending_67 : decode cX8_lending 67 = .ok (.ineg, 1) := by decide +kernel
theorem dX8_lending_68 : decode cX8_lending 68 = .ok (.istore 6, 2) := by decide +kernel
theorem dX8_lending_70 : decode cX8_lending 70 = .ok (.aload_n 0, 1) := by decide +kernel
theorem dX8_lending_71 : decode cX8_lending 71 = .ok (.invokevirtual 485, 3) := by decide +kernel
theorem dX8_lending_74 : decode cX8_lending 74 = .ok (.aload_n 0, 1) := by decide +kernel
theorem dX8_lending_75 : decode cX8_lending 75 = .ok (.getfield 91, 3) := by decide +kernel
theorem dX8_lending_78 : decode cX8_lending 78 = .ok (.iconst 4, 1) := by decide +kernel
theorem dX8_lending_79 : decode cX8_lending 79 = .ok (.iload_n 1, 1) := by decide +kernel
theorem dX8_lending_80 : decode cX8_lending 80 = .ok (.iadd, 1) := by decide +kernel
theorem dX8_lending_81 : decode cX8_lending 81 = .ok (.dup2, 1) := by decide +kernel
theorem dX8_lending_82 : decode cX8_lending 82 = .ok (.iaload, 1) := by decide +kernel
theorem dX8_lending_83 : decode cX8_lending 83 = .ok (.iconst 1, 1) := by decide +kernel
theorem dX8_lending_84 : decode cX8_lending 84 = .ok (.isub, 1) := by decide +kernel
theorem dX8_lending_85 : decode cX8_lending 85 = .ok (.iastore, 1) := by decide +kernel
theorem dX8_lending_86 : decode cX8_lending 86 = .ok (.aload_n 0, 1) := by decide +kernel
theorem dX8_lending_87 : decode cX8_lending 87 = .ok (.getfield 91, 3) := by decide +kernel
theorem dX8_lending_90 : decode cX8_lending 90 = .ok (.iconst 4, 1) := by decide +kernel
theorem dX8_lending_91 : decode cX8_lending 91 = .ok (.iload_n 2, 1) := by decide +kernel
theorem dX8_lending_92 : decode cX8_lending 92 = .ok (.iadd, 1) := by decide +kernel
theorem dX8_lending_93 : decode cX8_lending 93 = .ok (.dup2, 1) := by decide +kernel
theorem dX8_lending_94 : decode cX8_lending 94 = .ok (.iaload, 1) := by decide +kernel
theorem dX8_lending_95 : decode cX8_lending 95 = .ok (.iconst 1, 1) := by decide +kernel
theorem dX8_lending_96 : decode cX8_lending 96 = .ok (.iadd, 1) := by decide +kernel
theorem dX8_lending_97 : decode cX8_lending 97 = .ok (.iastore, 1) := by decide +kernel
theorem dX8_lending_98 : decode cX8_lending 98 = .ok (.aload_n 0, 1) := by decide +kernel
theorem dX8_lending_99 : decode cX8_lending 99 = .ok (.iload_n 3, 1) := by decide +kernel
theorem dX8_lending_100 : decode cX8_lending 100 = .ok (.aload_n 0, 1) := by decide +kernel
theorem dX8_lending_101 : decode cX8_lending 101 = .ok (.getfield 363, 3) := by decide +kernel
theorem dX8_lending_104 : decode cX8_lending 104 = .ok (.invokevirtual 488, 3) := by decide +kernel
theorem dX8_lending_107 : decode cX8_lending 107 = .ok (.iload 5, 2) := by decide +kernel
theorem dX8_lending_109 : decode cX8_lending 109 = .ok (.aload_n 0, 1) := by decide +kernel
theorem dX8_lending_110 : decode cX8_lending 110 = .ok (.getfield 100, 3) := by decide +kernel
theorem dX8_lending_113 : decode cX8_lending 113 = .ok (.iconst 4, 1) := by decide +kernel
theorem dX8_lending_114 : decode cX8_lending 114 = .ok (.iload_n 1, 1) := by decide +kernel
theorem dX8_lending_115 : decode cX8_lending 115 = .ok (.iadd, 1) := by decide +kernel
theorem dX8_lending_116 : decode cX8_lending 116 = .ok (.iaload, 1) := by decide +kernel
theorem dX8_lending_117 : decode cX8_lending 117 = .ok (.isub, 1) := by decide +kernel
theorem dX8_lending_118 : decode cX8_lending 118 = .ok (.istore 5, 2) := by decide +kernel
theorem dX8_lending_120 : decode cX8_lending 120 = .ok (.iload 6, 2) := by decide +kernel
theorem dX8_lending_122 : decode cX8_lending 122 = .ok (.aload_n 0, 1) := by decide +kernel
theorem dX8_lending_123 : decode cX8_lending 123 = .ok (.getfield 100, 3) := by decide +kernel
theorem dX8_lending_126 : decode cX8_lending 126 = .ok (.iconst 4, 1) := by decide +kernel
theorem dX8_lending_127 : decode cX8_lending 127 = .ok (.iload_n 2, 1) := by decide +kernel
theorem dX8_lending_128 : decode cX8_lending 128 = .ok (.iadd, 1) := by decide +kernel
theorem dX8_lending_129 : decode cX8_lending 129 = .ok (.iaload, 1) := by decide +kernel
theorem dX8_lending_130 : decode cX8_lending 130 = .ok (.iadd, 1) := by decide +kernel
theorem dX8_lending_131 : decode cX8_lending 131 = .ok (.istore 6, 2) := by decide +kernel
theorem dX8_lending_133 : decode cX8_lending 133 = .ok (.iload 5, 2) := by decide +kernel
theorem dX8_lending_135 : decode cX8_lending 135 = .ok (.ifCond .ge 7, 3) := by decide +kernel
theorem dX8_lending_138 : decode cX8_lending 138 = .ok (.iconst 0, 1) := by decide +kernel
theorem dX8_lending_139 : decode cX8_lending 139 = .ok (.goto 5, 3) := by decide +kernel
theorem dX8_lending_142 : decode cX8_lending 142 = .ok (.iload 5, 2) := by decide +kernel
theorem dX8_lending_144 : decode cX8_lending 144 = .ok (.istore 5, 2) := by decide +kernel
theorem dX8_lending_146 : decode cX8_lending 146 = .ok (.iload 6, 2) := by decide +kernel
theorem dX8_lending_148 : decode cX8_lending 148 = .ok (.ifCond .ge 7, 3) := by decide +kernel
theorem dX8_lending_151 : decode cX8_lending 151 = .ok (.iconst 0, 1) := by decide +kernel
theorem dX8_lending_152 : decode cX8_lending 152 = .ok (.goto 5, 3) := by decide +kernel
theorem dX8_lending_155 : decode cX8_lending 155 = .ok (.iload 6, 2) := by decide +kernel
theorem dX8_lending_157 : decode cX8_lending 157 = .ok (.istore 6, 2) := by decide +kernel
theorem dX8_lending_159 : decode cX8_lending 159 = .ok (.iload 4, 2) := by decide +kernel
theorem dX8_lending_161 : decode cX8_lending 161 = .ok (.ifCond .ne 8, 3) := by decide +kernel
theorem dX8_lending_164 : decode cX8_lending 164 = .ok (.iload 5, 2) := by decide +kernel
theorem dX8_lending_166 : decode cX8_lending 166 = .ok (.goto 30, 3) := by decide +kernel
theorem dX8_lending_169 : decode cX8_lending 169 = .ok (.iload 4, 2) := by decide +kernel
theorem dX8_lending_171 : decode cX8_lending 171 = .ok (.iconst 1, 1) := by decide +kernel
theorem dX8_lending_172 : decode cX8_lending 172 = .ok (.if_icmp .ne 8, 3) := by decide +kernel
theorem dX8_lending_175 : decode cX8_lending 175 = .ok (.iload 6, 2) := by decide +kernel
theorem dX8_lending_177 : decode cX8_lending 177 = .ok (.goto 19, 3) := by decide +kernel
theorem dX8_lending_180 : decode cX8_lending 180 = .ok (.iload 6, 2) := by decide +kernel
theorem dX8_lending_182 : decode cX8_lending 182 = .ok (.iload 5, 2) := by decide +kernel
theorem dX8_lending_184 : decode cX8_lending 184 = .ok (.if_icmp .le 10, 3) := by decide +kernel
theorem dX8_lending_187 : decode cX8_lending 187 = .ok (.iload 5, 2) := by decide +kernel
theorem dX8_lending_189 : decode cX8_lending 189 = .ok (.iconst 1, 1) := by decide +kernel
theorem dX8_lending_190 : decode cX8_lending 190 = .ok (.iadd, 1) := by decide +kernel
theorem dX8_lending_191 : decode cX8_lending 191 = .ok (.goto 5, 3) := by decide +kernel
theorem dX8_lending_194 : decode cX8_lending 194 = .ok (.bipush (-2), 2) := by decide +kernel
theorem dX8_lending_196 : decode cX8_lending 196 = .ok (.ireturn, 1) := by decide +kernel
theorem dX8_unlikeForked_0 : decode cX8_unlikeForked 0 = .ok (.iconst 0, 1) := by decide +kernel
theorem dX8_unlikeForked_1 : decode cX8_unlikeForked 1 = .ok (.istore_n 1, 1) := by decide +kernel
theorem dX8_unlikeForked_2 : decode cX8_unlikeForked 2 = .ok (.ldc_w 525, 3) := by decide +kernel
theorem dX8_unlikeForked_5 : decode cX8_unlikeForked 5 = .ok (.istore_n 2, 1) := by decide +kernel
theorem dX8_unlikeForked_6 : decode cX8_unlikeForked 6 = .ok (.iconst 0, 1) := by decide +kernel
theorem dX8_unlikeForked_7 : decode cX8_unlikeForked 7 = .ok (.istore_n 3, 1) := by decide +kernel
theorem dX8_unlikeForked_8 : decode cX8_unlikeForked 8 = .ok (.iload_n 3, 1) := by decide +kernel
theorem dX8_unlikeForked_9 : decode cX8_unlikeForked 9 = .ok (.aload_n 0, 1) := by decide +kernel
theorem dX8_unlikeForked_10 : decode cX8_unlikeForked 10 = .ok (.getfield 246, 3) := by decide +kernel
theorem dX8_unlikeForked_13 : decode cX8_unlikeForked 13 = .ok (.if_icmp .ge 59, 3) := by decide +kernel
theorem dX8_unlikeForked_16 : decode cX8_unlikeForked 16 = .ok (.aload_n 0, 1) := by decide +kernel
theorem dX8_unlikeForked_17 : decode cX8_unlikeForked 17 = .ok (.getfield 103, 3) := by decide +kernel
theorem dX8_unlikeForked_20 : decode cX8_unlikeForked 20 = .ok (.iconst 4, 1) := by decide +kernel
theorem dX8_unlikeForked_21 : decode cX8_unlikeForked 21 = .ok (.iload_n 3, 1) := by decide +kernel
theorem dX8_unlikeForked_22 : decode cX8_unlikeForked 22 = .ok (.iadd, 1) := by decide +kernel
theorem dX8_unlikeForked_23 : decode cX8_unlikeForked 23 = .ok (.iaload, 1) := by decide +kernel
theorem dX8_unlikeForked_24 : decode cX8_unlikeForked 24 = .ok (.iload_n 1, 1) := by decide +kernel
theorem dX8_unlikeForked_25 : decode cX8_unlikeForked 25 = .ok (.if_icmp .le 14, 3) := by decide +kernel
theorem dX8_unlikeForked_28 : decode cX8_unlikeForked 28 = .ok (.aload_n 0, 1) := by decide +kernel
theorem dX8_unlikeForked_29 : decode cX8_unlikeForked 29 = .ok (.getfield 103, 3) := by decide +kernel
theorem dX8_unlikeForked_32 : decode cX8_unlikeForked 32 = .ok (.iconst 4, 1) := by decide +kernel
theorem dX8_unlikeForked_33 : decode cX8_unlikeForked 33 = .ok (.iload_n 3, 1) := by decide +kernel
theorem dX8_unlikeForked_34 : decode cX8_unlikeForked 34 = .ok (.iadd, 1) := by decide +kernel
theorem dX8_unlikeForked_35 : decode cX8_unlikeForked 35 = .ok (.iaload, 1) := by decide +kernel
theorem dX8_unlikeForked_36 : decode cX8_unlikeForked 36 = .ok (.goto 4, 3) := by decide +kernel
theorem dX8_unlikeForked_39 : decode cX8_unlikeForked 39 = .ok (.iload_n 1, 1) := by decide +kernel
theorem dX8_unlikeForked_40 : decode cX8_unlikeForked 40 = .ok (.istore_n 1, 1) := by decide +kernel
theorem dX8_unlikeForked_41 : decode cX8_unlikeForked 41 = .ok (.aload_n 0, 1) := by decide +kernel
theorem dX8_unlikeForked_42 : decode cX8_unlikeForked 42 = .ok (.getfield 103, 3) := by decide +kernel
theorem dX8_unlikeForked_45 : decode cX8_unlikeForked 45 = .ok (.iconst 4, 1) := by decide +kernel
theorem dX8_unlikeForked_46 : decode cX8_unlikeForked 46 = .ok (.iload_n 3, 1) := by decide +kernel
theorem dX8_unlikeForked_47 : decode cX8_unlikeForked 47 = .ok (.iadd, 1) := by decide +kernel
theorem dX8_unlikeForked_48 : decode cX8_unlikeForked 48 = .ok (.iaload, 1) := by decide +kernel
theorem dX8_unlikeForked_49 : decode cX8_unlikeForked 49 = .ok (.iload_n 2, 1) := by decide +kernel
theorem dX8_unlikeForked_50 : decode cX8_unlikeForked 50 = .ok (.if_icmp .ge 14, 3) := by decide +kernel
theorem dX8_unlikeForked_53 : decode cX8_unlikeForked 53 = .ok (.aload_n 0, 1) := by decide +kernel
theorem dX8_unlikeForked_54 : decode cX8_unlikeForked 54 = .ok (.getfield 103, 3) := by decide +kernel
theorem dX8_unlikeForked_57 : decode cX8_unlikeForked 57 = .ok (.iconst 4, 1) := by decide +kernel
theorem dX8_unlikeForked_58 : decode cX8_unlikeForked 58 = .ok (.iload_n 3, 1) := by decide +kernel
theorem dX8_unlikeForked_59 : decode cX8_unlikeForked 59 = .ok (.iadd, 1) := by decide +kernel
theorem dX8_unlikeForked_60 : decode cX8_unlikeForked 60 = .ok (.iaload, 1) := by decide +kernel
theorem dX8_unlikeForked_61 : decode cX8_unlikeForked 61 = .ok (.goto 4, 3) := by decide +kernel
theorem dX8_unlikeForked_64 : decode cX8_unlikeForked 64 = .ok (.iload_n 2, 1) := by decide +kernel
theorem dX8_unlikeForked_65 : decode cX8_unlikeForked 65 = .ok (.istore_n 2, 1) := by decide +kernel
theorem dX8_unlikeForked_66 : decode cX8_unlikeForked 66 = .ok (.iinc 3 1, 3) := by decide +kernel
theorem dX8_unlikeForked_69 : decode cX8_unlikeForked 69 = .ok (.goto (-61), 3) := by decide +kernel
theorem dX8_unlikeForked_72 : decode cX8_unlikeForked 72 = .ok (.iload_n 1, 1) := by decide +kernel
theorem dX8_unlikeForked_73 : decode cX8_unlikeForked 73 = .ok (.iload_n 2, 1) := by decide +kernel
theorem dX8_unlikeForked_74 : decode cX8_unlikeForked 74 = .ok (.isub, 1) := by decide +kernel
theorem dX8_unlikeForked_75 : decode cX8_unlikeForked 75 = .ok (.ireturn, 1) := by decide +kernel
def f_X8_rests (N : Nat) (h : Hp) (p1 : Int32) (p2 : Int32) (p3 : Int32) : Option (Int32 × Hp) :=
  lt_ (sI h 8 0 2 0) fun h1 =>
  (f_X8_areComing h1 p1 p2 p3).bind fun v2 =>
  jn (fun (v3 : Int32) (h4 : Hp) =>
    some (v3, h4)) fun (j27 : Int32 → Hp → Option (Int32 × Hp)) =>
  if (b2i v2) = 0 then
    j27 (-1) h1
  else
  bd2 (f_X8_restAt N h1 p1 p2 p3 (-1)) fun v6 h5 =>
  j27 v6 h5
abbrev rmX8_rests : Room := { frames := 11, cells := 0, slots := 0, locals := 270 }
set_option maxRecDepth 100000 in
set_option maxHeartbeats 4000000 in
theorem w_X8_rests (X : Cx) (F : Fx X cX8_rests RX8 (some .int) rmX8_rests) (hA : xA X = Aw (xG X)) (hL : xL X = 4) (N : Nat) (h : Hp) (p1 : Int32) (p2 : Int32) (p3 : Int32) : Wm X (fun v => some (.int v.1)) (fun v => v.2) (fun _ => True) 0 [(0, .ref (adr (xG X) 8 0 0)), (1, .int p1), (2, .int p2), (3, .int p3)] [] h (f_X8_rests N h p1 p2 p3) := by
  have hS : ∀ i : Nat, i < 4 → i < xL X := fun i z => by rw [hL]; exact z
  unfold f_X8_rests
  refine r_aload_n F 0 rfl dX8_rests_0 rfl ?_
  refine r_iconst F (v := 0) dX8_rests_1 (by decide) ?_
  refine r_putI F frX8_163 (by decide) rfl rfl dX8_rests_2 fun h1 => ?_
  refine r_aload_n F 0 rfl dX8_rests_5 rfl ?_
  refine r_iload_n F 1 rfl dX8_rests_6 rfl ?_
  refine r_iload_n F 2 rfl dX8_rests_7 rfl ?_
  refine r_iload_n F 3 rfl dX8_rests_8 rfl ?_
  refine k_zP (run_V F cvX8_513 (by decide) (c_X8_areComing (xG X) _ h1 p1 p2 p3) rfl rfl ⟨⟨rfl, rfl⟩, Nat.le_of_ble_eq_true rfl, Nat.le_of_ble_eq_true rfl⟩ (Nat.le_of_ble_eq_true rfl) dX8_rests_9) fun v2 _ => ?_
  refine Wt_jn (fun (j27 : Int32 → Hp → Option (Int32 × Hp)) => ∀ v3 : Int32, ∀ h4 : Hp, Wm X (fun v => some (.int v.1)) (fun v => v.2) (fun _ => True) 27 [] [.int v3] h4 (j27 v3 h4)) ?_ fun j27 hj27 => ?_
  · intro v3 h4
    exact r_iret F hA rfl rfl trivial dX8_rests_27
  refine r_ifeq F (tgt := 26) dX8_rests_12 (by decide) ?_ ?_
  · skip
    refine r_iconst F (v := (-1)) dX8_rests_26 (by decide) ?_
    exact Wt_pick [] rfl (hj27 (-1) h1)
  refine r_aload_n F 0 rfl dX8_rests_15 rfl ?_
  refine r_iload_n F 1 rfl dX8_rests_16 rfl ?_
  refine r_iload_n F 2 rfl dX8_rests_17 rfl ?_
  refine r_iload_n F 3 rfl dX8_rests_18 rfl ?_
  refine r_iconst F (v := (-1)) dX8_rests_19 (by decide) ?_
  refine k_iH (run_V F cvX8_516 (by decide) (c_X8_restAt (xG X) _ N h1 p1 p2 p3 (-1)) rfl rfl ⟨⟨rfl, rfl⟩, Nat.le_of_ble_eq_true rfl, Nat.le_of_ble_eq_true rfl⟩ (Nat.le_of_ble_eq_true rfl) dX8_rests_20) fun v6 h5 => ?_
  refine r_goto F (tgt := 27) dX8_rests_23 (by decide) ?_
  exact Wt_pick [] rfl (hj27 v6 h5)
theorem c_X8_rests (G : Gx) (l : Launch) (N : Nat) (h : Hp) (p1 : Int32) (p2 : Int32) (p3 : Int32) : Ctr G l yX8_rests (.code yX8_rests cX8_rests 4 (some .int) :: GT) rmX8_rests [.ref (adr G 8 0 0), .int p1, .int p2, .int p3] h (f_X8_rests N h p1 p2 p3) (fun v => some (.int v.1)) (fun v => v.2) (fun _ => True) :=
  ctr_of (by decide) (Nat.le_of_ble_eq_true rfl) ⟨rfl, rfl⟩ fun X _ e2 hA hL F => by subst e2; exact w_X8_rests X F hA hL N h p1 p2 p3
def f_X8_rest (N : Nat) (h : Hp) (p1 : Int32) (p2 : Int32) (p3 : Int32) (p4 : Int32) : Option (Int32 × Hp) :=
  lt_ (sI h 8 0 2 0) fun h1 =>
  (f_X8_areComing h1 p1 p2 p3).bind fun v2 =>
  jn (fun (v3 : Int32) (h4 : Hp) =>
    some (v3, h4)) fun (j33 : Int32 → Hp → Option (Int32 × Hp)) =>
  jn (
    j33 (-1) h1) fun (j32 : Option (Int32 × Hp)) =>
  if (b2i v2) = 0 then
    j32
  else
  if p4 < 0 then
    j32
  else
  bd2 (f_X8_restAt N h1 p1 p2 p3 p4) fun v6 h5 =>
  j33 v6 h5
abbrev rmX8_rest : Room := { frames := 11, cells := 0, slots := 0, locals := 270 }
set_option maxRecDepth 100000 in
set_option maxHeartbeats 4000000 in
theorem w_X8_rest (X : Cx) (F : Fx X cX8_rest RX8 (some .int) rmX8_rest) (hA : xA X = Aw (xG X)) (hL : xL X = 5) (N : Nat) (h : Hp) (p1 : Int32) (p2 : Int32) (p3 : Int32) (p4 : Int32) : Wm X (fun v => some (.int v.1)) (fun v => v.2) (fun _ => True) 0 [(0, .ref (adr (xG X) 8 0 0)), (1, .int p1), (2, .int p2), (3, .int p3), (4, .int p4)] [] h (f_X8_rest N h p1 p2 p3 p4) := by
  have hS : ∀ i : Nat, i < 5 → i < xL X := fun i z => by rw [hL]; exact z
  unfold f_X8_rest
  refine r_aload_n F 0 rfl dX8_rest_0 rfl ?_
  refine r_iconst F (v := 0) dX8_rest_1 (by decide) ?_
  refine r_putI F frX8_163 (by decide) rfl rfl dX8_rest_2 fun h1 => ?_
  refine r_aload_n F 0 rfl dX8_rest_5 rfl ?_
  refine r_iload_n F 1 rfl dX8_rest_6 rfl ?_
  refine r_iload_n F 2 rfl dX8_rest_7 rfl ?_
  refine r_iload_n F 3 rfl dX8_rest_8 rfl ?_
  refine k_zP (run_V F cvX8_513 (by decide) (c_X8_areComing (xG X) _ h1 p1 p2 p3) rfl rfl ⟨⟨rfl, rfl⟩, Nat.le_of_ble_eq_true rfl, Nat.le_of_ble_eq_true rfl⟩ (Nat.le_of_ble_eq_true rfl) dX8_rest_9) fun v2 _ => ?_
  refine Wt_jn (fun (j33 : Int32 → Hp → Option (Int32 × Hp)) => ∀ v3 : Int32, ∀ h4 : Hp, Wm X (fun v => some (.int v.1)) (fun v => v.2) (fun _ => True) 33 [] [.int v3] h4 (j33 v3 h4)) ?_ fun j33 hj33 => ?_
  · intro v3 h4
    exact r_iret F hA rfl rfl trivial dX8_rest_33
  refine Wt_jn (fun (j32 : Option (Int32 × Hp)) => Wm X (fun v => some (.int v.1)) (fun v => v.2) (fun _ => True) 32 [] [] h1 (j32)) ?_ fun j32 hj32 => ?_
  · skip
    refine r_iconst F (v := (-1)) dX8_rest_32 (by decide) ?_
    exact Wt_pick [] rfl (hj33 (-1) h1)
  refine r_ifeq F (tgt := 32) dX8_rest_12 (by decide) ?_ ?_
  · skip
    exact Wt_pick [] rfl (hj32)
  refine r_iload F 4 rfl dX8_rest_15 ?_
  refine r_iflt F (tgt := 32) dX8_rest_17 (by decide) ?_ ?_
  · skip
    exact Wt_pick [] rfl (hj32)
  refine r_aload_n F 0 rfl dX8_rest_20 rfl ?_
  refine r_iload_n F 1 rfl dX8_rest_21 rfl ?_
  refine r_iload_n F 2 rfl dX8_rest_22 rfl ?_
  refine r_iload_n F 3 rfl dX8_rest_23 rfl ?_
  refine r_iload F 4 rfl dX8_rest_24 ?_
  refine k_iH (run_V F cvX8_516 (by decide) (c_X8_restAt (xG X) _ N h1 p1 p2 p3 p4) rfl rfl ⟨⟨rfl, rfl⟩, Nat.le_of_ble_eq_true rfl, Nat.le_of_ble_eq_true rfl⟩ (Nat.le_of_ble_eq_true rfl) dX8_rest_26) fun v6 h5 => ?_
  refine r_goto F (tgt := 33) dX8_rest_29 (by decide) ?_
  exact Wt_pick [] rfl (hj33 v6 h5)
theorem c_X8_rest (G : Gx) (l : Launch) (N : Nat) (h : Hp) (p1 : Int32) (p2 : Int32) (p3 : Int32) (p4 : Int32) : Ctr G l yX8_rest (.code yX8_rest cX8_rest 5 (some .int) :: GT) rmX8_rest [.ref (adr G 8 0 0), .int p1, .int p2, .int p3, .int p4] h (f_X8_rest N h p1 p2 p3 p4) (fun v => some (.int v.1)) (fun v => v.2) (fun _ => True) :=
  ctr_of (by decide) (Nat.le_of_ble_eq_true rfl) ⟨rfl, rfl⟩ fun X _ e2 hA hL F => by subst e2; exact w_X8_rest X F hA hL N h p1 p2 p3 p4
def f_X8_unlikeLots_7 (N : Nat) (h : Hp) (r7 : Int32 → Int32 → Int32 → Option Int32) (v1 : Int32) (v2 : Int32) (v3 : Int32) : Option Int32 :=
  if (gI h 8 0 13) ≤ v3 then
    jn (fun (v4 : Int32) =>
      some v4) fun (j68 : Int32 → Option Int32) =>
    if ¬ (gI h 8 0 13) = 0 then
      j68 (v1 - v2)
    else
    j68 0
  else
  (f_X8_lotsOf N h v3).bind fun v5 =>
  jn (fun (v6 : Int32) =>
    jn (fun (v7 : Int32) =>
      lt_ (v3 + 1) fun v8 =>
      r7 v6 v7 v8) fun (j47 : Int32 → Option Int32) =>
    if v2 ≤ v5 then
      j47 v2
    else
    j47 v5) fun (j34 : Int32 → Option Int32) =>
  if v5 ≤ v1 then
    j34 v1
  else
  j34 v5
def f_X8_unlikeLots (N : Nat) (h : Hp) : Option Int32 :=
  iter (fun _ _ _ => none) (f_X8_unlikeLots_7 N h) N 0 99999 0
abbrev rmX8_unlikeLots : Room := { frames := 1, cells := 0, slots := 0, locals := 23 }
set_option maxRecDepth 100000 in
set_option maxHeartbeats 4000000 in
theorem w_X8_unlikeLots (X : Cx) (F : Fx X cX8_unlikeLots RX8 (some .int) rmX8_unlikeLots) (hA : xA X = Aw (xG X)) (hL : xL X = 5) (N : Nat) (h : Hp) : Wm X (fun v => some (.int v)) (fun _ => h) (fun _ => True) 0 [(0, .ref (adr (xG X) 8 0 0))] [] h (f_X8_unlikeLots N h) := by
  have hS : ∀ i : Nat, i < 5 → i < xL X := fun i z => by rw [hL]; exact z
  unfold f_X8_unlikeLots
  refine r_iconst F (v := 0) dX8_unlikeLots_0 (by decide) ?_
  refine r_istore_n F [(1, .int 0), (0, .ref (adr (xG X) 8 0 0))] rfl dX8_unlikeLots_1 rfl (hS _ (by decide)) ?_
  refine r_ldc F wd_1589 dX8_unlikeLots_2 ?_
  refine r_istore_n F [(2, .int 99999), (1, .int 0), (0, .ref (adr (xG X) 8 0 0))] rfl dX8_unlikeLots_4 rfl (hS _ (by decide)) ?_
  refine r_iconst F (v := 0) dX8_unlikeLots_5 (by decide) ?_
  refine r_istore_n F [(3, .int 0), (2, .int 99999), (1, .int 0), (0, .ref (adr (xG X) 8 0 0))] rfl dX8_unlikeLots_6 rfl (hS _ (by decide)) ?_
  have hl7 : ∀ n : Nat, ∀ v1 : Int32, ∀ v2 : Int32, ∀ v3 : Int32, Wm X (fun v => some (.int v)) (fun _ => h) (fun _ => True) 7 [(0, .ref (adr (xG X) 8 0 0)), (1, .int v1), (2, .int v2), (3, .int v3)] [] h (iter (fun _ _ _ => none) (f_X8_unlikeLots_7 N h) n v1 v2 v3) := by
    intro n
    induction n with
    | zero => intro v1 v2 v3; exact Wt_none
    | succ n ih =>
      revert ih
      show (∀ v1 : Int32, ∀ v2 : Int32, ∀ v3 : Int32, Wm X (fun v => some (.int v)) (fun _ => h) (fun _ => True) 7 [(0, .ref (adr (xG X) 8 0 0)), (1, .int v1), (2, .int v2), (3, .int v3)] [] h (iter (fun _ _ _ => none) (f_X8_unlikeLots_7 N h) n v1 v2 v3)) → _
      intro ih7 v1 v2 v3
      show Wm X (fun v => some (.int v)) (fun _ => h) (fun _ => True) 7 [(0, .ref (adr (xG X) 8 0 0)), (1, .int v1), (2, .int v2), (3, .int v3)] [] h (f_X8_unlikeLots_7 N h (iter (fun _ _ _ => none) (f_X8_unlikeLots_7 N h) n) v1 v2 v3)
      revert ih7
      generalize iter (fun _ _ _ => none) (f_X8_unlikeLots_7 N h) n = r7
      intro ih7
      unfold f_X8_unlikeLots_7
      refine r_iload_n F 3 rfl dX8_unlikeLots_7 rfl ?_
      refine r_aload_n F 0 rfl dX8_unlikeLots_8 rfl ?_
      refine r_getI F frX8_246 (by decide) dX8_unlikeLots_9 ?_
      refine r_icmpge F (tgt := 54) dX8_unlikeLots_12 (by decide) ?_ ?_
      · skip
        refine r_aload_n F 0 rfl dX8_unlikeLots_54 rfl ?_
        refine r_getI F frX8_246 (by decide) dX8_unlikeLots_55 ?_
        refine Wt_jn (fun (j68 : Int32 → Option Int32) => ∀ v4 : Int32, Wm X (fun v => some (.int v)) (fun _ => h) (fun _ => True) 68 [] [.int v4] h (j68 v4)) ?_ fun j68 hj68 => ?_
        · intro v4
          exact r_iret F hA rfl rfl trivial dX8_unlikeLots_68
        refine r_ifne F (tgt := 65) dX8_unlikeLots_58 (by decide) ?_ ?_
        · skip
          refine r_iload_n F 1 rfl dX8_unlikeLots_65 rfl ?_
          refine r_iload_n F 2 rfl dX8_unlikeLots_66 rfl ?_
          refine r_isub F dX8_unlikeLots_67 ?_
          exact Wt_pick [] rfl (hj68 (v1 - v2))
        refine r_iconst F (v := 0) dX8_unlikeLots_61 (by decide) ?_
        refine r_goto F (tgt := 68) dX8_unlikeLots_62 (by decide) ?_
        exact Wt_pick [] rfl (hj68 0)
      refine r_aload_n F 0 rfl dX8_unlikeLots_15 rfl ?_
      refine r_iload_n F 3 rfl dX8_unlikeLots_16 rfl ?_
      refine k_iP (run_V F cvX8_465 (by decide) (c_X8_lotsOf (xG X) _ N h v3) rfl rfl ⟨⟨rfl, rfl⟩, Nat.le_of_ble_eq_true rfl, Nat.le_of_ble_eq_true rfl⟩ (Nat.le_of_ble_eq_true rfl) dX8_unlikeLots_17) fun v5 _ => ?_
      refine r_istore F [(4, .int v5), (0, .ref (adr (xG X) 8 0 0)), (1, .int v1), (2, .int v2), (3, .int v3)] rfl dX8_unlikeLots_20 (hS _ (by decide)) ?_
      refine r_iload F 0 rfl dX8_unlikeLots_22 ?_
      refine r_iload_n F 2 rfl dX8_unlikeLots_24 rfl ?_
      refine Wt_jn (fun (j34 : Int32 → Option Int32) => ∀ v6 : Int32, Wm X (fun v => some (.int v)) (fun _ => h) (fun _ => True) 34 [(0, .ref (adr (xG X) 8 0 0)), (2, .int v2), (3, .int v3), (4, .int v5)] [.int v6] h (j34 v6)) ?_ fun j34 hj34 => ?_
      · intro v6
        refine r_istore_n F [(1, .int v6), (0, .ref (adr (xG X) 8 0 0)), (2, .int v2), (3, .int v3), (4, .int v5)] rfl dX8_unlikeLots_34 rfl (hS _ (by decide)) ?_
        refine r_iload F 4 rfl dX8_unlikeLots_35 ?_
        refine r_iload_n F 2 rfl dX8_unlikeLots_37 rfl ?_
        refine Wt_jn (fun (j47 : Int32 → Option Int32) => ∀ v7 : Int32, Wm X (fun v => some (.int v)) (fun _ => h) (fun _ => True) 47 [(0, .ref (adr (xG X) 8 0 0)), (1, .int v6), (3, .int v3)] [.int v7] h (j47 v7)) ?_ fun j47 hj47 => ?_
        · intro v7
          refine r_istore_n F [(2, .int v7), (0, .ref (adr (xG X) 8 0 0)), (1, .int v6), (3, .int v3)] rfl dX8_unlikeLots_47 rfl (hS _ (by decide)) ?_
          refine r_iinc F (v := 1) 3 rfl (by decide) (fun v8 => [(3, .int v8), (2, .int v7), (0, .ref (adr (xG X) 8 0 0)), (1, .int v6)]) (fun _ => rfl) dX8_unlikeLots_48 (hS _ (by decide)) fun v8 => ?_
          refine r_goto F (tgt := 7) dX8_unlikeLots_51 (by decide) ?_
          exact Wt_pick [2, 3, 1, 0] rfl (ih7 v6 v7 v8)
        refine r_icmpge F (tgt := 46) dX8_unlikeLots_38 (by decide) ?_ ?_
        · skip
          refine r_iload_n F 2 rfl dX8_unlikeLots_46 rfl ?_
          exact Wt_pick [1, 0, 3] rfl (hj47 v2)
        refine r_iload F 4 rfl dX8_unlikeLots_41 ?_
        refine r_goto F (tgt := 47) dX8_unlikeLots_43 (by decide) ?_
        exact Wt_pick [1, 0, 3] rfl (hj47 v5)
      refine r_icmple F (tgt := 33) dX8_unlikeLots_25 (by decide) ?_ ?_
      · skip
        refine r_iload_n F 2 rfl dX8_unlikeLots_33 rfl ?_
        exact Wt_pick [1, 3, 4, 0] rfl (hj34 v1)
      refine r_iload F 0 rfl dX8_unlikeLots_28 ?_
      refine r_goto F (tgt := 34) dX8_unlikeLots_30 (by decide) ?_
      exact Wt_pick [1, 3, 4, 0] rfl (hj34 v5)
  exact Wt_pick [3, 2, 1, 0] rfl (hl7 N 0 99999 0)
theorem c_X8_unlikeLots (G : Gx) (l : Launch) (N : Nat) (h : Hp) : Ctr G l yX8_unlikeLots (.code yX8_unlikeLots cX8_unlikeLots 5 (some .int) :: GT) rmX8_unlikeLots [.ref (adr G 8 0 0)] h (f_X8_unlikeLots N h) (fun v => some (.int v)) (fun _ => h) (fun _ => True) :=
  ctr_of (by decide) (Nat.le_of_ble_eq_true rfl) ⟨rfl, rfl⟩ fun X _ e2 hA hL F => by subst e2; exact w_X8_unlikeLots X F hA hL N h
def f_X8_unlike (N : Nat) (h : Hp) : Option (Int32 × Hp) :=
  lt_ (sI h 8 0 2 0) fun h1 =>
  (f_X8_unlikeLots N h1).bind fun v2 =>
  some (v2, h1)
abbrev rmX8_unlike : Room := { frames := 2, cells := 0, slots := 0, locals := 47 }
set_option maxRecDepth 100000 in
set_option maxHeartbeats 4000000 in
theorem w_X8_unlike (X : Cx) (F : Fx X cX8_unlike RX8 (some .int) rmX8_unlike) (hA : xA X = Aw (xG X)) (hL : xL X = 1) (N : Nat) (h : Hp) : Wm X (fun v => some (.int v.1)) (fun v => v.2) (fun _ => True) 0 [(0, .ref (adr (xG X) 8 0 0))] [] h (f_X8_unlike N h) := by
  have hS : ∀ i : Nat, i < 1 → i < xL X := fun i z => by rw [hL]; exact z
  unfold f_X8_unlike
  refine r_aload_n F 0 rfl dX8_unlike_0 rfl ?_
  refine r_iconst F (v := 0) dX8_unlike_1 (by decide) ?_
  refine r_putI F frX8_163 (by decide) rfl rfl dX8_unlike_2 fun h1 => ?_
  refine r_aload_n F 0 rfl dX8_unlike_5 rfl ?_
  refine k_iP (run_V F cvX8_519 (by decide) (c_X8_unlikeLots (xG X) _ N h1) rfl rfl ⟨⟨rfl, rfl⟩, Nat.le_of_ble_eq_true rfl, Nat.le_of_ble_eq_true rfl⟩ (Nat.le_of_ble_eq_true rfl) dX8_unlike_6) fun v2 _ => ?_
  exact r_iret F hA rfl rfl trivial dX8_unlike_9
theorem c_X8_unlike (G : Gx) (l : Launch) (N : Nat) (h : Hp) : Ctr G l yX8_unlike (.code yX8_unlike cX8_unlike 1 (some .int) :: GT) rmX8_unlike [.ref (adr G 8 0 0)] h (f_X8_unlike N h) (fun v => some (.int v.1)) (fun v => v.2) (fun _ => True) :=
  ctr_of (by decide) (Nat.le_of_ble_eq_true rfl) ⟨rfl, rfl⟩ fun X _ e2 hA hL F => by subst e2; exact w_X8_unlike X F hA hL N h
def f_X8_swaps (h : Hp) (p1 : Int32) (p2 : Int32) : Option Hp :=
  grd (inb p1 16) <|
  lt_ ((gA h 8 0 24 p1.toNatClampNeg)) fun v1 =>
  grd (inb p2 16) <|
  grd (inb p1 16) <| lt_ (sA h 8 0 24 p1.toNatClampNeg (gA h 8 0 24 p2.toNatClampNeg)) fun h2 =>
  grd (inb p2 16) <| lt_ (sA h2 8 0 24 p2.toNatClampNeg v1) fun h3 =>
  some h3
abbrev rmX8_swaps : Room := { frames := 0, cells := 0, slots := 0, locals := 0 }
set_option maxRecDepth 100000 in
set_option maxHeartbeats 4000000 in
theorem w_X8_swaps (X : Cx) (F : Fx X cX8_swaps RX8 none rmX8_swaps) (hA : xA X = Aw (xG X)) (hL : xL X = 4) (h : Hp) (p1 : Int32) (p2 : Int32) : Wm X (fun _ => none) (fun v => v) (fun _ => True) 0 [(0, .ref (adr (xG X) 8 0 0)), (1, .int p1), (2, .int p2)] [] h (f_X8_swaps h p1 p2) := by
  have hS : ∀ i : Nat, i < 4 → i < xL X := fun i z => by rw [hL]; exact z
  unfold f_X8_swaps
  refine r_aload_n F 0 rfl dX8_swaps_0 rfl ?_
  refine r_getA F frX8_88 (by decide) dX8_swaps_1 ?_
  refine r_iload_n F 1 rfl dX8_swaps_4 rfl ?_
  refine r_iaload F (ar_8_24 0 (by decide)) dX8_swaps_5 ?_
  refine r_nmI fun v1 => ?_
  refine r_istore_n F [(3, .int v1), (0, .ref (adr (xG X) 8 0 0)), (1, .int p1), (2, .int p2)] rfl dX8_swaps_6 rfl (hS _ (by decide)) ?_
  refine r_aload_n F 1 rfl dX8_swaps_7 rfl ?_
  refine r_getA F frX8_88 (by decide) dX8_swaps_8 ?_
  refine r_iload_n F 2 rfl dX8_swaps_11 rfl ?_
  refine r_aload_n F 1 rfl dX8_swaps_12 rfl ?_
  refine r_getA F frX8_88 (by decide) dX8_swaps_13 ?_
  refine r_iload_n F 3 rfl dX8_swaps_16 rfl ?_
  refine r_iaload F (ar_8_24 0 (by decide)) dX8_swaps_17 ?_
  refine r_iastore F (ar_8_24 0 (by decide)) dX8_swaps_18 fun h2 => ?_
  refine r_aload_n F 1 rfl dX8_swaps_19 rfl ?_
  refine r_getA F frX8_88 (by decide) dX8_swaps_20 ?_
  refine r_iload_n F 3 rfl dX8_swaps_23 rfl ?_
  refine r_iload_n F 0 rfl dX8_swaps_24 rfl ?_
  refine r_iastore F (ar_8_24 0 (by decide)) dX8_swaps_25 fun h3 => ?_
  exact r_vret F hA rfl rfl trivial dX8_swaps_26
theorem c_X8_swaps (G : Gx) (l : Launch) (h : Hp) (p1 : Int32) (p2 : Int32) : Ctr G l yX8_swaps (.code yX8_swaps cX8_swaps 4 none :: GT) rmX8_swaps [.ref (adr G 8 0 0), .int p1, .int p2] h (f_X8_swaps h p1 p2) (fun _ => none) (fun v => v) (fun _ => True) :=
  ctr_of (by decide) (Nat.le_of_ble_eq_true rfl) ⟨rfl, rfl⟩ fun X _ e2 hA hL F => by subst e2; exact w_X8_swaps X F hA hL h p1 p2
def f_X8_swap_46 (N : Nat) (r31 : Int32 → Int32 → Int32 → Int32 → Hp → Option (Int32 × Hp)) (v7 : Int32) (r46 : Int32 → Int32 → Int32 → Int32 → Hp → Option (Int32 × Hp)) (v11 : Int32) (v12 : Int32) (v13 : Int32) (v14 : Int32) (h15 : Hp) : Option (Int32 × Hp) :=
  if (gI h15 8 0 12) ≤ v14 then
    lt_ (v7 + 1) fun v16 =>
    r31 v11 v12 v13 v16 h15
  else
  grd (inb v7 16) <|
  grd (inb v14 16) <|
  jn (fun (v17 : Int32) (v18 : Int32) (v19 : Int32) (h20 : Hp) =>
    lt_ (v14 + 1) fun v21 =>
    r46 v17 v18 v19 v21 h20) fun (j116 : Int32 → Int32 → Int32 → Hp → Option (Int32 × Hp)) =>
  if ¬ (gA h15 8 0 24 v7.toNatClampNeg) = (gA h15 8 0 24 v14.toNatClampNeg) then
    (f_X8_swaps h15 v7 v14).bind fun h22 =>
    (f_X8_unlikeLots N h22).bind fun v23 =>
    (f_X8_swaps h22 v7 v14).bind fun h24 =>
    if v23 < v11 then
      j116 v23 v7 v14 h24
    else
    j116 v11 v12 v13 h24
  else
  j116 v11 v12 v13 h15
def f_X8_swap_31 (N : Nat) (p1 : Int32) (r31 : Int32 → Int32 → Int32 → Int32 → Hp → Option (Int32 × Hp)) (v4 : Int32) (v5 : Int32) (v6 : Int32) (v7 : Int32) (h8 : Hp) : Option (Int32 × Hp) :=
  if (gI h8 8 0 12) ≤ v7 then
    jn (fun (v9 : Int32) =>
      some (v9, h8)) fun (j156 : Int32 → Option (Int32 × Hp)) =>
    if ¬ p1 = 0 then
      if ¬ p1 = 1 then
        if 0 ≤ v5 then
          j156 v4
        else
        j156 (-2)
      else
      j156 v6
    else
    j156 v5
  else
  lt_ ((v7 + 1)) fun v10 =>
  iter (fun _ _ _ _ _ => none) (f_X8_swap_46 N r31 v7) N v4 v5 v6 v10 h8
def f_X8_swap (N : Nat) (h : Hp) (p1 : Int32) : Option (Int32 × Hp) :=
  lt_ (sI h 8 0 2 0) fun h1 =>
  (f_X8_isIn p1 0 2).bind fun v2 =>
  if ¬ (b2i v2) = 0 then
    (f_X8_unlikeLots N h1).bind fun v3 =>
    iter (fun _ _ _ _ _ => none) (f_X8_swap_31 N p1) N v3 (-2) (-2) 0 h1
  else
  some ((-1), h1)
abbrev rmX8_swap : Room := { frames := 2, cells := 0, slots := 0, locals := 47 }
set_option maxRecDepth 100000 in
set_option maxHeartbeats 4000000 in
theorem w_X8_swap (X : Cx) (F : Fx X cX8_swap RX8 (some .int) rmX8_swap) (hA : xA X = Aw (xG X)) (hL : xL X = 8) (N : Nat) (h : Hp) (p1 : Int32) : Wm X (fun v => some (.int v.1)) (fun v => v.2) (fun _ => True) 0 [(0, .ref (adr (xG X) 8 0 0)), (1, .int p1)] [] h (f_X8_swap N h p1) := by
  have hS : ∀ i : Nat, i < 8 → i < xL X := fun i z => by rw [hL]; exact z
  unfold f_X8_swap
  refine r_aload_n F 0 rfl dX8_swap_0 rfl ?_
  refine r_iconst F (v := 0) dX8_swap_1 (by decide) ?_
  refine r_putI F frX8_163 (by decide) rfl rfl dX8_swap_2 fun h1 => ?_
  refine r_iload_n F 1 rfl dX8_swap_5 rfl ?_
  refine r_iconst F (v := 0) dX8_swap_6 (by decide) ?_
  refine r_iconst F (v := 2) dX8_swap_7 (by decide) ?_
  refine k_zP (run_S F csX8_208 (c_X8_isIn (xG X) _ h1 p1 0 2) rfl rfl ⟨⟨rfl, rfl⟩, Nat.le_of_ble_eq_true rfl, Nat.le_of_ble_eq_true rfl⟩ (Nat.le_of_ble_eq_true rfl) dX8_swap_8) fun v2 _ => ?_
  refine r_ifne F (tgt := 16) dX8_swap_11 (by decide) ?_ ?_
  · skip
    refine r_aload_n F 0 rfl dX8_swap_16 rfl ?_
    refine k_iP (run_V F cvX8_519 (by decide) (c_X8_unlikeLots (xG X) _ N h1) rfl rfl ⟨⟨rfl, rfl⟩, Nat.le_of_ble_eq_true rfl, Nat.le_of_ble_eq_true rfl⟩ (Nat.le_of_ble_eq_true rfl) dX8_swap_17) fun v3 _ => ?_
    refine r_istore_n F [(2, .int v3), (0, .ref (adr (xG X) 8 0 0)), (1, .int p1)] rfl dX8_swap_20 rfl (hS _ (by decide)) ?_
    refine r_bipush F (v := (-2)) dX8_swap_21 (by decide) ?_
    refine r_istore_n F [(3, .int (-2)), (2, .int v3), (0, .ref (adr (xG X) 8 0 0)), (1, .int p1)] rfl dX8_swap_23 rfl (hS _ (by decide)) ?_
    refine r_bipush F (v := (-2)) dX8_swap_24 (by decide) ?_
    refine r_istore F [(4, .int (-2)), (3, .int (-2)), (2, .int v3), (0, .ref (adr (xG X) 8 0 0)), (1, .int p1)] rfl dX8_swap_26 (hS _ (by decide)) ?_
    refine r_iconst F (v := 0) dX8_swap_28 (by decide) ?_
    refine r_istore F [(5, .int 0), (4, .int (-2)), (3, .int (-2)), (2, .int v3), (0, .ref (adr (xG X) 8 0 0)), (1, .int p1)] rfl dX8_swap_29 (hS _ (by decide)) ?_
    have hl31 : ∀ n : Nat, ∀ v4 : Int32, ∀ v5 : Int32, ∀ v6 : Int32, ∀ v7 : Int32, ∀ h8 : Hp, Wm X (fun v => some (.int v.1)) (fun v => v.2) (fun _ => True) 31 [(0, .ref (adr (xG X) 8 0 0)), (1, .int p1), (2, .int v4), (3, .int v5), (4, .int v6), (5, .int v7)] [] h8 (iter (fun _ _ _ _ _ => none) (f_X8_swap_31 N p1) n v4 v5 v6 v7 h8) := by
      intro n
      induction n with
      | zero => intro v4 v5 v6 v7 h8; exact Wt_none
      | succ n ih =>
        revert ih
        show (∀ v4 : Int32, ∀ v5 : Int32, ∀ v6 : Int32, ∀ v7 : Int32, ∀ h8 : Hp, Wm X (fun v => some (.int v.1)) (fun v => v.2) (fun _ => True) 31 [(0, .ref (adr (xG X) 8 0 0)), (1, .int p1), (2, .int v4), (3, .int v5), (4, .int v6), (5, .int v7)] [] h8 (iter (fun _ _ _ _ _ => none) (f_X8_swap_31 N p1) n v4 v5 v6 v7 h8)) → _
        intro ih31 v4 v5 v6 v7 h8
        show Wm X (fun v => some (.int v.1)) (fun v => v.2) (fun _ => True) 31 [(0, .ref (adr (xG X) 8 0 0)), (1, .int p1), (2, .int v4), (3, .int v5), (4, .int v6), (5, .int v7)] [] h8 (f_X8_swap_31 N p1 (iter (fun _ _ _ _ _ => none) (f_X8_swap_31 N p1) n) v4 v5 v6 v7 h8)
        revert ih31
        generalize iter (fun _ _ _ _ _ => none) (f_X8_swap_31 N p1) n = r31
        intro ih31
        unfold f_X8_swap_31
        refine r_iload F 5 rfl dX8_swap_31 ?_
        refine r_aload_n F 0 rfl dX8_swap_33 rfl ?_
        refine r_getI F frX8_243 (by decide) dX8_swap_34 ?_
        refine r_icmpge F (tgt := 128) dX8_swap_37 (by decide) ?_ ?_
        · skip
          refine r_iload_n F 1 rfl dX8_swap_128 rfl ?_
          refine Wt_jn (fun (j156 : Int32 → Option (Int32 × Hp)) => ∀ v9 : Int32, Wm X (fun v => some (.int v.1)) (fun v => v.2) (fun _ => True) 156 [] [.int v9] h8 (j156 v9)) ?_ fun j156 hj156 => ?_
          · intro v9
            exact r_iret F hA rfl rfl trivial dX8_swap_156
          refine r_ifne F (tgt := 136) dX8_swap_129 (by decide) ?_ ?_
          · skip
            refine r_iload_n F 1 rfl dX8_swap_136 rfl ?_
            refine r_iconst F (v := 1) dX8_swap_137 (by decide) ?_
            refine r_icmpne F (tgt := 146) dX8_swap_138 (by decide) ?_ ?_
            · skip
              refine r_iload_n F 3 rfl dX8_swap_146 rfl ?_
              refine r_ifge F (tgt := 155) dX8_swap_147 (by decide) ?_ ?_
              · skip
                refine r_iload_n F 2 rfl dX8_swap_155 rfl ?_
                exact Wt_pick [] rfl (hj156 v4)
              refine r_bipush F (v := (-2)) dX8_swap_150 (by decide) ?_
              refine r_goto F (tgt := 156) dX8_swap_152 (by decide) ?_
              exact Wt_pick [] rfl (hj156 (-2))
            refine r_iload F 4 rfl dX8_swap_141 ?_
            refine r_goto F (tgt := 156) dX8_swap_143 (by decide) ?_
            exact Wt_pick [] rfl (hj156 v6)
          refine r_iload_n F 3 rfl dX8_swap_132 rfl ?_
          refine r_goto F (tgt := 156) dX8_swap_133 (by decide) ?_
          exact Wt_pick [] rfl (hj156 v5)
        refine r_iload F 5 rfl dX8_swap_40 ?_
        refine r_iconst F (v := 1) dX8_swap_42 (by decide) ?_
        refine r_iadd F dX8_swap_43 ?_
        refine r_nmI fun v10 => ?_
        refine r_istore F [(6, .int v10), (0, .ref (adr (xG X) 8 0 0)), (1, .int p1), (2, .int v4), (3, .int v5), (4, .int v6), (5, .int v7)] rfl dX8_swap_44 (hS _ (by decide)) ?_
        have hl46 : ∀ n : Nat, ∀ v11 : Int32, ∀ v12 : Int32, ∀ v13 : Int32, ∀ v14 : Int32, ∀ h15 : Hp, Wm X (fun v => some (.int v.1)) (fun v => v.2) (fun _ => True) 46 [(0, .ref (adr (xG X) 8 0 0)), (1, .int p1), (2, .int v11), (3, .int v12), (4, .int v13), (5, .int v7), (6, .int v14)] [] h15 (iter (fun _ _ _ _ _ => none) (f_X8_swap_46 N r31 v7) n v11 v12 v13 v14 h15) := by
          intro n
          induction n with
          | zero => intro v11 v12 v13 v14 h15; exact Wt_none
          | succ n ih =>
            revert ih
            show (∀ v11 : Int32, ∀ v12 : Int32, ∀ v13 : Int32, ∀ v14 : Int32, ∀ h15 : Hp, Wm X (fun v => some (.int v.1)) (fun v => v.2) (fun _ => True) 46 [(0, .ref (adr (xG X) 8 0 0)), (1, .int p1), (2, .int v11), (3, .int v12), (4, .int v13), (5, .int v7), (6, .int v14)] [] h15 (iter (fun _ _ _ _ _ => none) (f_X8_swap_46 N r31 v7) n v11 v12 v13 v14 h15)) → _
            intro ih46 v11 v12 v13 v14 h15
            show Wm X (fun v => some (.int v.1)) (fun v => v.2) (fun _ => True) 46 [(0, .ref (adr (xG X) 8 0 0)), (1, .int p1), (2, .int v11), (3, .int v12), (4, .int v13), (5, .int v7), (6, .int v14)] [] h15 (f_X8_swap_46 N r31 v7 (iter (fun _ _ _ _ _ => none) (f_X8_swap_46 N r31 v7) n) v11 v12 v13 v14 h15)
            revert ih46
            generalize iter (fun _ _ _ _ _ => none) (f_X8_swap_46 N r31 v7) n = r46
            intro ih46
            unfold f_X8_swap_46
            refine r_iload F 6 rfl dX8_swap_46 ?_
            refine r_aload_n F 0 rfl dX8_swap_48 rfl ?_
            refine r_getI F frX8_243 (by decide) dX8_swap_49 ?_
            refine r_icmpge F (tgt := 122) dX8_swap_52 (by decide) ?_ ?_
            · skip
              refine r_iinc F (v := 1) 5 rfl (by decide) (fun v16 => [(5, .int v16), (0, .ref (adr (xG X) 8 0 0)), (1, .int p1), (2, .int v11), (3, .int v12), (4, .int v13), (6, .int v14)]) (fun _ => rfl) dX8_swap_122 (hS _ (by decide)) fun v16 => ?_
              refine r_goto F (tgt := 31) dX8_swap_125 (by decide) ?_
              exact Wt_pick [1, 2, 3, 4, 5, 0] rfl (ih31 v11 v12 v13 v16 h15)
            refine r_aload_n F 0 rfl dX8_swap_55 rfl ?_
            refine r_getA F frX8_88 (by decide) dX8_swap_56 ?_
            refine r_iload F 5 rfl dX8_swap_59 ?_
            refine r_iaload F (ar_8_24 0 (by decide)) dX8_swap_61 ?_
            refine r_aload_n F 0 rfl dX8_swap_62 rfl ?_
            refine r_getA F frX8_88 (by decide) dX8_swap_63 ?_
            refine r_iload F 6 rfl dX8_swap_66 ?_
            refine r_iaload F (ar_8_24 0 (by decide)) dX8_swap_68 ?_
            refine Wt_jn (fun (j116 : Int32 → Int32 → Int32 → Hp → Option (Int32 × Hp)) => ∀ v17 : Int32, ∀ v18 : Int32, ∀ v19 : Int32, ∀ h20 : Hp, Wm X (fun v => some (.int v.1)) (fun v => v.2) (fun _ => True) 116 [(0, .ref (adr (xG X) 8 0 0)), (1, .int p1), (2, .int v17), (3, .int v18), (4, .int v19), (5, .int v7), (6, .int v14)] [] h20 (j116 v17 v18 v19 h20)) ?_ fun j116 hj116 => ?_
            · intro v17 v18 v19 h20
              refine r_iinc F (v := 1) 6 rfl (by decide) (fun v21 => [(6, .int v21), (0, .ref (adr (xG X) 8 0 0)), (1, .int p1), (2, .int v17), (3, .int v18), (4, .int v19), (5, .int v7)]) (fun _ => rfl) dX8_swap_116 (hS _ (by decide)) fun v21 => ?_
              refine r_goto F (tgt := 46) dX8_swap_119 (by decide) ?_
              exact Wt_pick [1, 2, 3, 4, 5, 6, 0] rfl (ih46 v17 v18 v19 v21 h20)
            refine r_icmpne F (tgt := 75) dX8_swap_69 (by decide) ?_ ?_
            · skip
              refine r_aload_n F 0 rfl dX8_swap_75 rfl ?_
              refine r_iload F 5 rfl dX8_swap_76 ?_
              refine r_iload F 6 rfl dX8_swap_78 ?_
              refine k_vH (run_V F cvX8_522 (by decide) (c_X8_swaps (xG X) _ h15 v7 v14) rfl rfl ⟨⟨rfl, rfl⟩, Nat.le_of_ble_eq_true rfl, Nat.le_of_ble_eq_true rfl⟩ (Nat.le_of_ble_eq_true rfl) dX8_swap_80) fun h22 => ?_
              refine r_aload_n F 0 rfl dX8_swap_83 rfl ?_
              refine k_iP (run_V F cvX8_519 (by decide) (c_X8_unlikeLots (xG X) _ N h22) rfl rfl ⟨⟨rfl, rfl⟩, Nat.le_of_ble_eq_true rfl, Nat.le_of_ble_eq_true rfl⟩ (Nat.le_of_ble_eq_true rfl) dX8_swap_84) fun v23 _ => ?_
              refine r_istore F [(7, .int v23), (0, .ref (adr (xG X) 8 0 0)), (1, .int p1), (2, .int v11), (3, .int v12), (4, .int v13), (5, .int v7), (6, .int v14)] rfl dX8_swap_87 (hS _ (by decide)) ?_
              refine r_aload_n F 1 rfl dX8_swap_89 rfl ?_
              refine r_iload F 6 rfl dX8_swap_90 ?_
              refine r_iload F 7 rfl dX8_swap_92 ?_
              refine k_vH (run_V F cvX8_522 (by decide) (c_X8_swaps (xG X) _ h22 v7 v14) rfl rfl ⟨⟨rfl, rfl⟩, Nat.le_of_ble_eq_true rfl, Nat.le_of_ble_eq_true rfl⟩ (Nat.le_of_ble_eq_true rfl) dX8_swap_94) fun h24 => ?_
              refine r_iload F 0 rfl dX8_swap_97 ?_
              refine r_iload_n F 3 rfl dX8_swap_99 rfl ?_
              refine r_icmplt F (tgt := 106) dX8_swap_100 (by decide) ?_ ?_
              · skip
                refine r_iload F 0 rfl dX8_swap_106 ?_
                refine r_istore_n F [(2, .int v23), (7, .int v23), (0, .ref (adr (xG X) 8 0 0)), (1, .int p1), (3, .int v12), (4, .int v13), (5, .int v7), (6, .int v14)] rfl dX8_swap_108 rfl (hS _ (by decide)) ?_
                refine r_iload F 6 rfl dX8_swap_109 ?_
                refine r_istore_n F [(3, .int v7), (2, .int v23), (7, .int v23), (0, .ref (adr (xG X) 8 0 0)), (1, .int p1), (4, .int v13), (5, .int v7), (6, .int v14)] rfl dX8_swap_111 rfl (hS _ (by decide)) ?_
                refine r_iload F 7 rfl dX8_swap_112 ?_
                refine r_istore F [(4, .int v14), (3, .int v7), (2, .int v23), (7, .int v23), (0, .ref (adr (xG X) 8 0 0)), (1, .int p1), (5, .int v7), (6, .int v14)] rfl dX8_swap_114 (hS _ (by decide)) ?_
                exact Wt_pick [4, 5, 2, 1, 0, 6, 7] rfl (hj116 v23 v7 v14 h24)
              refine r_goto F (tgt := 116) dX8_swap_103 (by decide) ?_
              exact Wt_pick [1, 2, 3, 4, 5, 6, 7] rfl (hj116 v11 v12 v13 h24)
            refine r_goto F (tgt := 116) dX8_swap_72 (by decide) ?_
            exact Wt_pick [0, 1, 2, 3, 4, 5, 6] rfl (hj116 v11 v12 v13 h15)
        exact Wt_pick [1, 2, 3, 4, 5, 6, 0] rfl (hl46 N v4 v5 v6 v10 h8)
    exact Wt_pick [4, 5, 3, 2, 1, 0] rfl (hl31 N v3 (-2) (-2) 0 h1)
  refine r_iconst F (v := (-1)) dX8_swap_14 (by decide) ?_
  exact r_iret F hA rfl rfl trivial dX8_swap_15
theorem c_X8_swap (G : Gx) (l : Launch) (N : Nat) (h : Hp) (p1 : Int32) : Ctr G l yX8_swap (.code yX8_swap cX8_swap 8 (some .int) :: GT) rmX8_swap [.ref (adr G 8 0 0), .int p1] h (f_X8_swap N h p1) (fun v => some (.int v.1)) (fun v => v.2) (fun _ => True) :=
  ctr_of (by decide) (Nat.le_of_ble_eq_true rfl) ⟨rfl, rfl⟩ fun X _ e2 hA hL F => by subst e2; exact w_X8_swap X F hA hL N h p1
def f_X8_lending (N : Nat) (h : Hp) (p1 : Int32) (p2 : Int32) (p3 : Int32) (p4 : Int32) : Option (Int32 × Hp) :=
  lt_ (sI h 8 0 2 0) fun h1 =>
  (f_X8_canLend h1 p1 p2).bind fun v2 =>
  jn (
    some ((-1), h1)) fun (j34 : Option (Int32 × Hp)) =>
  if (b2i v2) = 0 then
    j34
  else
  (f_X8_isIn p3 1 99).bind fun v3 =>
  if (b2i v3) = 0 then
    j34
  else
  (f_X8_isIn p4 0 2).bind fun v4 =>
  if ¬ (b2i v4) = 0 then
    (f_X8_layTried N h1).bind fun h5 =>
    (f_X8_goTried N h5 p3 (gI h5 8 0 61)).bind fun h6 =>
    grd (inb (4 + p1) 8) <|
    lt_ ((gA h6 8 0 28 (4 + p1).toNatClampNeg)) fun v7 =>
    grd (inb (4 + p2) 8) <|
    lt_ ((-(gA h6 8 0 28 (4 + p2).toNatClampNeg))) fun v8 =>
    (f_X8_layTried N h6).bind fun h9 =>
    grd (inb (4 + p1) 8) <|
    grd (inb (4 + p1) 8) <| lt_ (sA h9 8 0 25 (4 + p1).toNatClampNeg ((gA h9 8 0 25 (4 + p1).toNatClampNeg) - 1)) fun h10 =>
    grd (inb (4 + p2) 8) <|
    grd (inb (4 + p2) 8) <| lt_ (sA h10 8 0 25 (4 + p2).toNatClampNeg ((gA h10 8 0 25 (4 + p2).toNatClampNeg) + 1)) fun h11 =>
    (f_X8_goTried N h11 p3 (gI h11 8 0 61)).bind fun h12 =>
    grd (inb (4 + p1) 8) <|
    lt_ ((v7 - (gA h12 8 0 28 (4 + p1).toNatClampNeg))) fun v13 =>
    grd (inb (4 + p2) 8) <|
    lt_ ((v8 + (gA h12 8 0 28 (4 + p2).toNatClampNeg))) fun v14 =>
    jn (fun (v15 : Int32) =>
      jn (fun (v16 : Int32) =>
        jn (fun (v17 : Int32) =>
          some (v17, h12)) fun (j196 : Int32 → Option (Int32 × Hp)) =>
        if ¬ p4 = 0 then
          if ¬ p4 = 1 then
            if v16 ≤ v15 then
              j196 (-2)
            else
            j196 (v15 + 1)
          else
          j196 v16
        else
        j196 v15) fun (j157 : Int32 → Option (Int32 × Hp)) =>
      if 0 ≤ v14 then
        j157 v14
      else
      j157 0) fun (j144 : Int32 → Option (Int32 × Hp)) =>
    if 0 ≤ v13 then
      j144 v13
    else
    j144 0
  else
  j34
abbrev rmX8_lending : Room := { frames := 10, cells := 0, slots := 0, locals := 242 }
set_option maxRecDepth 100000 in
set_option maxHeartbeats 4000000 in
theorem w_X8_lending (X : Cx) (F : Fx X cX8_lending RX8 (some .int) rmX8_lending) (hA : xA X = Aw (xG X)) (hL : xL X = 7) (N : Nat) (h : Hp) (p1 : Int32) (p2 : Int32) (p3 : Int32) (p4 : Int32) : Wm X (fun v => some (.int v.1)) (fun v => v.2) (fun _ => True) 0 [(0, .ref (adr (xG X) 8 0 0)), (1, .int p1), (2, .int p2), (3, .int p3), (4, .int p4)] [] h (f_X8_lending N h p1 p2 p3 p4) := by
  have hS : ∀ i : Nat, i < 7 → i < xL X := fun i z => by rw [hL]; exact z
  unfold f_X8_lending
  refine r_aload_n F 0 rfl dX8_lending_0 rfl ?_
  refine r_iconst F (v := 0) dX8_lending_1 (by decide) ?_
  refine r_putI F frX8_163 (by decide) rfl rfl dX8_lending_2 fun h1 => ?_
  refine r_aload_n F 0 rfl dX8_lending_5 rfl ?_
  refine r_iload_n F 1 rfl dX8_lending_6 rfl ?_
  refine r_iload_n F 2 rfl dX8_lending_7 rfl ?_
  refine k_zP (run_V F cvX8_476 (by decide) (c_X8_canLend (xG X) _ h1 p1 p2) rfl rfl ⟨⟨rfl, rfl⟩, Nat.le_of_ble_eq_true rfl, Nat.le_of_ble_eq_true rfl⟩ (Nat.le_of_ble_eq_true rfl) dX8_lending_8) fun v2 _ => ?_
  refine Wt_jn (fun (j34 : Option (Int32 × Hp)) => Wm X (fun v => some (.int v.1)) (fun v => v.2) (fun _ => True) 34 [] [] h1 (j34)) ?_ fun j34 hj34 => ?_
  · skip
    refine r_iconst F (v := (-1)) dX8_lending_34 (by decide) ?_
    exact r_iret F hA rfl rfl trivial dX8_lending_35
  refine r_ifeq F (tgt := 34) dX8_lending_11 (by decide) ?_ ?_
  · skip
    exact Wt_pick [] rfl (hj34)
  refine r_iload_n F 3 rfl dX8_lending_14 rfl ?_
  refine r_iconst F (v := 1) dX8_lending_15 (by decide) ?_
  refine r_bipush F (v := 99) dX8_lending_16 (by decide) ?_
  refine k_zP (run_S F csX8_208 (c_X8_isIn (xG X) _ h1 p3 1 99) rfl rfl ⟨⟨rfl, rfl⟩, Nat.le_of_ble_eq_true rfl, Nat.le_of_ble_eq_true rfl⟩ (Nat.le_of_ble_eq_true rfl) dX8_lending_18) fun v3 _ => ?_
  refine r_ifeq F (tgt := 34) dX8_lending_21 (by decide) ?_ ?_
  · skip
    exact Wt_pick [] rfl (hj34)
  refine r_iload F 4 rfl dX8_lending_24 ?_
  refine r_iconst F (v := 0) dX8_lending_26 (by decide) ?_
  refine r_iconst F (v := 2) dX8_lending_27 (by decide) ?_
  refine k_zP (run_S F csX8_208 (c_X8_isIn (xG X) _ h1 p4 0 2) rfl rfl ⟨⟨rfl, rfl⟩, Nat.le_of_ble_eq_true rfl, Nat.le_of_ble_eq_true rfl⟩ (Nat.le_of_ble_eq_true rfl) dX8_lending_28) fun v4 _ => ?_
  refine r_ifne F (tgt := 36) dX8_lending_31 (by decide) ?_ ?_
  · skip
    refine r_aload_n F 0 rfl dX8_lending_36 rfl ?_
    refine k_vH (run_V F cvX8_485 (by decide) (c_X8_layTried (xG X) _ N h1) rfl rfl ⟨⟨rfl, rfl⟩, Nat.le_of_ble_eq_true rfl, Nat.le_of_ble_eq_true rfl⟩ (Nat.le_of_ble_eq_true rfl) dX8_lending_37) fun h5 => ?_
    refine r_aload_n F 0 rfl dX8_lending_40 rfl ?_
    refine r_iload_n F 3 rfl dX8_lending_41 rfl ?_
    refine r_aload_n F 0 rfl dX8_lending_42 rfl ?_
    refine r_getI F frX8_363 (by decide) dX8_lending_43 ?_
    refine k_vH (run_V F cvX8_488 (by decide) (c_X8_goTried (xG X) _ N h5 p3 (gI h5 8 0 61)) rfl rfl ⟨⟨rfl, rfl⟩, Nat.le_of_ble_eq_true rfl, Nat.le_of_ble_eq_true rfl⟩ (Nat.le_of_ble_eq_true rfl) dX8_lending_46) fun h6 => ?_
    refine r_aload_n F 0 rfl dX8_lending_49 rfl ?_
    refine r_getA F frX8_100 (by decide) dX8_lending_50 ?_
    refine r_iconst F (v := 4) dX8_lending_53 (by decide) ?_
    refine r_iload_n F 1 rfl dX8_lending_54 rfl ?_
    refine r_iadd F dX8_lending_55 ?_
    refine r_iaload F (ar_8_28 0 (by decide)) dX8_lending_56 ?_
    refine r_nmI fun v7 => ?_
    refine r_istore F [(5, .int v7), (0, .ref (adr (xG X) 8 0 0)), (1, .int p1), (2, .int p2), (3, .int p3), (4, .int p4)] rfl dX8_lending_57 (hS _ (by decide)) ?_
    refine r_aload_n F 1 rfl dX8_lending_59 rfl ?_
    refine r_getA F frX8_100 (by decide) dX8_lending_60 ?_
    refine r_iconst F (v := 4) dX8_lending_63 (by decide) ?_
    refine r_iload_n F 3 rfl dX8_lending_64 rfl ?_
    refine r_iadd F dX8_lending_65 ?_
    refine r_iaload F (ar_8_28 0 (by decide)) dX8_lending_66 ?_
    refine r_ineg F dX8_lending_67 ?_
    refine r_nmI fun v8 => ?_
    refine r_istore F [(6, .int v8), (5, .int v7), (0, .ref (adr (xG X) 8 0 0)), (1, .int p1), (2, .int p2), (3, .int p3), (4, .int p4)] rfl dX8_lending_68 (hS _ (by decide)) ?_
    refine r_aload_n F 2 rfl dX8_lending_70 rfl ?_
    refine k_vH (run_V F cvX8_485 (by decide) (c_X8_layTried (xG X) _ N h6) rfl rfl ⟨⟨rfl, rfl⟩, Nat.le_of_ble_eq_true rfl, Nat.le_of_ble_eq_true rfl⟩ (Nat.le_of_ble_eq_true rfl) dX8_lending_71) fun h9 => ?_
    refine r_aload_n F 2 rfl dX8_lending_74 rfl ?_
    refine r_getA F frX8_91 (by decide) dX8_lending_75 ?_
    refine r_iconst F (v := 4) dX8_lending_78 (by decide) ?_
    refine r_iload_n F 3 rfl dX8_lending_79 rfl ?_
    refine r_iadd F dX8_lending_80 ?_
    refine r_dup2 F rfl rfl dX8_lending_81 ?_
    refine r_iaload F (ar_8_25 0 (by decide)) dX8_lending_82 ?_
    refine r_iconst F (v := 1) dX8_lending_83 (by decide) ?_
    refine r_isub F dX8_lending_84 ?_
    refine r_iastore F (ar_8_25 0 (by decide)) dX8_lending_85 fun h10 => ?_
    refine r_aload_n F 2 rfl dX8_lending_86 rfl ?_
    refine r_getA F frX8_91 (by decide) dX8_lending_87 ?_
    refine r_iconst F (v := 4) dX8_lending_90 (by decide) ?_
    refine r_iload_n F 4 rfl dX8_lending_91 rfl ?_
    refine r_iadd F dX8_lending_92 ?_
    refine r_dup2 F rfl rfl dX8_lending_93 ?_
    refine r_iaload F (ar_8_25 0 (by decide)) dX8_lending_94 ?_
    refine r_iconst F (v := 1) dX8_lending_95 (by decide) ?_
    refine r_iadd F dX8_lending_96 ?_
    refine r_iastore F (ar_8_25 0 (by decide)) dX8_lending_97 fun h11 => ?_
    refine r_aload_n F 2 rfl dX8_lending_98 rfl ?_
    refine r_iload_n F 5 rfl dX8_lending_99 rfl ?_
    refine r_aload_n F 2 rfl dX8_lending_100 rfl ?_
    refine r_getI F frX8_363 (by decide) dX8_lending_101 ?_
    refine k_vH (run_V F cvX8_488 (by decide) (c_X8_goTried (xG X) _ N h11 p3 (gI h11 8 0 61)) rfl rfl ⟨⟨rfl, rfl⟩, Nat.le_of_ble_eq_true rfl, Nat.le_of_ble_eq_true rfl⟩ (Nat.le_of_ble_eq_true rfl) dX8_lending_104) fun h12 => ?_
    refine r_iload F 1 rfl dX8_lending_107 ?_
    refine r_aload_n F 2 rfl dX8_lending_109 rfl ?_
    refine r_getA F frX8_100 (by decide) dX8_lending_110 ?_
    refine r_iconst F (v := 4) dX8_lending_113 (by decide) ?_
    refine r_iload_n F 3 rfl dX8_lending_114 rfl ?_
    refine r_iadd F dX8_lending_115 ?_
    refine r_iaload F (ar_8_28 0 (by decide)) dX8_lending_116 ?_
    refine r_isub F dX8_lending_117 ?_
    refine r_nmI fun v13 => ?_
    refine r_istore F [(5, .int v13), (6, .int v8), (0, .ref (adr (xG X) 8 0 0)), (1, .int p1), (2, .int p2), (3, .int p3), (4, .int p4)] rfl dX8_lending_118 (hS _ (by decide)) ?_
    refine r_iload F 1 rfl dX8_lending_120 ?_
    refine r_aload_n F 2 rfl dX8_lending_122 rfl ?_
    refine r_getA F frX8_100 (by decide) dX8_lending_123 ?_
    refine r_iconst F (v := 4) dX8_lending_126 (by decide) ?_
    refine r_iload_n F 4 rfl dX8_lending_127 rfl ?_
    refine r_iadd F dX8_lending_128 ?_
    refine r_iaload F (ar_8_28 0 (by decide)) dX8_lending_129 ?_
    refine r_iadd F dX8_lending_130 ?_
    refine r_nmI fun v14 => ?_
    refine r_istore F [(6, .int v14), (5, .int v13), (0, .ref (adr (xG X) 8 0 0)), (1, .int p1), (2, .int p2), (3, .int p3), (4, .int p4)] rfl dX8_lending_131 (hS _ (by decide)) ?_
    refine r_iload F 1 rfl dX8_lending_133 ?_
    refine Wt_jn (fun (j144 : Int32 → Option (Int32 × Hp)) => ∀ v15 : Int32, Wm X (fun v => some (.int v.1)) (fun v => v.2) (fun _ => True) 144 [(4, .int p4), (6, .int v14)] [.int v15] h12 (j144 v15)) ?_ fun j144 hj144 => ?_
    · intro v15
      refine r_istore F [(5, .int v15), (4, .int p4), (6, .int v14)] rfl dX8_lending_144 (hS _ (by decide)) ?_
      refine r_iload F 2 rfl dX8_lending_146 ?_
      refine Wt_jn (fun (j157 : Int32 → Option (Int32 × Hp)) => ∀ v16 : Int32, Wm X (fun v => some (.int v.1)) (fun v => v.2) (fun _ => True) 157 [(4, .int p4), (5, .int v15)] [.int v16] h12 (j157 v16)) ?_ fun j157 hj157 => ?_
      · intro v16
        refine r_istore F [(6, .int v16), (4, .int p4), (5, .int v15)] rfl dX8_lending_157 (hS _ (by decide)) ?_
        refine r_iload F 1 rfl dX8_lending_159 ?_
        refine Wt_jn (fun (j196 : Int32 → Option (Int32 × Hp)) => ∀ v17 : Int32, Wm X (fun v => some (.int v.1)) (fun v => v.2) (fun _ => True) 196 [] [.int v17] h12 (j196 v17)) ?_ fun j196 hj196 => ?_
        · intro v17
          exact r_iret F hA rfl rfl trivial dX8_lending_196
        refine r_ifne F (tgt := 169) dX8_lending_161 (by decide) ?_ ?_
        · skip
          refine r_iload F 1 rfl dX8_lending_169 ?_
          refine r_iconst F (v := 1) dX8_lending_171 (by decide) ?_
          refine r_icmpne F (tgt := 180) dX8_lending_172 (by decide) ?_ ?_
          · skip
            refine r_iload F 0 rfl dX8_lending_180 ?_
            refine r_iload F 2 rfl dX8_lending_182 ?_
            refine r_icmple F (tgt := 194) dX8_lending_184 (by decide) ?_ ?_
            · skip
              refine r_bipush F (v := (-2)) dX8_lending_194 (by decide) ?_
              exact Wt_pick [] rfl (hj196 (-2))
            refine r_iload F 2 rfl dX8_lending_187 ?_
            refine r_iconst F (v := 1) dX8_lending_189 (by decide) ?_
            refine r_iadd F dX8_lending_190 ?_
            refine r_goto F (tgt := 196) dX8_lending_191 (by decide) ?_
            exact Wt_pick [] rfl (hj196 (v15 + 1))
          refine r_iload F 0 rfl dX8_lending_175 ?_
          refine r_goto F (tgt := 196) dX8_lending_177 (by decide) ?_
          exact Wt_pick [] rfl (hj196 v16)
        refine r_iload F 2 rfl dX8_lending_164 ?_
        refine r_goto F (tgt := 196) dX8_lending_166 (by decide) ?_
        exact Wt_pick [] rfl (hj196 v15)
      refine r_ifge F (tgt := 155) dX8_lending_148 (by decide) ?_ ?_
      · skip
        refine r_iload F 2 rfl dX8_lending_155 ?_
        exact Wt_pick [1, 0] rfl (hj157 v14)
      refine r_iconst F (v := 0) dX8_lending_151 (by decide) ?_
      refine r_goto F (tgt := 157) dX8_lending_152 (by decide) ?_
      exact Wt_pick [1, 0] rfl (hj157 0)
    refine r_ifge F (tgt := 142) dX8_lending_135 (by decide) ?_ ?_
    · skip
      refine r_iload F 1 rfl dX8_lending_142 ?_
      exact Wt_pick [6, 0] rfl (hj144 v13)
    refine r_iconst F (v := 0) dX8_lending_138 (by decide) ?_
    refine r_goto F (tgt := 144) dX8_lending_139 (by decide) ?_
    exact Wt_pick [6, 0] rfl (hj144 0)
  exact Wt_pick [] rfl (hj34)
theorem c_X8_lending (G : Gx) (l : Launch) (N : Nat) (h : Hp) (p1 : Int32) (p2 : Int32) (p3 : Int32) (p4 : Int32) : Ctr G l yX8_lending (.code yX8_lending cX8_lending 7 (some .int) :: GT) rmX8_lending [.ref (adr G 8 0 0), .int p1, .int p2, .int p3, .int p4] h (f_X8_lending N h p1 p2 p3 p4) (fun v => some (.int v.1)) (fun v => v.2) (fun _ => True) :=
  ctr_of (by decide) (Nat.le_of_ble_eq_true rfl) ⟨rfl, rfl⟩ fun X _ e2 hA hL F => by subst e2; exact w_X8_lending X F hA hL N h p1 p2 p3 p4
def f_X8_unlikeForked_8 (h : Hp) (r8 : Int32 → Int32 → Int32 → Option Int32) (v1 : Int32) (v2 : Int32) (v3 : Int32) : Option Int32 :=
  if (gI h 8 0 13) ≤ v3 then
    some (v1 - v2)
  else
  grd (inb (4 + v3) 8) <|
  jn (fun (v4 : Int32) =>
    grd (inb (4 + v3) 8) <|
    jn (fun (v5 : Int32) =>
      lt_ (v3 + 1) fun v6 =>
      r8 v4 v5 v6) fun (j65 : Int32 → Option Int32) =>
    if v2 ≤ (gA h 8 0 29 (4 + v3).toNatClampNeg) then
      j65 v2
    else
    grd (inb (4 + v3) 8) <|
    j65 (gA h 8 0 29 (4 + v3).toNatClampNeg)) fun (j40 : Int32 → Option Int32) =>
  if (gA h 8 0 29 (4 + v3).toNatClampNeg) ≤ v1 then
    j40 v1
  else
  grd (inb (4 + v3) 8) <|
  j40 (gA h 8 0 29 (4 + v3).toNatClampNeg)
def f_X8_unlikeForked (N : Nat) (h : Hp) : Option Int32 :=
  iter (fun _ _ _ => none) (f_X8_unlikeForked_8 h) N 0 999999 0
abbrev rmX8_unlikeForked : Room := { frames := 0, cells := 0, slots := 0, locals := 0 }
set_option maxRecDepth 100000 in
set_option maxHeartbeats 4000000 in
theorem w_X8_unlikeForked (X : Cx) (F : Fx X cX8_unlikeForked RX8 (some .int) rmX8_unlikeForked) (hA : xA X = Aw (xG X)) (hL : xL X = 4) (N : Nat) (h : Hp) : Wm X (fun v => some (.int v)) (fun _ => h) (fun _ => True) 0 [(0, .ref (adr (xG X) 8 0 0))] [] h (f_X8_unlikeForked N h) := by
  have hS : ∀ i : Nat, i < 4 → i < xL X := fun i z => by rw [hL]; exact z
  unfold f_X8_unlikeForked
  refine r_iconst F (v := 0) dX8_unlikeForked_0 (by decide) ?_
  refine r_istore_n F [(1, .int 0), (0, .ref (adr (xG X) 8 0 0))] rfl dX8_unlikeForked_1 rfl (hS _ (by decide)) ?_
  refine r_ldcw F wd_1951 dX8_unlikeForked_2 ?_
  refine r_istore_n F [(2, .int 999999), (1, .int 0), (0, .ref (adr (xG X) 8 0 0))] rfl dX8_unlikeForked_5 rfl (hS _ (by decide)) ?_
  refine r_iconst F (v := 0) dX8_unlikeForked_6 (by decide) ?_
  refine r_istore_n F [(3, .int 0), (2, .int 999999), (1, .int 0), (0, .ref (adr (xG X) 8 0 0))] rfl dX8_unlikeForked_7 rfl (hS _ (by decide)) ?_
  have hl8 : ∀ n : Nat, ∀ v1 : Int32, ∀ v2 : Int32, ∀ v3 : Int32, Wm X (fun v => some (.int v)) (fun _ => h) (fun _ => True) 8 [(0, .ref (adr (xG X) 8 0 0)), (1, .int v1), (2, .int v2), (3, .int v3)] [] h (iter (fun _ _ _ => none) (f_X8_unlikeForked_8 h) n v1 v2 v3) := by
    intro n
    induction n with
    | zero => intro v1 v2 v3; exact Wt_none
    | succ n ih =>
      revert ih
      show (∀ v1 : Int32, ∀ v2 : Int32, ∀ v3 : Int32, Wm X (fun v => some (.int v)) (fun _ => h) (fun _ => True) 8 [(0, .ref (adr (xG X) 8 0 0)), (1, .int v1), (2, .int v2), (3, .int v3)] [] h (iter (fun _ _ _ => none) (f_X8_unlikeForked_8 h) n v1 v2 v3)) → _
      intro ih8 v1 v2 v3
      show Wm X (fun v => some (.int v)) (fun _ => h) (fun _ => True) 8 [(0, .ref (adr (xG X) 8 0 0)), (1, .int v1), (2, .int v2), (3, .int v3)] [] h (f_X8_unlikeForked_8 h (iter (fun _ _ _ => none) (f_X8_unlikeForked_8 h) n) v1 v2 v3)
      revert ih8
      generalize iter (fun _ _ _ => none) (f_X8_unlikeForked_8 h) n = r8
      intro ih8
      unfold f_X8_unlikeForked_8
      refine r_iload_n F 3 rfl dX8_unlikeForked_8 rfl ?_
      refine r_aload_n F 0 rfl dX8_unlikeForked_9 rfl ?_
      refine r_getI F frX8_246 (by decide) dX8_unlikeForked_10 ?_
      refine r_icmpge F (tgt := 72) dX8_unlikeForked_13 (by decide) ?_ ?_
      · skip
        refine r_iload_n F 1 rfl dX8_unlikeForked_72 rfl ?_
        refine r_iload_n F 2 rfl dX8_unlikeForked_73 rfl ?_
        refine r_isub F dX8_unlikeForked_74 ?_
        exact r_iret F hA rfl rfl trivial dX8_unlikeForked_75
      refine r_aload_n F 0 rfl dX8_unlikeForked_16 rfl ?_
      refine r_getA F frX8_103 (by decide) dX8_unlikeForked_17 ?_
      refine r_iconst F (v := 4) dX8_unlikeForked_20 (by decide) ?_
      refine r_iload_n F 3 rfl dX8_unlikeForked_21 rfl ?_
      refine r_iadd F dX8_unlikeForked_22 ?_
      refine r_iaload F (ar_8_29 0 (by decide)) dX8_unlikeForked_23 ?_
      refine r_iload_n F 1 rfl dX8_unlikeForked_24 rfl ?_
      refine Wt_jn (fun (j40 : Int32 → Option Int32) => ∀ v4 : Int32, Wm X (fun v => some (.int v)) (fun _ => h) (fun _ => True) 40 [(0, .ref (adr (xG X) 8 0 0)), (2, .int v2), (3, .int v3)] [.int v4] h (j40 v4)) ?_ fun j40 hj40 => ?_
      · intro v4
        refine r_istore_n F [(1, .int v4), (0, .ref (adr (xG X) 8 0 0)), (2, .int v2), (3, .int v3)] rfl dX8_unlikeForked_40 rfl (hS _ (by decide)) ?_
        refine r_aload_n F 1 rfl dX8_unlikeForked_41 rfl ?_
        refine r_getA F frX8_103 (by decide) dX8_unlikeForked_42 ?_
        refine r_iconst F (v := 4) dX8_unlikeForked_45 (by decide) ?_
        refine r_iload_n F 3 rfl dX8_unlikeForked_46 rfl ?_
        refine r_iadd F dX8_unlikeForked_47 ?_
        refine r_iaload F (ar_8_29 0 (by decide)) dX8_unlikeForked_48 ?_
        refine r_iload_n F 2 rfl dX8_unlikeForked_49 rfl ?_
        refine Wt_jn (fun (j65 : Int32 → Option Int32) => ∀ v5 : Int32, Wm X (fun v => some (.int v)) (fun _ => h) (fun _ => True) 65 [(0, .ref (adr (xG X) 8 0 0)), (1, .int v4), (3, .int v3)] [.int v5] h (j65 v5)) ?_ fun j65 hj65 => ?_
        · intro v5
          refine r_istore_n F [(2, .int v5), (0, .ref (adr (xG X) 8 0 0)), (1, .int v4), (3, .int v3)] rfl dX8_unlikeForked_65 rfl (hS _ (by decide)) ?_
          refine r_iinc F (v := 1) 3 rfl (by decide) (fun v6 => [(3, .int v6), (2, .int v5), (0, .ref (adr (xG X) 8 0 0)), (1, .int v4)]) (fun _ => rfl) dX8_unlikeForked_66 (hS _ (by decide)) fun v6 => ?_
          refine r_goto F (tgt := 8) dX8_unlikeForked_69 (by decide) ?_
          exact Wt_pick [2, 3, 1, 0] rfl (ih8 v4 v5 v6)
        refine r_icmpge F (tgt := 64) dX8_unlikeForked_50 (by decide) ?_ ?_
        · skip
          refine r_iload_n F 2 rfl dX8_unlikeForked_64 rfl ?_
          exact Wt_pick [1, 0, 3] rfl (hj65 v2)
        refine r_aload_n F 1 rfl dX8_unlikeForked_53 rfl ?_
        refine r_getA F frX8_103 (by decide) dX8_unlikeForked_54 ?_
        refine r_iconst F (v := 4) dX8_unlikeForked_57 (by decide) ?_
        refine r_iload_n F 3 rfl dX8_unlikeForked_58 rfl ?_
        refine r_iadd F dX8_unlikeForked_59 ?_
        refine r_iaload F (ar_8_29 0 (by decide)) dX8_unlikeForked_60 ?_
        refine r_goto F (tgt := 65) dX8_unlikeForked_61 (by decide) ?_
        exact Wt_pick [1, 0, 3] rfl (hj65 (gA h 8 0 29 (4 + v3).toNatClampNeg))
      refine r_icmple F (tgt := 39) dX8_unlikeForked_25 (by decide) ?_ ?_
      · skip
        refine r_iload_n F 1 rfl dX8_unlikeForked_39 rfl ?_
        exact Wt_pick [0, 2, 3] rfl (hj40 v1)
      refine r_aload_n F 0 rfl dX8_unlikeForked_28 rfl ?_
      refine r_getA F frX8_103 (by decide) dX8_unlikeForked_29 ?_
      refine r_iconst F (v := 4) dX8_unlikeForked_32 (by decide) ?_
      refine r_iload_n F 3 rfl dX8_unlikeForked_33 rfl ?_
      refine r_iadd F dX8_unlikeForked_34 ?_
      refine r_iaload F (ar_8_29 0 (by decide)) dX8_unlikeForked_35 ?_
      refine r_goto F (tgt := 40) dX8_unlikeForked_36 (by decide) ?_
      exact Wt_pick [0, 2, 3] rfl (hj40 (gA h 8 0 29 (4 + v3).toNatClampNeg))
  exact Wt_pick [3, 2, 1, 0] rfl (hl8 N 0 999999 0)
theorem c_X8_unlikeForked (G : Gx) (l : Launch) (N : Nat) (h : Hp) : Ctr G l yX8_unlikeForked (.code yX8_unlikeForked cX8_unlikeForked 4 (some .int) :: GT) rmX8_unlikeForked [.ref (adr G 8 0 0)] h (f_X8_unlikeForked N h) (fun v => some (.int v)) (fun _ => h) (fun _ => True) :=
  ctr_of (by decide) (Nat.le_of_ble_eq_true rfl) ⟨rfl, rfl⟩ fun X _ e2 hA hL F => by subst e2; exact w_X8_unlikeForked X F hA hL N h
