theorem dX8_thrown_0 : decode cX8_thrown 0 = .ok (.aload_n 0, 1) := by decide +kernel
theorem dX8_thrown_1 : decode cX8_thrown 1 = .ok (.getfield 163, 3) := by decide +kernel
theorem dX8_thrown_4 : decode cX8_thrown 4 = .ok (.ireturn, 1) := by decide +kernel
theorem dX8_feed_0 : decode cX8_feed 0 = .ok (.aload_n 0, 1) := by decide +kernel
theorem dX8_feed_1 : decode cX8_feed 1 = .ok (.iconst 0, 1) := by decide +kernel
theorem dX8_feed_2 : decode cX8_feed 2 = .ok (.putfield 163, 3) := by decide +kernel
theorem dX8_feed_5 : decode cX8_feed 5 = .ok (.aload_n 0, 1) := by decide +kernel
theorem dX8_feed_6 : decode cX8_feed 6 = .ok (.getfield 166, 3) := by decide +kernel
theorem dX8_feed_9 : decode cX8_feed 9 = .ok (.bipush 20, 2) := by decide +kernel
theorem dX8_feed_11 : decode cX8_feed 11 = .ok (.iadd, 1) := by decide +kernel
theorem dX8_feed_12 : decode cX8_feed 12 = .ok (.sipush 700, 3) := by decide +kernel
theorem dX8_feed_15 : decode cX8_feed 15 = .ok (.if_icmp .le 5, 3) := by decide +kernel
theorem dX8_feed_18 : decode cX8_feed 18 = .ok (.iconst (-1), 1) := by decide +kernel
theorem dX8_feed_19 : decode cX8_feed 19 = .ok (.ireturn, 1) := by decide +kernel
theorem dX8_feed_20 : decode cX8_feed 20 = .ok (.iconst 0, 1) := by decide +kernel
theorem dX8_feed_21 : decode cX8_feed 21 = .ok (.istore 6, 2) := by decide +kernel
theorem dX8_feed_23 : decode cX8_feed 23 = .ok (.iload 6, 2) := by decide +kernel
theorem dX8_feed_25 : decode cX8_feed 25 = .ok (.bipush 20, 2) := by decide +kernel
theorem dX8_feed_27 : decode cX8_feed 27 = .ok (.if_icmp .ge 86, 3) := by decide +kernel
theorem dX8_feed_30 : decode cX8_feed 30 = .ok (.iload 6, 2) := by decide +kernel
theorem dX8_feed_32 : decode cX8_feed 32 = .ok (.iconst 4, 1) := by decide +kernel
theorem dX8_feed_33 : decode cX8_feed 33 = .ok (.if_icmp .ge 7, 3) := by decide +kernel
theorem dX8_feed_36 : decode cX8_feed 36 = .ok (.iload_n 1, 1) := by decide +kernel
theorem dX8_feed_37 : decode cX8_feed 37 = .ok (.goto 39, 3) := by decide +kernel
theorem dX8_feed_40 : decode cX8_feed 40 = .ok (.iload 6, 2) := by decide +kernel
theorem dX8_feed_42 : decode cX8_feed 42 = .ok (.bipush 8, 2) := by decide +kernel
theorem dX8_feed_44 : decode cX8_feed 44 = .ok (.if_icmp .ge 7, 3) := by decide +kernel
theorem dX8_feed_47 : decode cX8_feed 47 = .ok (.iload_n 2, 1) := by decide +kernel
theorem dX8_feed_48 : decode cX8_feed 48 = .ok (.goto 28, 3) := by decide +kernel
theorem dX8_feed_51 : decode cX8_feed 51 = .ok (.iload 6, 2) := by decide +kernel
theorem dX8_feed_53 : decode cX8_feed 53 = .ok (.bipush 12, 2) := by decide +kernel
theorem dX8_feed_55 : decode cX8_feed 55 = .ok (.if_icmp .ge 7, 3) := by decide +kernel
theorem dX8_feed_58 : decode cX8_feed 58 = .ok (.iload_n 3, 1) := by decide +kernel
theorem dX8_feed_59 : decode cX8_feed 59 = .ok (.goto 17, 3) := by decide +kernel
theorem dX8_feed_62 : decode cX8_feed 62 = .ok (.iload 6, 2) := by decide +kernel
theorem dX8_feed_64 : decode cX8_feed 64 = .ok (.bipush 16, 2) := by decide +kernel
theorem dX8_feed_66 : decode cX8_feed 66 = .ok (.if_icmp .ge 8, 3) := by decide +kernel
theorem dX8_feed_69 : decode cX8_feed 69 = .ok (.iload 4, 2) := by decide +kernel
theorem dX8_feed_71 : decode cX8_feed 71 = .ok (.goto 5, 3) := by decide +kernel
theorem dX8_feed_74 : decode cX8_feed 74 = .ok (.iload 5, 2) := by decide +kernel
theorem dX8_feed_76 : decode cX8_feed 76 = .ok (.istore 7, 2) := by decide +kernel
theorem dX8_feed_78 : decode cX8_feed 78 = .ok (.aload_n 0, 1) := by decide +kernel
theorem dX8_feed_79 : decode cX8_feed 79 = .ok (.getfield 7, 3) := by decide +kernel
theorem dX8_feed_82 : decode cX8_feed 82 = .ok (.aload_n 0, 1) := by decide +kernel
theorem dX8_feed_83 : decode cX8_feed 83 = .ok (.getfield 166, 3) := by decide +kernel
theorem dX8_feed_86 : decode cX8_feed 86 = .ok (.iload 6, 2) := by decide +kernel
theorem dX8_feed_88 : decode cX8_feed 88 = .ok (.iadd, 1) := by decide +kernel
theorem dX8_feed_89 : decode cX8_feed 89 = .ok (.iload 7, 2) := by decide +kernel
theorem dX8_feed_91 : decode cX8_feed 91 = .ok (.bipush 24, 2) := by decide +kernel
theorem dX8_feed_93 : decode cX8_feed 93 = .ok (.bipush 8, 2) := by decide +kernel
theorem dX8_feed_95 : decode cX8_feed 95 = .ok (.iload 6, 2) := by decide +kernel
theorem dX8_feed_97 : decode cX8_feed 97 = .ok (.iconst 4, 1) := by decide +kernel
theorem dX8_feed_98 : decode cX8_feed 98 = .ok (.irem, 1) := by decide +kernel
theorem dX8_feed_99 : decode cX8_feed 99 = .ok (.imul, 1) := by decide +kernel
theorem dX8_feed_100 : decode cX8_feed 100 = .ok (.isub, 1) := by decide +kernel
theorem dX8_feed_101 : decode cX8_feed 101 = .ok (.ishr, 1) := by decide +kernel
theorem dX8_feed_102 : decode cX8_feed 102 = .ok (.sipush 255, 3) := by decide +kernel
theorem dX8_feed_105 : decode cX8_feed 105 = .ok (.iand, 1) := by decide +kernel
theorem dX8_feed_106 : decode cX8_feed 106 = .ok (.iastore, 1) := by decide +kernel
theorem dX8_feed_107 : decode cX8_feed 107 = .ok (.iinc 6 1, 3) := by decide +kernel
theorem dX8_feed_110 : decode cX8_feed 110 = .ok (.goto (-87), 3) := by decide +kernel
theorem dX8_feed_113 : decode cX8_feed 113 = .ok (.aload_n 0, 1) := by decide +kernel
theorem dX8_feed_114 : decode cX8_feed 114 = .ok (.dup, 1) := by decide +kernel
theorem dX8_feed_115 : decode cX8_feed 115 = .ok (.getfield 166, 3) := by decide +kernel
theorem dX8_feed_118 : decode cX8_feed 118 = .ok (.bipush 20, 2) := by decide +kernel
theorem dX8_feed_120 : decode cX8_feed 120 = .ok (.iadd, 1) := by decide +kernel
theorem dX8_feed_121 : decode cX8_feed 121 = .ok (.putfield 166, 3) := by decide +kernel
theorem dX8_feed_124 : decode cX8_feed 124 = .ok (.aload_n 0, 1) := by decide +kernel
theorem dX8_feed_125 : decode cX8_feed 125 = .ok (.getfield 166, 3) := by decide +kernel
theorem dX8_feed_128 : decode cX8_feed 128 = .ok (.ireturn, 1) := by decide +kernel
theorem dX8_isIn_0 : decode cX8_isIn 0 = .ok (.iload_n 0, 1) := by decide +kernel
theorem dX8_isIn_1 : decode cX8_isIn 1 = .ok (.iload_n 1, 1) := by decide +kernel
theorem dX8_isIn_2 : decode cX8_isIn 2 = .ok (.if_icmp .lt 12, 3) := by decide +kernel
theorem dX8_isIn_5 : decode cX8_isIn 5 = .ok (.iload_n 0, 1) := by decide +kernel
theorem dX8_isIn_6 : decode cX8_isIn 6 = .ok (.iload_n 2, 1) := by decide +kernel
theorem dX8_isIn_7 : decode cX8_isIn 7 = .ok (.if_icmp .gt 7, 3) := by decide +kernel
theorem dX8_isIn_10 : decode cX8_isIn 10 = .ok (.iconst 1, 1) := by decide +kernel
theorem dX8_isIn_11 : decode cX8_isIn 11 = .ok (.goto 4, 3) := by decide +kernel
theorem dX8_isIn_14 : decode cX8_isIn 14 = .ok (.iconst 0, 1) := by decide +kernel
theorem dX8_isIn_15 : decode cX8_isIn 15 = .ok (.ireturn, 1) := by decide +kernel
theorem dX8_wrong_0 : decode cX8_wrong 0 = .ok (.aload_n 0, 1) := by decide +kernel
theorem dX8_wrong_1 : decode cX8_wrong 1 = .ok (.iload_n 1, 1) := by decide +kernel
theorem dX8_wrong_2 : decode cX8_wrong 2 = .ok (.putfield 169, 3) := by decide +kernel
theorem dX8_wrong_5 : decode cX8_wrong 5 = .ok (.aload_n 0, 1) := by decide +kernel
theorem dX8_wrong_6 : decode cX8_wrong 6 = .ok (.aload_n 0, 1) := by decide +kernel
theorem dX8_wrong_7 : decode cX8_wrong 7 = .ok (.getfield 172, 3) := by decide +kernel
theorem dX8_wrong_10 : decode cX8_wrong 10 = .ok (.putfield 16, 3) := by decide +kernel
theorem dX8_wrong_13 : decode cX8_wrong 13 = .ok (.iconst 0, 1) := by decide +kernel
theorem dX8_wrong_14 : decode cX8_wrong 14 = .ok (.ireturn, 1) := by decide +kernel
theorem dX8_wordAt_0 : decode cX8_wordAt 0 = .ok (.iconst 0, 1) := by decide +kernel
theorem dX8_wordAt_1 : decode cX8_wordAt 1 = .ok (.istore_n 3, 1) := by decide +kernel
theorem dX8_wordAt_2 : decode cX8_wordAt 2 = .ok (.iconst 0, 1) := by decide +kernel
theorem dX8_wordAt_3 : decode cX8_wordAt 3 = .ok (.istore 4, 2) := by decide +kernel
theorem dX8_wordAt_5 : decode cX8_wordAt 5 = .ok (.iload 4, 2) := by decide +kernel
theorem dX8_wordAt_7 : decode cX8_wordAt 7 = .ok (.aload_n 0, 1) := by decide +kernel
theorem dX8_wordAt_8 : decode cX8_wordAt 8 = .ok (.getfield 13, 3) := by decide +kernel
theorem dX8_wordAt_11 : decode cX8_wordAt 11 = .ok (.arraylength, 1) := by decide +kernel
theorem dX8_wordAt_12 : decode cX8_wordAt 12 = .ok (.if_icmp .ge 114, 3) := by decide +kernel
theorem dX8_wordAt_15 : decode cX8_wordAt 15 = .ok (.iconst 0, 1) := by decide +kernel
theorem dX8_wordAt_16 : decode cX8_wordAt 16 = .ok (.istore 5, 2) := by decide +kernel
theorem dX8_wordAt_18 : decode cX8_wordAt 18 = .ok (.aload_n 0, 1) := by decide +kernel
theorem dX8_wordAt_19 : decode cX8_wordAt 19 = .ok (.getfield 13, 3) := by decide +kernel
theorem dX8_wordAt_22 : decode cX8_wordAt 22 = .ok (.iload 4, 2) := by decide +kernel
theorem dX8_wordAt_24 : decode cX8_wordAt 24 = .ok (.iload 5, 2) := by decide +kernel
theorem dX8_wordAt_26 : decode cX8_wordAt 26 = .ok (.iadd, 1) := by decide +kernel
theorem dX8_wordAt_27 : decode cX8_wordAt 27 = .ok (.iaload, 1) := by decide +kernel
theorem dX8_wordAt_28 : decode cX8_wordAt 28 = .ok (.bipush 32, 2) := by decide +kernel
theorem dX8_wordAt_30 : decode cX8_wordAt 30 = .ok (.if_icmp .eq 9, 3) := by decide +kernel
theorem dX8_wordAt_33 : decode cX8_wordAt 33 = .ok (.iinc 5 1, 3) := by decide +kernel
theorem dX8_wordAt_36 : decode cX8_wordAt 36 = .ok (.goto (-18), 3) := by decide +kernel
theorem dX8_wordAt_39 : decode cX8_wordAt 39 = .ok (.iload 5, 2) := by decide +kernel
theorem dX8_wordAt_41 : decode cX8_wordAt 41 = .ok (.iload_n 2, 1) := by decide +kernel
theorem dX8_wordAt_42 : decode cX8_wordAt 42 = .ok (.iload_n 1, 1) := by decide +kernel
theorem dX8_wordAt_43 : decode cX8_wordAt 43 = .ok (.isub, 1) := by decide +kernel
theorem dX8_wordAt_44 : decode cX8_wordAt 44 = .ok (.if_icmp .ne 7, 3) := by decide +kernel
theorem dX8_wordAt_47 : decode cX8_wordAt 47 = .ok (.iconst 1, 1) := by decide +kernel
theorem dX8_wordAt_48 : decode cX8_wordAt 48 = .ok (.goto 4, 3) := by decide +kernel
theorem dX8_wordAt_51 : decode cX8_wordAt 51 = .ok (.iconst 0, 1) := by decide +kernel
theorem dX8_wordAt_52 : decode cX8_wordAt 52 = .ok (.istore 6, 2) := by decide +kernel
theorem dX8_wordAt_54 : decode cX8_wordAt 54 = .ok (.iconst 0, 1) := by decide +kernel
theorem dX8_wordAt_55 : decode cX8_wordAt 55 = .ok (.istore 7, 2) := by decide +kernel
theorem dX8_wordAt_57 : decode cX8_wordAt 57 = .ok (.iload 7, 2) := by decide +kernel
theorem dX8_wordAt_59 : decode cX8_wordAt 59 = .ok (.iload 5, 2) := by decide +kernel
theorem dX8_wordAt_61 : decode cX8_wordAt 61 = .ok (.if_icmp .ge 43, 3) := by decide +kernel
theorem dX8_wordAt_64 : decode cX8_wordAt 64 = .ok (.iload 6, 2) := by decide +kernel
theorem dX8_wordAt_66 : decode cX8_wordAt 66 = .ok (.ifCond .eq 38, 3) := by decide +kernel
theorem dX8_wordAt_69 : decode cX8_wordAt 69 = .ok (.aload_n 0, 1) := by decide +kernel
theorem dX8_wordAt_70 : decode cX8_wordAt 70 = .ok (.getfield 13, 3) := by decide +kernel
theorem dX8_wordAt_73 : decode cX8_wordAt 73 = .ok (.iload 4, 2) := by decide +kernel
theorem dX8_wordAt_75 : decode cX8_wordAt 75 = .ok (.iload 7, 2) := by decide +kernel
theorem dX8_wordAt_77 : decode cX8_wordAt 77 = .ok (.iadd, 1) := by decide +kernel
theorem dX8_wordAt_78 : decode cX8_wordAt 78 = .ok (.iaload, 1) := by decide +kernel
theorem dX8_wordAt_79 : decode cX8_wordAt 79 = .ok (.aload_n 0, 1) := by decide +kernel
theorem dX8_wordAt_80 : decode cX8_wordAt 80 = .ok (.getfield 7, 3) := by decide +kernel
theorem dX8_wordAt_83 : decode cX8_wordAt 83 = .ok (.iload_n 1, 1) := by decide +kernel
theorem dX8_wordAt_84 : decode cX8_wordAt 84 = .ok (.iload 7, 2) := by decide +kernel
theorem dX8_wordAt_86 : decode cX8_wordAt 86 = .ok (.iadd, 1) := by decide +kernel
theorem dX8_wordAt_87 : decode cX8_wordAt 87 = .ok (.iaload, 1) := by decide +kernel
theorem dX8_wordAt_88 : decode cX8_wordAt 88 = .ok (.if_icmp .ne 7, 3) := by decide +kernel
theorem dX8_wordAt_91 : decode cX8_wordAt 91 = .ok (.iconst 1, 1) := by decide +kernel
theorem dX8_wordAt_92 : decode cX8_wordAt 92 = .ok (.goto 4, 3) := by decide +kernel
theorem dX8_wordAt_95 : decode cX8_wordAt 95 = .ok (.iconst 0, 1) := by decide +kernel
theorem dX8_wordAt_96 : decode cX8_wordAt 96 = .ok (.istore 6, 2) := by decide +kernel
theorem dX8_wordAt_98 : decode cX8_wordAt 98 = .ok (.iinc 7 1, 3) := by decide +kernel
theorem dX8_wordAt_101 : decode cX8_wordAt 101 = .ok (.goto (-44), 3) := by decide +kernel
theorem dX8_wordAt_104 : decode cX8_wordAt 104 = .ok (.iload 6, 2) := by decide +kernel
theorem dX8_wordAt_106 : decode cX8_wordAt 106 = .ok (.ifCond .eq 5, 3) := by decide +kernel
theorem dX8_wordAt_109 : decode cX8_wordAt 109 = .ok (.iload_n 3, 1) := by decide +kernel
theorem dX8_wordAt_110 : decode cX8_wordAt 110 = .ok (.ireturn, 1) := by decide +kernel
theorem dX8_wordAt_111 : decode cX8_wordAt 111 = .ok (.iload 4, 2) := by decide +kernel
theorem dX8_wordAt_113 : decode cX8_wordAt 113 = .ok (.iload 5, 2) := by decide +kernel
theorem dX8_wordAt_115 : decode cX8_wordAt 115 = .ok (.iconst 1, 1) := by decide +kernel
theorem dX8_wordAt_116 : decode cX8_wordAt 116 = .ok (.iadd, 1) := by decide +kernel
theorem dX8_wordAt_117 : decode cX8_wordAt 117 = .ok (.iadd, 1) := by decide +kernel
theorem dX8_wordAt_118 : decode cX8_wordAt 118 = .ok (.istore 4, 2) := by decide +kernel
theorem dX8_wordAt_120 : decode cX8_wordAt 120 = .ok (.iinc 3 1, 3) := by decide +kernel
theorem dX8_wordAt_123 : decode cX8_wordAt 123 = .ok (.goto (-118), 3) := by decide +kernel
theorem dX8_wordAt_126 : decode cX8_wordAt 126 = .ok (.iconst (-1), 1) := by decide +kernel
theorem dX8_wordAt_127 : decode cX8_wordAt 127 = .ok (.ireturn, 1) := by decide +kernel
theorem dX8_isSmall_0 : decode cX8_isSmall 0 = .ok (.iload_n 1, 1) := by decide +kernel
theorem dX8_isSmall_1 : decode cX8_isSmall 1 = .ok (.aload_n 0, 1) := by decide +kernel
theorem dX8_isSmall_2 : decode cX8_isSmall 2 = .ok (.getfield 175, 3) := by decide +kernel
theorem dX8_isSmall_5 : decode cX8_isSmall 5 = .ok (.if_icmp .ge 29, 3) := by decide +kernel
theorem dX8_isSmall_8 : decode cX8_isSmall 8 = .ok (.aload_n 0, 1) := by decide +kernel
theorem dX8_isSmall_9 : decode cX8_isSmall 9 = .ok (.getfield 7, 3) := by decide +kernel
theorem dX8_isSmall_12 : decode cX8_isSmall 12 = .ok (.iload_n 1, 1) := by decide +kernel
theorem dX8_isSmall_13 : decode cX8_isSmall 13 = .ok (.iaload, 1) := by decide +kernel
theorem dX8_isSmall_14 : decode cX8_isSmall 14 = .ok (.bipush 97, 2) := by decide +kernel
theorem dX8_isSmall_16 : decode cX8_isSmall 16 = .ok (.if_icmp .lt 18, 3) := by decide +kernel
theorem dX8_isSmall_19 : decode cX8_isSmall 19 = .ok (.aload_n 0, 1) := by decide +kernel
theorem dX8_isSmall_20 : decode cX8_isSmall 20 = .ok (.getfield 7, 3) := by decide +kernel
theorem dX8_isSmall_23 : decode cX8_isSmall 23 = .ok (.iload_n 1, 1) := by decide +kernel
theorem dX8_isSmall_24 : decode cX8_isSmall 24 = .ok (.iaload, 1) := by decide +kernel
theorem dX8_isSmall_25 : decode cX8_isSmall 25 = .ok (.bipush 122, 2) := by decide +kernel
theorem dX8_isSmall_27 : decode cX8_isSmall 27 = .ok (.if_icmp .gt 7, 3) := by decide +kernel
theorem dX8_isSmall_30 : decode cX8_isSmall 30 = .ok (.iconst 1, 1) := by decide +kernel
theorem dX8_isSmall_31 : decode cX8_isSmall 31 = .ok (.goto 4, 3) := by decide +kernel
theorem dX8_isSmall_34 : decode cX8_isSmall 34 = .ok (.iconst 0, 1) := by decide +kernel
theorem dX8_isSmall_35 : decode cX8_isSmall 35 = .ok (.ireturn, 1) := by decide +kernel
theorem dX8_isDigit_0 : decode cX8_isDigit 0 = .ok (.iload_n 1, 1) := by decide +kernel
theorem dX8_isDigit_1 : decode cX8_isDigit 1 = .ok (.aload_n 0, 1) := by decide +kernel
theorem dX8_isDigit_2 : decode cX8_isDigit 2 = .ok (.getfield 175, 3) := by decide +kernel
theorem dX8_isDigit_5 : decode cX8_isDigit 5 = .ok (.if_icmp .ge 29, 3) := by decide +kernel
theorem dX8_isDigit_8 : decode cX8_isDigit 8 = .ok (.aload_n 0, 1) := by decide +kernel
theorem dX8_isDigit_9 : decode cX8_isDigit 9 = .ok (.getfield 7, 3) := by decide +kernel
theorem dX8_isDigit_12 : decode cX8_isDigit 12 = .ok (.iload_n 1, 1) := by decide +kernel
theorem dX8_isDigit_13 : decode cX8_isDigit 13 = .ok (.iaload, 1) := by decide +kernel
theorem dX8_isDigit_14 : decode cX8_isDigit 14 = .ok (.bipush 48, 2) := by decide +kernel
theorem dX8_isDigit_16 : decode cX8_isDigit 16 = .ok (.if_icmp .lt 18, 3) := by decide +kernel
theorem dX8_isDigit_19 : decode cX8_isDigit 19 = .ok (.aload_n 0, 1) := by decide +kernel
theorem dX8_isDigit_20 : decode cX8_isDigit 20 = .ok (.getfield 7, 3) := by decide +kernel
theorem dX8_isDigit_23 : decode cX8_isDigit 23 = .ok (.iload_n 1, 1) := by decide +kernel
theorem dX8_isDigit_24 : decode cX8_isDigit 24 = .ok (.iaload, 1) := by decide +kernel
theorem dX8_isDigit_25 : decode cX8_isDigit 25 = .ok (.bipush 57, 2) := by decide +kernel
theorem dX8_isDigit_27 : decode cX8_isDigit 27 = .ok (.if_icmp .gt 7, 3) := by decide +kernel
theorem dX8_isDigit_30 : decode cX8_isDigit 30 = .ok (.iconst 1, 1) := by decide +kernel
theorem dX8_isDigit_31 : decode cX8_isDigit 31 = .ok (.goto 4, 3) := by decide +kernel
theorem dX8_isDigit_34 : decode cX8_isDigit 34 = .ok (.iconst 0, 1) := by decide +kernel
theorem dX8_isDigit_35 : decode cX8_isDigit 35 = .ok (.ireturn, 1) := by decide +kernel
theorem dX8_packed_0 : decode cX8_packed 0 = .ok (.iconst 0, 1) := by decide +kernel
theorem dX8_packed_1 : decode cX8_packed 1 = .ok (.istore_n 3, 1) := by decide +kernel
theorem dX8_packed_2 : decode cX8_packed 2 = .ok (.iload_n 1, 1) := by decide +kernel
theorem dX8_packed_3 : decode cX8_packed 3 = .ok (.istore 4, 2) := by decide +kernel
theorem dX8_packed_5 : decode cX8_packed 5 = .ok (.iload 4, 2) := by decide +kernel
theorem dX8_packed_7 : decode cX8_packed 7 = .ok (.iload_n 1, 1) := by decide +kernel
theorem dX8_packed_8 : decode cX8_packed 8 = .ok (.bipush 6, 2) := by decide +kernel
theorem dX8_packed_10 : decode cX8_packed 10 = .ok (.iadd, 1) := by decide +kernel
theorem dX8_packed_11 : decode cX8_packed 11 = .ok (.if_icmp .ge 34, 3) := by decide +kernel
theorem dX8_packed_14 : decode cX8_packed 14 = .ok (.iload_n 3, 1) := by decide +kernel
theorem dX8_packed_15 : decode cX8_packed 15 = .ok (.iconst 5, 1) := by decide +kernel
theorem dX8_packed_16 : decode cX8_packed 16 = .ok (.ishl, 1) := by decide +kernel
theorem dX8_packed_17 : decode cX8_packed 17 = .ok (.iload 4, 2) := by decide +kernel
theorem dX8_packed_19 : decode cX8_packed 19 = .ok (.iload_n 2, 1) := by decide +kernel
theorem dX8_packed_20 : decode cX8_packed 20 = .ok (.if_icmp .ge 16, 3) := by decide +kernel
theorem dX8_packed_23 : decode cX8_packed 23 = .ok (.aload_n 0, 1) := by decide +kernel
theorem dX8_packed_24 : decode cX8_packed 24 = .ok (.getfield 7, 3) := by decide +kernel
theorem dX8_packed_27 : decode cX8_packed 27 = .ok (.iload 4, 2) := by decide +kernel
theorem dX8_packed_29 : decode cX8_packed 29 = .ok (.iaload, 1) := by decide +kernel
theorem dX8_packed_30 : decode cX8_packed 30 = .ok (.bipush 96, 2) := by decide +kernel
theorem dX8_packed_32 : decode cX8_packed 32 = .ok (.isub, 1) := by decide +kernel
theorem dX8_packed_33 : decode cX8_packed 33 = .ok (.goto 4, 3) := by decide +kernel
theorem dX8_packed_36 : decode cX8_packed 36 = .ok (.iconst 0, 1) := by decide +kernel
theorem dX8_packed_37 : decode cX8_packed 37 = .ok (.ior, 1) := by decide +kernel
theorem dX8_packed_38 : decode cX8_packed 38 = .ok (.istore_n 3, 1) := by decide +kernel
theorem dX8_packed_39 : decode cX8_packed 39 = .ok (.iinc 4 1, 3) := by decide +kernel
theorem dX8_packed_42 : decode cX8_packed 42 = .ok (.goto (-37), 3) := by decide +kernel
theorem dX8_packed_45 : decode cX8_packed 45 = .ok (.iload_n 3, 1) := by decide +kernel
theorem dX8_packed_46 : decode cX8_packed 46 = .ok (.ireturn, 1) := by decide +kernel
theorem dX8_signToken_0 : decode cX8_signToken 0 = .ok (.aload_n 0, 1) := by decide +kernel
theorem dX8_signToken_1 : decode cX8_signToken 1 = .ok (.aload_n 0, 1) := by decide +kernel
theorem dX8_signToken_2 : decode cX8_signToken 2 = .ok (.getfield 7, 3) := by decide +kernel
theorem dX8_signToken_5 : decode cX8_signToken 5 = .ok (.aload_n 0, 1) := by decide +kernel
theorem dX8_signToken_6 : decode cX8_signToken 6 = .ok (.getfield 178, 3) := by decide +kernel
theorem dX8_signToken_9 : decode cX8_signToken 9 = .ok (.iaload, 1) := by decide +kernel
theorem dX8_signToken_10 : decode cX8_signToken 10 = .ok (.putfield 192, 3) := by decide +kernel
theorem dX8_signToken_13 : decode cX8_signToken 13 = .ok (.aload_n 0, 1) := by decide +kernel
theorem dX8_signToken_14 : decode cX8_signToken 14 = .ok (.dup, 1) := by decide +kernel
theorem dX8_signToken_15 : decode cX8_signToken 15 = .ok (.getfield 178, 3) := by decide +kernel
theorem dX8_signToken_18 : decode cX8_signToken 18 = .ok (.iconst 1, 1) := by decide +kernel
theorem dX8_signToken_19 : decode cX8_signToken 19 = .ok (.iadd, 1) := by decide +kernel
theorem dX8_signToken_20 : decode cX8_signToken 20 = .ok (.putfield 178, 3) := by decide +kernel
theorem dX8_signToken_23 : decode cX8_signToken 23 = .ok (.aload_n 0, 1) := by decide +kernel
theorem dX8_signToken_24 : decode cX8_signToken 24 = .ok (.getfield 192, 3) := by decide +kernel
theorem dX8_signToken_27 : decode cX8_signToken 27 = .ok (.bipush 60, 2) := by decide +kernel
theorem dX8_signToken_29 : decode cX8_signToken 29 = .ok (.if_icmp .eq 21, 3) := by decide +kernel
theorem dX8_signToken_32 : decode cX8_signToken 32 = .ok (.aload_n 0, 1) := by decide +kernel
theorem dX8_signToken_33 : decode cX8_signToken 33 = .ok (.getfield 192, 3) := by decide +kernel
theorem dX8_signToken_36 : decode cX8_signToken 36 = .ok (.bipush 62, 2) := by decide +kernel
theorem dX8_signToken_38 : decode cX8_signToken 38 = .ok (.if_icmp .eq 12, 3) := by decide +kernel
theorem dX8_signToken_41 : decode cX8_signToken 41 = .ok (.aload_n 0, 1) := by decide +kernel
theorem dX8_signToken_42 : decode cX8_signToken 42 = .ok (.getfield 192, 3) := by decide +kernel
theorem dX8_signToken_45 : decode cX8_signToken 45 = .ok (.bipush 61, 2) := by decide +kernel
theorem dX8_signToken_47 : decode cX8_signToken 47 = .ok (.if_icmp .ne 151, 3) := by decide +kernel
theorem dX8_signToken_50 : decode cX8_signToken 50 = .ok (.aload_n 0, 1) := by decide +kernel
theorem dX8_signToken_51 : decode cX8_signToken 51 = .ok (.getfield 178, 3) := by decide +kernel
theorem dX8_signToken_54 : decode cX8_signToken 54 = .ok (.aload_n 0, 1) := by decide +kernel
theorem dX8_signToken_55 : decode cX8_signToken 55 = .ok (.getfield 175, 3) := by decide +kernel
theorem dX8_signToken_58 : decode cX8_signToken 58 = .ok (.if_icmp .ge 15, 3) := by decide +kernel
theorem dX8_signToken_61 : decode cX8_signToken 61 = .ok (.aload_n 0, 1) := by decide +kernel
theorem dX8_signToken_62 : decode cX8_signToken 62 = .ok (.getfield 7, 3) := by decide +kernel
theorem dX8_signToken_65 : decode cX8_signToken 65 = .ok (.aload_n 0, 1) := by decide +kernel
theorem dX8_signToken_66 : decode cX8_signToken 66 = .ok (.getfield 178, 3) := by decide +kernel
theorem dX8_signToken_69 : decode cX8_signToken 69 = .ok (.iaload, 1) := by decide +kernel
theorem dX8_signToken_70 : decode cX8_signToken 70 = .ok (.goto 4, 3) := by decide +kernel
theorem dX8_signToken_73 : decode cX8_signToken 73 = .ok (.iconst 0, 1) := by decide +kernel
theorem dX8_signToken_74 : decode cX8_signToken 74 = .ok (.istore_n 1, 1) := by decide +kernel
theorem dX8_signToken_75 : decode cX8_signToken 75 = .ok (.aload_n 0, 1) := by decide +kernel
theorem dX8_signToken_76 : decode cX8_signToken 76 = .ok (.getfield 192, 3) := by decide +kernel
theorem dX8_signToken_79 : decode cX8_signToken 79 = .ok (.bipush 61, 2) := by decide +kernel
theorem dX8_signToken_81 : decode cX8_signToken 81 = .ok (.if_icmp .eq 13, 3) := by decide +kernel
theorem dX8_signToken_84 : decode cX8_signToken 84 = .ok (.iload_n 1, 1) := by decide +kernel
theorem dX8_signToken_85 : decode cX8_signToken 85 = .ok (.bipush 61, 2) := by decide +kernel
theorem dX8_signToken_87 : decode cX8_signToken 87 = .ok (.if_icmp .ne 7, 3) := by decide +kernel
theorem dX8_signToken_90 : decode cX8_signToken 90 = .ok (.iconst 1, 1) := by decide +kernel
theorem dX8_signToken_91 : decode cX8_signToken 91 = .ok (.goto 4, 3) := by decide +kernel
theorem dX8_signToken_94 : decode cX8_signToken 94 = .ok (.iconst 0, 1) := by decide +kernel
theorem dX8_signToken_95 : decode cX8_signToken 95 = .ok (.istore_n 2, 1) := by decide +kernel
theorem dX8_signToken_96 : decode cX8_signToken 96 = .ok (.aload_n 0, 1) := by decide +kernel
theorem dX8_signToken_97 : decode cX8_signToken 97 = .ok (.getfield 192, 3) := by decide +kernel
theorem dX8_signToken_100 : decode cX8_signToken 100 = .ok (.bipush 60, 2) := by decide +kernel
theorem dX8_signToken_102 : decode cX8_signToken 102 = .ok (.if_icmp .ne 13, 3) := by decide +kernel
theorem dX8_signToken_105 : decode cX8_signToken 105 = .ok (.iload_n 1, 1) := by decide +kernel
theorem dX8_signToken_106 : decode cX8_signToken 106 = .ok (.bipush 62, 2) := by decide +kernel
theorem dX8_signToken_108 : decode cX8_signToken 108 = .ok (.if_icmp .ne 7, 3) := by decide +kernel
theorem dX8_signToken_111 : decode cX8_signToken 111 = .ok (.iconst 1, 1) := by decide +kernel
theorem dX8_signToken_112 : decode cX8_signToken 112 = .ok (.goto 4, 3) := by decide +kernel
theorem dX8_signToken_115 : decode cX8_signToken 115 = .ok (.iconst 0, 1) := by decide +kernel
theorem dX8_signToken_116 : decode cX8_signToken 116 = .ok (.istore_n 3, 1) := by decide +kernel
theorem dX8_signToken_117 : decode cX8_signToken 117 = .ok (.iload_n 2, 1) := by decide +kernel
theorem dX8_signToken_118 : decode cX8_signToken 118 = .ok (.ifCond .ne 7, 3) := by decide +kernel
theorem dX8_signToken_121 : decode cX8_signToken 121 = .ok (.iload_n 3, 1) := by decide +kernel
theorem dX8_signToken_122 : decode cX8_signToken 122 = .ok (.ifCond .eq 13, 3) := by decide +kernel
theorem dX8_signToken_125 : decode cX8_signToken 125 = .ok (.aload_n 0, 1) := by decide +kernel
theorem dX8_signToken_126 : decode cX8_signToken 126 = .ok (.dup, 1) := by decide +kernel
theorem dX8_signToken_127 : decode cX8_signToken 127 = .ok (.getfield 178, 3) := by decide +kernel
theorem dX8_signToken_130 : decode cX8_signToken 130 = .ok (.iconst 1, 1) := by decide +kernel
theorem dX8_signToken_131 : decode cX8_signToken 131 = .ok (.iadd, 1) := by decide +kernel
theorem dX8_signToken_132 : decode cX8_signToken 132 = .ok (.putfield 178, 3) := by decide +kernel
theorem dX8_signToken_135 : decode cX8_signToken 135 = .ok (.aload_n 0, 1) := by decide +kernel
theorem dX8_signToken_136 : decode cX8_signToken 136 = .ok (.iconst 5, 1) := by decide +kernel
theorem dX8_signToken_137 : decode cX8_signToken 137 = .ok (.putfield 181, 3) := by decide +kernel
theorem dX8_signToken_140 : decode cX8_signToken 140 = .ok (.aload_n 0, 1) := by decide +kernel
theorem dX8_signToken_141 : decode cX8_signToken 141 = .ok (.aload_n 0, 1) := by decide +kernel
theorem dX8_signToken_142 : decode cX8_signToken 142 = .ok (.getfield 192, 3) := by decide +kernel
theorem dX8_signToken_145 : decode cX8_signToken 145 = .ok (.bipush 61, 2) := by decide +kernel
theorem dX8_signToken_147 : decode cX8_signToken 147 = .ok (.if_icmp .ne 7, 3) := by decide +kernel
theorem dX8_signToken_150 : decode cX8_signToken 150 = .ok (.iconst 2, 1) := by decide +kernel
theorem dX8_signToken_151 : decode cX8_signToken 151 = .ok (.goto 41, 3) := by decide +kernel
theorem dX8_signToken_154 : decode cX8_signToken 154 = .ok (.aload_n 0, 1) := by decide +kernel
theorem dX8_signToken_155 : decode cX8_signToken 155 = .ok (.getfield 192, 3) := by decide +kernel
theorem dX8_signToken_158 : decode cX8_signToken 158 = .ok (.bipush 60, 2) := by decide +kernel
theorem dX8_signToken_160 : decode cX8_signToken 160 = .ok (.if_icmp .ne 23, 3) := by decide +kernel
theorem dX8_signToken_163 : decode cX8_signToken 163 = .ok (.iload_n 2, 1) := by decide +kernel
theorem dX8_signToken_164 : decode cX8_signToken 164 = .ok (.ifCond .eq 7, 3) := by decide +kernel
theorem dX8_signToken_167 : decode cX8_signToken 167 = .ok (.iconst 1, 1) := by decide +kernel
theorem dX8_signToken_168 : decode cX8_signToken 168 = .ok (.goto 24, 3) := by decide +kernel
theorem dX8_signToken_171 : decode cX8_signToken 171 = .ok (.iload_n 3, 1) := by decide +kernel
theorem dX8_signToken_172 : decode cX8_signToken 172 = .ok (.ifCond .eq 7, 3) := by decide +kernel
theorem dX8_signToken_175 : decode cX8_signToken 175 = .ok (.iconst 3, 1) := by decide +kernel
theorem dX8_signToken_176 : decode cX8_signToken 176 = .ok (.goto 16, 3) := by decide +kernel
theorem dX8_signToken_179 : decode cX8_signToken 179 = .ok (.iconst 0, 1) := by decide +kernel
theorem dX8_signToken_180 : decode cX8_signToken 180 = .ok (.goto 12, 3) := by decide +kernel
theorem dX8_signToken_183 : decode cX8_signToken 183 = .ok (.iload_n 2, 1) := by decide +kernel
theorem dX8_signToken_184 : decode cX8_signToken 184 = .ok (.ifCond .eq 7, 3) := by decide +kernel
theorem dX8_signToken_187 : decode cX8_signToken 187 = .ok (.iconst 4, 1) := by decide +kernel
theorem dX8_signToken_188 : decode cX8_signToken 188 = .ok (.goto 4, 3) := by decide +kernel
theorem dX8_signToken_191 : decode cX8_signToken 191 = .ok (.iconst 5, 1) := by decide +kernel
theorem dX8_signToken_192 : decode cX8_signToken 192 = .ok (.putfield 192, 3) := by decide +kernel
theorem dX8_signToken_195 : decode cX8_signToken 195 = .ok (.goto 95, 3) := by decide +kernel
theorem dX8_signToken_198 : decode cX8_signToken 198 = .ok (.aload_n 0, 1) := by decide +kernel
theorem dX8_signToken_199 : decode cX8_signToken 199 = .ok (.getfield 192, 3) := by decide +kernel
theorem dX8_signToken_202 : decode cX8_signToken 202 = .ok (.bipush 59, 2) := by decide +kernel
theorem dX8_signToken_204 : decode cX8_signToken 204 = .ok (.if_icmp .eq 66, 3) := by decide +kernel
theorem dX8_signToken_207 : decode cX8_signToken 207 = .ok (.aload_n 0, 1) := by decide +kernel
theorem dX8_signToken_208 : decode cX8_signToken 208 = .ok (.getfield 192, 3) := by decide +kernel
theorem dX8_signToken_211 : decode cX8_signToken 211 = .ok (.bipush 40, 2) := by decide +kernel
theorem dX8_signToken_213 : decode cX8_signToken 213 = .ok (.if_icmp .eq 57, 3) := by decide +kernel
theorem dX8_signToken_216 : decode cX8_signToken 216 = .ok (.aload_n 0, 1) := by decide +kernel
theorem dX8_signToken_217 : decode cX8_signToken 217 = .ok (.getfield 192, 3) := by decide +kernel
theorem dX8_signToken_220 : decode cX8_signToken 220 = .ok (.bipush 41, 2) := by decide +kernel
theorem dX8_signToken_222 : decode cX8_signToken 222 = .ok (.if_icmp .eq 48, 3) := by decide +kernel
theorem dX8_signToken_225 : decode cX8_signToken 225 = .ok (.aload_n 0, 1) := by decide +kernel
theorem dX8_signToken_226 : decode cX8_signToken 226 = .ok (.getfield 192, 3) := by decide +kernel
theorem dX8_signToken_229 : decode cX8_signToken 229 = .ok (.bipush 43, 2) := by decide +kernel
theorem dX8_signToken_231 : decode cX8_signToken 231 = .ok (.if_icmp .eq 39, 3) := by decide +kernel
theorem dX8_signToken_234 : decode cX8_signToken 234 = .ok (.aload_n 0, 1) := by decide +kernel
theorem dX8_signToken_235 : decode cX8_signToken 235 = .ok (.getfield 192, 3) := by decide +kernel
theorem dX8_signToken_238 : decode cX8_signToken 238 = .ok (.bipush 45, 2) := by decide +kernel
theorem dX8_signToken_240 : decode cX8_signToken 240 = .ok (.if_icmp .eq 30, 3) := by decide +kernel
theorem dX8_signToken_243 : decode cX8_signToken 243 = .ok (.aload_n 0, 1) := by decide +kernel
theorem dX8_signToken_244 : decode cX8_signToken 244 = .ok (.getfield 192, 3) := by decide +kernel
theorem dX8_signToken_247 : decode cX8_signToken 247 = .ok (.bipush 42, 2) := by decide +kernel
theorem dX8_signToken_249 : decode cX8_signToken 249 = .ok (.if_icmp .eq 21, 3) := by decide +kernel
theorem dX8_signToken_252 : decode cX8_signToken 252 = .ok (.aload_n 0, 1) := by decide +kernel
theorem dX8_signToken_253 : decode cX8_signToken 253 = .ok (.getfield 192, 3) := by decide +kernel
theorem dX8_signToken_256 : decode cX8_signToken 256 = .ok (.bipush 47, 2) := by decide +kernel
theorem dX8_signToken_258 : decode cX8_signToken 258 = .ok (.if_icmp .eq 12, 3) := by decide +kernel
theorem dX8_signToken_261 : decode cX8_signToken 261 = .ok (.aload_n 0, 1) := by decide +kernel
theorem dX8_signToken_262 : decode cX8_signToken 262 = .ok (.getfield 192, 3) := by decide +kernel
theorem dX8_signToken_265 : decode cX8_signToken 265 = .ok (.bipush 37, 2) := by decide +kernel
theorem dX8_signToken_267 : decode cX8_signToken 267 = .ok (.if_icmp .ne 7, 3) := by decide +kernel
theorem dX8_signToken_270 : decode cX8_signToken 270 = .ok (.iconst 1, 1) := by decide +kernel
theorem dX8_signToken_271 : decode cX8_signToken 271 = .ok (.goto 4, 3) := by decide +kernel
theorem dX8_signToken_274 : decode cX8_signToken 274 = .ok (.iconst 0, 1) := by decide +kernel
theorem dX8_signToken_275 : decode cX8_signToken 275 = .ok (.istore_n 1, 1) := by decide +kernel
theorem dX8_signToken_276 : decode cX8_signToken 276 = .ok (.aload_n 0, 1) := by decide +kernel
theorem dX8_signToken_277 : decode cX8_signToken 277 = .ok (.iload_n 1, 1) := by decide +kernel
theorem dX8_signToken_278 : decode cX8_signToken 278 = .ok (.ifCond .eq 7, 3) := by decide +kernel
theorem dX8_signToken_281 : decode cX8_signToken 281 = .ok (.iconst 4, 1) := by decide +kernel
theorem dX8_signToken_282 : decode cX8_signToken 282 = .ok (.goto 5, 3) := by decide +kernel
theorem dX8_signToken_285 : decode cX8_signToken 285 = .ok (.bipush 6, 2) := by decide +kernel
theorem dX8_signToken_287 : decode cX8_signToken 287 = .ok (.putfield 181, 3) := by decide +kernel
theorem dX8_signToken_290 : decode cX8_signToken 290 = .ok (.return_, 1) := by decide +kernel
def f_X8_thrown (h : Hp) : Option Int32 :=
  some (gI h 8 0 2)
abbrev rmX8_thrown : Room := { frames := 0, cells := 0, slots := 0, locals := 0 }
set_option maxRecDepth 100000 in
set_option maxHeartbeats 4000000 in
theorem w_X8_thrown (X : Cx) (F : Fx X cX8_thrown RX8 (some .int) rmX8_thrown) (hA : xA X = Aw (xG X)) (hL : xL X = 1) (h : Hp) : Wm X (fun v => some (.int v)) (fun _ => h) (fun _ => True) 0 [(0, .ref (adr (xG X) 8 0 0))] [] h (f_X8_thrown h) := by
  have hS : ∀ i : Nat, i < 1 → i < xL X := fun i z => by rw [hL]; exact z
  unfold f_X8_thrown
  refine r_aload_n F 0 rfl dX8_thrown_0 rfl ?_
  refine r_getI F frX8_163 (by decide) dX8_thrown_1 ?_
  exact r_iret F hA rfl rfl trivial dX8_thrown_4
theorem c_X8_thrown (G : Gx) (l : Launch) (h : Hp) : Ctr G l yX8_thrown (.code yX8_thrown cX8_thrown 1 (some .int) :: GT) rmX8_thrown [.ref (adr G 8 0 0)] h (f_X8_thrown h) (fun v => some (.int v)) (fun _ => h) (fun _ => True) :=
  ctr_of (by decide) (Nat.le_of_ble_eq_true rfl) ⟨rfl, rfl⟩ fun X _ e2 hA hL F => by subst e2; exact w_X8_thrown X F hA hL h
def f_X8_feed_23 (p1 : Int32) (p2 : Int32) (p3 : Int32) (p4 : Int32) (p5 : Int32) (r23 : Int32 → Hp → Option (Int32 × Hp)) (v2 : Int32) (h3 : Hp) : Option (Int32 × Hp) :=
  if 20 ≤ v2 then
    lt_ (sI h3 8 0 1 ((gI h3 8 0 1) + 20)) fun h4 =>
    some ((gI h4 8 0 1), h4)
  else
  jn (fun (v5 : Int32) =>
    grd (inb ((gI h3 8 0 1) + v2) 700) <| lt_ (sA h3 8 0 0 ((gI h3 8 0 1) + v2).toNatClampNeg ((v5 >>> ((24 - (8 * (v2 - v2 / 4 * 4))) &&& 31)) &&& 255)) fun h6 =>
    lt_ (v2 + 1) fun v7 =>
    r23 v7 h6) fun (j76 : Int32 → Option (Int32 × Hp)) =>
  if 4 ≤ v2 then
    if 8 ≤ v2 then
      if 12 ≤ v2 then
        if 16 ≤ v2 then
          j76 p5
        else
        j76 p4
      else
      j76 p3
    else
    j76 p2
  else
  j76 p1
def f_X8_feed (N : Nat) (h : Hp) (p1 : Int32) (p2 : Int32) (p3 : Int32) (p4 : Int32) (p5 : Int32) : Option (Int32 × Hp) :=
  lt_ (sI h 8 0 2 0) fun h1 =>
  if ((gI h1 8 0 1) + 20) ≤ 700 then
    iter (fun _ _ => none) (f_X8_feed_23 p1 p2 p3 p4 p5) N 0 h1
  else
  some ((-1), h1)
abbrev rmX8_feed : Room := { frames := 0, cells := 0, slots := 0, locals := 0 }
set_option maxRecDepth 100000 in
set_option maxHeartbeats 4000000 in
theorem w_X8_feed (X : Cx) (F : Fx X cX8_feed RX8 (some .int) rmX8_feed) (hA : xA X = Aw (xG X)) (hL : xL X = 8) (N : Nat) (h : Hp) (p1 : Int32) (p2 : Int32) (p3 : Int32) (p4 : Int32) (p5 : Int32) : Wm X (fun v => some (.int v.1)) (fun v => v.2) (fun _ => True) 0 [(0, .ref (adr (xG X) 8 0 0)), (1, .int p1), (2, .int p2), (3, .int p3), (4, .int p4), (5, .int p5)] [] h (f_X8_feed N h p1 p2 p3 p4 p5) := by
  have hS : ∀ i : Nat, i < 8 → i < xL X := fun i z => by rw [hL]; exact z
  unfold f_X8_feed
  refine r_aload_n F 0 rfl dX8_feed_0 rfl ?_
  refine r_iconst F (v := 0) dX8_feed_1 (by decide) ?_
  refine r_putI F frX8_163 (by decide) rfl rfl dX8_feed_2 fun h1 => ?_
  refine r_aload_n F 0 rfl dX8_feed_5 rfl ?_
  refine r_getI F frX8_166 (by decide) dX8_feed_6 ?_
  refine r_bipush F (v := 20) dX8_feed_9 (by decide) ?_
  refine r_iadd F dX8_feed_11 ?_
  refine r_sipush F (v := 700) dX8_feed_12 (by decide) ?_
  refine r_icmple F (tgt := 20) dX8_feed_15 (by decide) ?_ ?_
  · skip
    refine r_iconst F (v := 0) dX8_feed_20 (by decide) ?_
    refine r_istore F [(6, .int 0), (0, .ref (adr (xG X) 8 0 0)), (1, .int p1), (2, .int p2), (3, .int p3), (4, .int p4), (5, .int p5)] rfl dX8_feed_21 (hS _ (by decide)) ?_
    have hl23 : ∀ n : Nat, ∀ v2 : Int32, ∀ h3 : Hp, Wm X (fun v => some (.int v.1)) (fun v => v.2) (fun _ => True) 23 [(0, .ref (adr (xG X) 8 0 0)), (1, .int p1), (2, .int p2), (3, .int p3), (4, .int p4), (5, .int p5), (6, .int v2)] [] h3 (iter (fun _ _ => none) (f_X8_feed_23 p1 p2 p3 p4 p5) n v2 h3) := by
      intro n
      induction n with
      | zero => intro v2 h3; exact Wt_none
      | succ n ih =>
        revert ih
        show (∀ v2 : Int32, ∀ h3 : Hp, Wm X (fun v => some (.int v.1)) (fun v => v.2) (fun _ => True) 23 [(0, .ref (adr (xG X) 8 0 0)), (1, .int p1), (2, .int p2), (3, .int p3), (4, .int p4), (5, .int p5), (6, .int v2)] [] h3 (iter (fun _ _ => none) (f_X8_feed_23 p1 p2 p3 p4 p5) n v2 h3)) → _
        intro ih23 v2 h3
        show Wm X (fun v => some (.int v.1)) (fun v => v.2) (fun _ => True) 23 [(0, .ref (adr (xG X) 8 0 0)), (1, .int p1), (2, .int p2), (3, .int p3), (4, .int p4), (5, .int p5), (6, .int v2)] [] h3 (f_X8_feed_23 p1 p2 p3 p4 p5 (iter (fun _ _ => none) (f_X8_feed_23 p1 p2 p3 p4 p5) n) v2 h3)
        revert ih23
        generalize iter (fun _ _ => none) (f_X8_feed_23 p1 p2 p3 p4 p5) n = r23
        intro ih23
        unfold f_X8_feed_23
        refine r_iload F 6 rfl dX8_feed_23 ?_
        refine r_bipush F (v := 20) dX8_feed_25 (by decide) ?_
        refine r_icmpge F (tgt := 113) dX8_feed_27 (by decide) ?_ ?_
        · skip
          refine r_aload_n F 0 rfl dX8_feed_113 rfl ?_
          refine r_dup F rfl dX8_feed_114 ?_
          refine r_getI F frX8_166 (by decide) dX8_feed_115 ?_
          refine r_bipush F (v := 20) dX8_feed_118 (by decide) ?_
          refine r_iadd F dX8_feed_120 ?_
          refine r_putI F frX8_166 (by decide) rfl rfl dX8_feed_121 fun h4 => ?_
          refine r_aload_n F 0 rfl dX8_feed_124 rfl ?_
          refine r_getI F frX8_166 (by decide) dX8_feed_125 ?_
          exact r_iret F hA rfl rfl trivial dX8_feed_128
        refine r_iload F 6 rfl dX8_feed_30 ?_
        refine r_iconst F (v := 4) dX8_feed_32 (by decide) ?_
        refine Wt_jn (fun (j76 : Int32 → Option (Int32 × Hp)) => ∀ v5 : Int32, Wm X (fun v => some (.int v.1)) (fun v => v.2) (fun _ => True) 76 [(0, .ref (adr (xG X) 8 0 0)), (1, .int p1), (2, .int p2), (3, .int p3), (4, .int p4), (5, .int p5), (6, .int v2)] [.int v5] h3 (j76 v5)) ?_ fun j76 hj76 => ?_
        · intro v5
          refine r_istore F [(7, .int v5), (0, .ref (adr (xG X) 8 0 0)), (1, .int p1), (2, .int p2), (3, .int p3), (4, .int p4), (5, .int p5), (6, .int v2)] rfl dX8_feed_76 (hS _ (by decide)) ?_
          refine r_aload_n F 1 rfl dX8_feed_78 rfl ?_
          refine r_getA F frX8_7 (by decide) dX8_feed_79 ?_
          refine r_aload_n F 1 rfl dX8_feed_82 rfl ?_
          refine r_getI F frX8_166 (by decide) dX8_feed_83 ?_
          refine r_iload F 7 rfl dX8_feed_86 ?_
          refine r_iadd F dX8_feed_88 ?_
          refine r_iload F 0 rfl dX8_feed_89 ?_
          refine r_bipush F (v := 24) dX8_feed_91 (by decide) ?_
          refine r_bipush F (v := 8) dX8_feed_93 (by decide) ?_
          refine r_iload F 7 rfl dX8_feed_95 ?_
          refine r_iconst F (v := 4) dX8_feed_97 (by decide) ?_
          refine r_iremc F (by decide) dX8_feed_98 ?_
          refine r_imul F dX8_feed_99 ?_
          refine r_isub F dX8_feed_100 ?_
          refine r_ishr F dX8_feed_101 ?_
          refine r_sipush F (v := 255) dX8_feed_102 (by decide) ?_
          refine r_iand F dX8_feed_105 ?_
          refine r_iastore F (ar_8_0 0 (by decide)) dX8_feed_106 fun h6 => ?_
          refine r_iinc F (v := 1) 7 rfl (by decide) (fun v7 => [(6, .int v7), (7, .int v5), (0, .ref (adr (xG X) 8 0 0)), (1, .int p1), (2, .int p2), (3, .int p3), (4, .int p4), (5, .int p5)]) (fun _ => rfl) dX8_feed_107 (hS _ (by decide)) fun v7 => ?_
          refine r_goto F (tgt := 23) dX8_feed_110 (by decide) ?_
          exact Wt_pick [2, 3, 4, 5, 6, 7, 0] rfl (ih23 v7 h6)
        refine r_icmpge F (tgt := 40) dX8_feed_33 (by decide) ?_ ?_
        · skip
          refine r_iload F 6 rfl dX8_feed_40 ?_
          refine r_bipush F (v := 8) dX8_feed_42 (by decide) ?_
          refine r_icmpge F (tgt := 51) dX8_feed_44 (by decide) ?_ ?_
          · skip
            refine r_iload F 6 rfl dX8_feed_51 ?_
            refine r_bipush F (v := 12) dX8_feed_53 (by decide) ?_
            refine r_icmpge F (tgt := 62) dX8_feed_55 (by decide) ?_ ?_
            · skip
              refine r_iload F 6 rfl dX8_feed_62 ?_
              refine r_bipush F (v := 16) dX8_feed_64 (by decide) ?_
              refine r_icmpge F (tgt := 74) dX8_feed_66 (by decide) ?_ ?_
              · skip
                refine r_iload F 5 rfl dX8_feed_74 ?_
                exact Wt_pick [0, 1, 2, 3, 4, 5, 6] rfl (hj76 p5)
              refine r_iload F 4 rfl dX8_feed_69 ?_
              refine r_goto F (tgt := 76) dX8_feed_71 (by decide) ?_
              exact Wt_pick [0, 1, 2, 3, 4, 5, 6] rfl (hj76 p4)
            refine r_iload_n F 3 rfl dX8_feed_58 rfl ?_
            refine r_goto F (tgt := 76) dX8_feed_59 (by decide) ?_
            exact Wt_pick [0, 1, 2, 3, 4, 5, 6] rfl (hj76 p3)
          refine r_iload_n F 2 rfl dX8_feed_47 rfl ?_
          refine r_goto F (tgt := 76) dX8_feed_48 (by decide) ?_
          exact Wt_pick [0, 1, 2, 3, 4, 5, 6] rfl (hj76 p2)
        refine r_iload_n F 1 rfl dX8_feed_36 rfl ?_
        refine r_goto F (tgt := 76) dX8_feed_37 (by decide) ?_
        exact Wt_pick [0, 1, 2, 3, 4, 5, 6] rfl (hj76 p1)
    exact Wt_pick [1, 2, 3, 4, 5, 6, 0] rfl (hl23 N 0 h1)
  refine r_iconst F (v := (-1)) dX8_feed_18 (by decide) ?_
  exact r_iret F hA rfl rfl trivial dX8_feed_19
theorem c_X8_feed (G : Gx) (l : Launch) (N : Nat) (h : Hp) (p1 : Int32) (p2 : Int32) (p3 : Int32) (p4 : Int32) (p5 : Int32) : Ctr G l yX8_feed (.code yX8_feed cX8_feed 8 (some .int) :: GT) rmX8_feed [.ref (adr G 8 0 0), .int p1, .int p2, .int p3, .int p4, .int p5] h (f_X8_feed N h p1 p2 p3 p4 p5) (fun v => some (.int v.1)) (fun v => v.2) (fun _ => True) :=
  ctr_of (by decide) (Nat.le_of_ble_eq_true rfl) ⟨rfl, rfl⟩ fun X _ e2 hA hL F => by subst e2; exact w_X8_feed X F hA hL N h p1 p2 p3 p4 p5
def f_X8_isIn (p0 : Int32) (p1 : Int32) (p2 : Int32) : Option Bool :=
  jn (fun (v1 : Bool) =>
    some v1) fun (j15 : Bool → Option Bool) =>
  jn (
    j15 false) fun (j14 : Option Bool) =>
  if p0 < p1 then
    j14
  else
  if p2 < p0 then
    j14
  else
  j15 true
abbrev rmX8_isIn : Room := { frames := 0, cells := 0, slots := 0, locals := 0 }
set_option maxRecDepth 100000 in
set_option maxHeartbeats 4000000 in
theorem w_X8_isIn (X : Cx) (F : Fx X cX8_isIn RX8 (some .boolean) rmX8_isIn) (hA : xA X = Aw (xG X)) (hL : xL X = 3) (h : Hp) (p0 : Int32) (p1 : Int32) (p2 : Int32) : Wm X (fun v => some (.int (b2i v))) (fun _ => h) (fun _ => True) 0 [(0, .int p0), (1, .int p1), (2, .int p2)] [] h (f_X8_isIn p0 p1 p2) := by
  have hS : ∀ i : Nat, i < 3 → i < xL X := fun i z => by rw [hL]; exact z
  unfold f_X8_isIn
  refine r_iload_n F 0 rfl dX8_isIn_0 rfl ?_
  refine r_iload_n F 1 rfl dX8_isIn_1 rfl ?_
  refine Wt_jn (fun (j15 : Bool → Option Bool) => ∀ v1 : Bool, Wm X (fun v => some (.int (b2i v))) (fun _ => h) (fun _ => True) 15 [] [.int (b2i v1)] h (j15 v1)) ?_ fun j15 hj15 => ?_
  · intro v1
    exact r_zret F hA v1 rfl rfl rfl trivial dX8_isIn_15
  refine Wt_jn (fun (j14 : Option Bool) => Wm X (fun v => some (.int (b2i v))) (fun _ => h) (fun _ => True) 14 [] [] h (j14)) ?_ fun j14 hj14 => ?_
  · skip
    refine r_iconst F (v := 0) dX8_isIn_14 (by decide) ?_
    exact Wt_pick [] rfl (hj15 false)
  refine r_icmplt F (tgt := 14) dX8_isIn_2 (by decide) ?_ ?_
  · skip
    exact Wt_pick [] rfl (hj14)
  refine r_iload_n F 0 rfl dX8_isIn_5 rfl ?_
  refine r_iload_n F 2 rfl dX8_isIn_6 rfl ?_
  refine r_icmpgt F (tgt := 14) dX8_isIn_7 (by decide) ?_ ?_
  · skip
    exact Wt_pick [] rfl (hj14)
  refine r_iconst F (v := 1) dX8_isIn_10 (by decide) ?_
  refine r_goto F (tgt := 15) dX8_isIn_11 (by decide) ?_
  exact Wt_pick [] rfl (hj15 true)
theorem c_X8_isIn (G : Gx) (l : Launch) (h : Hp) (p0 : Int32) (p1 : Int32) (p2 : Int32) : Ctr G l yX8_isIn (.code yX8_isIn cX8_isIn 3 (some .boolean) :: GT) rmX8_isIn [.int p0, .int p1, .int p2] h (f_X8_isIn p0 p1 p2) (fun v => some (.int (b2i v))) (fun _ => h) (fun _ => True) :=
  ctr_of (by decide) (Nat.le_of_ble_eq_true rfl) ⟨rfl, rfl⟩ fun X _ e2 hA hL F => by subst e2; exact w_X8_isIn X F hA hL h p0 p1 p2
def f_X8_wrong (h : Hp) (p1 : Int32) : Option (Bool × Hp) :=
  lt_ (sI h 8 0 4 p1) fun h1 =>
  lt_ (sI h1 8 0 5 (gI h1 8 0 10)) fun h2 =>
  some (false, h2)
abbrev rmX8_wrong : Room := { frames := 0, cells := 0, slots := 0, locals := 0 }
set_option maxRecDepth 100000 in
set_option maxHeartbeats 4000000 in
theorem w_X8_wrong (X : Cx) (F : Fx X cX8_wrong RX8 (some .boolean) rmX8_wrong) (hA : xA X = Aw (xG X)) (hL : xL X = 2) (h : Hp) (p1 : Int32) : Wm X (fun v => some (.int (b2i v.1))) (fun v => v.2) (fun _ => True) 0 [(0, .ref (adr (xG X) 8 0 0)), (1, .int p1)] [] h (f_X8_wrong h p1) := by
  have hS : ∀ i : Nat, i < 2 → i < xL X := fun i z => by rw [hL]; exact z
  unfold f_X8_wrong
  refine r_aload_n F 0 rfl dX8_wrong_0 rfl ?_
  refine r_iload_n F 1 rfl dX8_wrong_1 rfl ?_
  refine r_putI F frX8_169 (by decide) rfl rfl dX8_wrong_2 fun h1 => ?_
  refine r_aload_n F 0 rfl dX8_wrong_5 rfl ?_
  refine r_aload_n F 0 rfl dX8_wrong_6 rfl ?_
  refine r_getI F frX8_172 (by decide) dX8_wrong_7 ?_
  refine r_putI F frX8_16 (by decide) rfl rfl dX8_wrong_10 fun h2 => ?_
  refine r_iconst F (v := 0) dX8_wrong_13 (by decide) ?_
  exact r_zret F hA false rfl rfl rfl trivial dX8_wrong_14
theorem c_X8_wrong (G : Gx) (l : Launch) (h : Hp) (p1 : Int32) : Ctr G l yX8_wrong (.code yX8_wrong cX8_wrong 2 (some .boolean) :: GT) rmX8_wrong [.ref (adr G 8 0 0), .int p1] h (f_X8_wrong h p1) (fun v => some (.int (b2i v.1))) (fun v => v.2) (fun _ => True) :=
  ctr_of (by decide) (Nat.le_of_ble_eq_true rfl) ⟨rfl, rfl⟩ fun X _ e2 hA hL F => by subst e2; exact w_X8_wrong X F hA hL h p1
def f_X8_wordAt_57 (h : Hp) (p1 : Int32) (r5 : Int32 → Int32 → Option Int32) (v1 : Int32) (v2 : Int32) (v3 : Int32) (r57 : Bool → Int32 → Option Int32) (v5 : Bool) (v6 : Int32) : Option Int32 :=
  jn (
    if (b2i v5) = 0 then
      lt_ ((v2 + (v3 + 1))) fun v7 =>
      lt_ (v1 + 1) fun v8 =>
      r5 v8 v7
    else
    some v1) fun (j104 : Option Int32) =>
  if v3 ≤ v6 then
    j104
  else
  if (b2i v5) = 0 then
    j104
  else
  grd (inb (v2 + v6) 131) <|
  grd (inb (p1 + v6) 700) <|
  jn (fun (v9 : Bool) =>
    lt_ (v6 + 1) fun v10 =>
    r57 v9 v10) fun (j96 : Bool → Option Int32) =>
  if ¬ (gA h 8 0 1 (v2 + v6).toNatClampNeg) = (gA h 8 0 0 (p1 + v6).toNatClampNeg) then
    j96 false
  else
  j96 true
def f_X8_wordAt_18 (N : Nat) (h : Hp) (p1 : Int32) (p2 : Int32) (r5 : Int32 → Int32 → Option Int32) (v1 : Int32) (v2 : Int32) (r18 : Int32 → Option Int32) (v3 : Int32) : Option Int32 :=
  grd (inb (v2 + v3) 131) <|
  if (gA h 8 0 1 (v2 + v3).toNatClampNeg) = 32 then
    jn (fun (v4 : Bool) =>
      iter (fun _ _ => none) (f_X8_wordAt_57 h p1 r5 v1 v2 v3) N v4 0) fun (j52 : Bool → Option Int32) =>
    if ¬ v3 = (p2 - p1) then
      j52 false
    else
    j52 true
  else
  lt_ (v3 + 1) fun v11 =>
  r18 v11
def f_X8_wordAt_5 (N : Nat) (h : Hp) (p1 : Int32) (p2 : Int32) (r5 : Int32 → Int32 → Option Int32) (v1 : Int32) (v2 : Int32) : Option Int32 :=
  if 131 ≤ v2 then
    some (-1)
  else
  iter (fun _ => none) (f_X8_wordAt_18 N h p1 p2 r5 v1 v2) N 0
def f_X8_wordAt (N : Nat) (h : Hp) (p1 : Int32) (p2 : Int32) : Option Int32 :=
  iter (fun _ _ => none) (f_X8_wordAt_5 N h p1 p2) N 0 0
abbrev rmX8_wordAt : Room := { frames := 0, cells := 0, slots := 0, locals := 0 }
set_option maxRecDepth 100000 in
set_option maxHeartbeats 4000000 in
theorem w_X8_wordAt (X : Cx) (F : Fx X cX8_wordAt RX8 (some .int) rmX8_wordAt) (hA : xA X = Aw (xG X)) (hL : xL X = 8) (N : Nat) (h : Hp) (p1 : Int32) (p2 : Int32) : Wm X (fun v => some (.int v)) (fun _ => h) (fun _ => True) 0 [(0, .ref (adr (xG X) 8 0 0)), (1, .int p1), (2, .int p2)] [] h (f_X8_wordAt N h p1 p2) := by
  have hS : ∀ i : Nat, i < 8 → i < xL X := fun i z => by rw [hL]; exact z
  unfold f_X8_wordAt
  refine r_iconst F (v := 0) dX8_wordAt_0 (by decide) ?_
  refine r_istore_n F [(3, .int 0), (0, .ref (adr (xG X) 8 0 0)), (1, .int p1), (2, .int p2)] rfl dX8_wordAt_1 rfl (hS _ (by decide)) ?_
  refine r_iconst F (v := 0) dX8_wordAt_2 (by decide) ?_
  refine r_istore F [(4, .int 0), (3, .int 0), (0, .ref (adr (xG X) 8 0 0)), (1, .int p1), (2, .int p2)] rfl dX8_wordAt_3 (hS _ (by decide)) ?_
  have hl5 : ∀ n : Nat, ∀ v1 : Int32, ∀ v2 : Int32, Wm X (fun v => some (.int v)) (fun _ => h) (fun _ => True) 5 [(0, .ref (adr (xG X) 8 0 0)), (1, .int p1), (2, .int p2), (3, .int v1), (4, .int v2)] [] h (iter (fun _ _ => none) (f_X8_wordAt_5 N h p1 p2) n v1 v2) := by
    intro n
    induction n with
    | zero => intro v1 v2; exact Wt_none
    | succ n ih =>
      revert ih
      show (∀ v1 : Int32, ∀ v2 : Int32, Wm X (fun v => some (.int v)) (fun _ => h) (fun _ => True) 5 [(0, .ref (adr (xG X) 8 0 0)), (1, .int p1), (2, .int p2), (3, .int v1), (4, .int v2)] [] h (iter (fun _ _ => none) (f_X8_wordAt_5 N h p1 p2) n v1 v2)) → _
      intro ih5 v1 v2
      show Wm X (fun v => some (.int v)) (fun _ => h) (fun _ => True) 5 [(0, .ref (adr (xG X) 8 0 0)), (1, .int p1), (2, .int p2), (3, .int v1), (4, .int v2)] [] h (f_X8_wordAt_5 N h p1 p2 (iter (fun _ _ => none) (f_X8_wordAt_5 N h p1 p2) n) v1 v2)
      revert ih5
      generalize iter (fun _ _ => none) (f_X8_wordAt_5 N h p1 p2) n = r5
      intro ih5
      unfold f_X8_wordAt_5
      refine r_iload F 4 rfl dX8_wordAt_5 ?_
      refine r_aload_n F 0 rfl dX8_wordAt_7 rfl ?_
      refine r_getA F frX8_13 (by decide) dX8_wordAt_8 ?_
      refine r_alen0 F (v := 131) (ar_8_1 0 (by decide)) (by decide) dX8_wordAt_11 ?_
      refine r_icmpge F (tgt := 126) dX8_wordAt_12 (by decide) ?_ ?_
      · skip
        refine r_iconst F (v := (-1)) dX8_wordAt_126 (by decide) ?_
        exact r_iret F hA rfl rfl trivial dX8_wordAt_127
      refine r_iconst F (v := 0) dX8_wordAt_15 (by decide) ?_
      refine r_istore F [(5, .int 0), (0, .ref (adr (xG X) 8 0 0)), (1, .int p1), (2, .int p2), (3, .int v1), (4, .int v2)] rfl dX8_wordAt_16 (hS _ (by decide)) ?_
      have hl18 : ∀ n : Nat, ∀ v3 : Int32, Wm X (fun v => some (.int v)) (fun _ => h) (fun _ => True) 18 [(0, .ref (adr (xG X) 8 0 0)), (1, .int p1), (2, .int p2), (3, .int v1), (4, .int v2), (5, .int v3)] [] h (iter (fun _ => none) (f_X8_wordAt_18 N h p1 p2 r5 v1 v2) n v3) := by
        intro n
        induction n with
        | zero => intro v3; exact Wt_none
        | succ n ih =>
          revert ih
          show (∀ v3 : Int32, Wm X (fun v => some (.int v)) (fun _ => h) (fun _ => True) 18 [(0, .ref (adr (xG X) 8 0 0)), (1, .int p1), (2, .int p2), (3, .int v1), (4, .int v2), (5, .int v3)] [] h (iter (fun _ => none) (f_X8_wordAt_18 N h p1 p2 r5 v1 v2) n v3)) → _
          intro ih18 v3
          show Wm X (fun v => some (.int v)) (fun _ => h) (fun _ => True) 18 [(0, .ref (adr (xG X) 8 0 0)), (1, .int p1), (2, .int p2), (3, .int v1), (4, .int v2), (5, .int v3)] [] h (f_X8_wordAt_18 N h p1 p2 r5 v1 v2 (iter (fun _ => none) (f_X8_wordAt_18 N h p1 p2 r5 v1 v2) n) v3)
          revert ih18
          generalize iter (fun _ => none) (f_X8_wordAt_18 N h p1 p2 r5 v1 v2) n = r18
          intro ih18
          unfold f_X8_wordAt_18
          refine r_aload_n F 0 rfl dX8_wordAt_18 rfl ?_
          refine r_getA F frX8_13 (by decide) dX8_wordAt_19 ?_
          refine r_iload F 4 rfl dX8_wordAt_22 ?_
          refine r_iload F 5 rfl dX8_wordAt_24 ?_
          refine r_iadd F dX8_wordAt_26 ?_
          refine r_iaload F (ar_8_1 0 (by decide)) dX8_wordAt_27 ?_
          refine r_bipush F (v := 32) dX8_wordAt_28 (by decide) ?_
          refine r_icmpeq F (tgt := 39) dX8_wordAt_30 (by decide) ?_ ?_
          · skip
            refine r_iload F 5 rfl dX8_wordAt_39 ?_
            refine r_iload_n F 2 rfl dX8_wordAt_41 rfl ?_
            refine r_iload_n F 1 rfl dX8_wordAt_42 rfl ?_
            refine r_isub F dX8_wordAt_43 ?_
            refine Wt_jn (fun (j52 : Bool → Option Int32) => ∀ v4 : Bool, Wm X (fun v => some (.int v)) (fun _ => h) (fun _ => True) 52 [(0, .ref (adr (xG X) 8 0 0)), (1, .int p1), (2, .int p2), (3, .int v1), (4, .int v2), (5, .int v3)] [.int (b2i v4)] h (j52 v4)) ?_ fun j52 hj52 => ?_
            · intro v4
              refine r_istore F [(6, .int (b2i v4)), (0, .ref (adr (xG X) 8 0 0)), (1, .int p1), (2, .int p2), (3, .int v1), (4, .int v2), (5, .int v3)] rfl dX8_wordAt_52 (hS _ (by decide)) ?_
              refine r_iconst F (v := 0) dX8_wordAt_54 (by decide) ?_
              refine r_istore F [(7, .int 0), (6, .int (b2i v4)), (0, .ref (adr (xG X) 8 0 0)), (1, .int p1), (2, .int p2), (3, .int v1), (4, .int v2), (5, .int v3)] rfl dX8_wordAt_55 (hS _ (by decide)) ?_
              have hl57 : ∀ n : Nat, ∀ v5 : Bool, ∀ v6 : Int32, Wm X (fun v => some (.int v)) (fun _ => h) (fun _ => True) 57 [(0, .ref (adr (xG X) 8 0 0)), (1, .int p1), (2, .int p2), (3, .int v1), (4, .int v2), (5, .int v3), (6, .int (b2i v5)), (7, .int v6)] [] h (iter (fun _ _ => none) (f_X8_wordAt_57 h p1 r5 v1 v2 v3) n v5 v6) := by
                intro n
                induction n with
                | zero => intro v5 v6; exact Wt_none
                | succ n ih =>
                  revert ih
                  show (∀ v5 : Bool, ∀ v6 : Int32, Wm X (fun v => some (.int v)) (fun _ => h) (fun _ => True) 57 [(0, .ref (adr (xG X) 8 0 0)), (1, .int p1), (2, .int p2), (3, .int v1), (4, .int v2), (5, .int v3), (6, .int (b2i v5)), (7, .int v6)] [] h (iter (fun _ _ => none) (f_X8_wordAt_57 h p1 r5 v1 v2 v3) n v5 v6)) → _
                  intro ih57 v5 v6
                  show Wm X (fun v => some (.int v)) (fun _ => h) (fun _ => True) 57 [(0, .ref (adr (xG X) 8 0 0)), (1, .int p1), (2, .int p2), (3, .int v1), (4, .int v2), (5, .int v3), (6, .int (b2i v5)), (7, .int v6)] [] h (f_X8_wordAt_57 h p1 r5 v1 v2 v3 (iter (fun _ _ => none) (f_X8_wordAt_57 h p1 r5 v1 v2 v3) n) v5 v6)
                  revert ih57
                  generalize iter (fun _ _ => none) (f_X8_wordAt_57 h p1 r5 v1 v2 v3) n = r57
                  intro ih57
                  unfold f_X8_wordAt_57
                  refine r_iload F 7 rfl dX8_wordAt_57 ?_
                  refine r_iload F 5 rfl dX8_wordAt_59 ?_
                  refine Wt_jn (fun (j104 : Option Int32) => Wm X (fun v => some (.int v)) (fun _ => h) (fun _ => True) 104 [(0, .ref (adr (xG X) 8 0 0)), (1, .int p1), (2, .int p2), (3, .int v1), (4, .int v2), (5, .int v3), (6, .int (b2i v5))] [] h (j104)) ?_ fun j104 hj104 => ?_
                  · skip
                    refine r_iload F 6 rfl dX8_wordAt_104 ?_
                    refine r_ifeq F (tgt := 111) dX8_wordAt_106 (by decide) ?_ ?_
                    · skip
                      refine r_iload F 4 rfl dX8_wordAt_111 ?_
                      refine r_iload F 5 rfl dX8_wordAt_113 ?_
                      refine r_iconst F (v := 1) dX8_wordAt_115 (by decide) ?_
                      refine r_iadd F dX8_wordAt_116 ?_
                      refine r_iadd F dX8_wordAt_117 ?_
                      refine r_nmI fun v7 => ?_
                      refine r_istore F [(4, .int v7), (0, .ref (adr (xG X) 8 0 0)), (1, .int p1), (2, .int p2), (3, .int v1), (5, .int v3), (6, .int (b2i v5))] rfl dX8_wordAt_118 (hS _ (by decide)) ?_
                      refine r_iinc F (v := 1) 4 rfl (by decide) (fun v8 => [(3, .int v8), (4, .int v7), (0, .ref (adr (xG X) 8 0 0)), (1, .int p1), (2, .int p2), (5, .int v3), (6, .int (b2i v5))]) (fun _ => rfl) dX8_wordAt_120 (hS _ (by decide)) fun v8 => ?_
                      refine r_goto F (tgt := 5) dX8_wordAt_123 (by decide) ?_
                      exact Wt_pick [2, 3, 4, 0, 1] rfl (ih5 v8 v7)
                    refine r_iload_n F 3 rfl dX8_wordAt_109 rfl ?_
                    exact r_iret F hA rfl rfl trivial dX8_wordAt_110
                  refine r_icmpge F (tgt := 104) dX8_wordAt_61 (by decide) ?_ ?_
                  · skip
                    exact Wt_pick [0, 1, 2, 3, 4, 5, 6] rfl (hj104)
                  refine r_iload F 6 rfl dX8_wordAt_64 ?_
                  refine r_ifeq F (tgt := 104) dX8_wordAt_66 (by decide) ?_ ?_
                  · skip
                    exact Wt_pick [0, 1, 2, 3, 4, 5, 6] rfl (hj104)
                  refine r_aload_n F 0 rfl dX8_wordAt_69 rfl ?_
                  refine r_getA F frX8_13 (by decide) dX8_wordAt_70 ?_
                  refine r_iload F 4 rfl dX8_wordAt_73 ?_
                  refine r_iload F 7 rfl dX8_wordAt_75 ?_
                  refine r_iadd F dX8_wordAt_77 ?_
                  refine r_iaload F (ar_8_1 0 (by decide)) dX8_wordAt_78 ?_
                  refine r_aload_n F 0 rfl dX8_wordAt_79 rfl ?_
                  refine r_getA F frX8_7 (by decide) dX8_wordAt_80 ?_
                  refine r_iload_n F 1 rfl dX8_wordAt_83 rfl ?_
                  refine r_iload F 7 rfl dX8_wordAt_84 ?_
                  refine r_iadd F dX8_wordAt_86 ?_
                  refine r_iaload F (ar_8_0 0 (by decide)) dX8_wordAt_87 ?_
                  refine Wt_jn (fun (j96 : Bool → Option Int32) => ∀ v9 : Bool, Wm X (fun v => some (.int v)) (fun _ => h) (fun _ => True) 96 [(0, .ref (adr (xG X) 8 0 0)), (1, .int p1), (2, .int p2), (3, .int v1), (4, .int v2), (5, .int v3), (7, .int v6)] [.int (b2i v9)] h (j96 v9)) ?_ fun j96 hj96 => ?_
                  · intro v9
                    refine r_istore F [(6, .int (b2i v9)), (0, .ref (adr (xG X) 8 0 0)), (1, .int p1), (2, .int p2), (3, .int v1), (4, .int v2), (5, .int v3), (7, .int v6)] rfl dX8_wordAt_96 (hS _ (by decide)) ?_
                    refine r_iinc F (v := 1) 7 rfl (by decide) (fun v10 => [(7, .int v10), (6, .int (b2i v9)), (0, .ref (adr (xG X) 8 0 0)), (1, .int p1), (2, .int p2), (3, .int v1), (4, .int v2), (5, .int v3)]) (fun _ => rfl) dX8_wordAt_98 (hS _ (by decide)) fun v10 => ?_
                    refine r_goto F (tgt := 57) dX8_wordAt_101 (by decide) ?_
                    exact Wt_pick [2, 3, 4, 5, 6, 7, 1, 0] rfl (ih57 v9 v10)
                  refine r_icmpne F (tgt := 95) dX8_wordAt_88 (by decide) ?_ ?_
                  · skip
                    refine r_iconst F (v := 0) dX8_wordAt_95 (by decide) ?_
                    exact Wt_pick [0, 1, 2, 3, 4, 5, 7] rfl (hj96 false)
                  refine r_iconst F (v := 1) dX8_wordAt_91 (by decide) ?_
                  refine r_goto F (tgt := 96) dX8_wordAt_92 (by decide) ?_
                  exact Wt_pick [0, 1, 2, 3, 4, 5, 7] rfl (hj96 true)
              exact Wt_pick [2, 3, 4, 5, 6, 7, 1, 0] rfl (hl57 N v4 0)
            refine r_icmpne F (tgt := 51) dX8_wordAt_44 (by decide) ?_ ?_
            · skip
              refine r_iconst F (v := 0) dX8_wordAt_51 (by decide) ?_
              exact Wt_pick [0, 1, 2, 3, 4, 5] rfl (hj52 false)
            refine r_iconst F (v := 1) dX8_wordAt_47 (by decide) ?_
            refine r_goto F (tgt := 52) dX8_wordAt_48 (by decide) ?_
            exact Wt_pick [0, 1, 2, 3, 4, 5] rfl (hj52 true)
          refine r_iinc F (v := 1) 5 rfl (by decide) (fun v11 => [(5, .int v11), (0, .ref (adr (xG X) 8 0 0)), (1, .int p1), (2, .int p2), (3, .int v1), (4, .int v2)]) (fun _ => rfl) dX8_wordAt_33 (hS _ (by decide)) fun v11 => ?_
          refine r_goto F (tgt := 18) dX8_wordAt_36 (by decide) ?_
          exact Wt_pick [1, 2, 3, 4, 5, 0] rfl (ih18 v11)
      exact Wt_pick [1, 2, 3, 4, 5, 0] rfl (hl18 N 0)
  exact Wt_pick [2, 3, 4, 1, 0] rfl (hl5 N 0 0)
theorem c_X8_wordAt (G : Gx) (l : Launch) (N : Nat) (h : Hp) (p1 : Int32) (p2 : Int32) : Ctr G l yX8_wordAt (.code yX8_wordAt cX8_wordAt 8 (some .int) :: GT) rmX8_wordAt [.ref (adr G 8 0 0), .int p1, .int p2] h (f_X8_wordAt N h p1 p2) (fun v => some (.int v)) (fun _ => h) (fun _ => True) :=
  ctr_of (by decide) (Nat.le_of_ble_eq_true rfl) ⟨rfl, rfl⟩ fun X _ e2 hA hL F => by subst e2; exact w_X8_wordAt X F hA hL N h p1 p2
def f_X8_isSmall (h : Hp) (p1 : Int32) : Option Bool :=
  jn (fun (v1 : Bool) =>
    some v1) fun (j35 : Bool → Option Bool) =>
  jn (
    j35 false) fun (j34 : Option Bool) =>
  if (gI h 8 0 6) ≤ p1 then
    j34
  else
  grd (inb p1 700) <|
  if (gA h 8 0 0 p1.toNatClampNeg) < 97 then
    j34
  else
  grd (inb p1 700) <|
  if 122 < (gA h 8 0 0 p1.toNatClampNeg) then
    j34
  else
  j35 true
abbrev rmX8_isSmall : Room := { frames := 0, cells := 0, slots := 0, locals := 0 }
set_option maxRecDepth 100000 in
set_option maxHeartbeats 4000000 in
theorem w_X8_isSmall (X : Cx) (F : Fx X cX8_isSmall RX8 (some .boolean) rmX8_isSmall) (hA : xA X = Aw (xG X)) (hL : xL X = 2) (h : Hp) (p1 : Int32) : Wm X (fun v => some (.int (b2i v))) (fun _ => h) (fun _ => True) 0 [(0, .ref (adr (xG X) 8 0 0)), (1, .int p1)] [] h (f_X8_isSmall h p1) := by
  have hS : ∀ i : Nat, i < 2 → i < xL X := fun i z => by rw [hL]; exact z
  unfold f_X8_isSmall
  refine r_iload_n F 1 rfl dX8_isSmall_0 rfl ?_
  refine r_aload_n F 0 rfl dX8_isSmall_1 rfl ?_
  refine r_getI F frX8_175 (by decide) dX8_isSmall_2 ?_
  refine Wt_jn (fun (j35 : Bool → Option Bool) => ∀ v1 : Bool, Wm X (fun v => some (.int (b2i v))) (fun _ => h) (fun _ => True) 35 [] [.int (b2i v1)] h (j35 v1)) ?_ fun j35 hj35 => ?_
  · intro v1
    exact r_zret F hA v1 rfl rfl rfl trivial dX8_isSmall_35
  refine Wt_jn (fun (j34 : Option Bool) => Wm X (fun v => some (.int (b2i v))) (fun _ => h) (fun _ => True) 34 [] [] h (j34)) ?_ fun j34 hj34 => ?_
  · skip
    refine r_iconst F (v := 0) dX8_isSmall_34 (by decide) ?_
    exact Wt_pick [] rfl (hj35 false)
  refine r_icmpge F (tgt := 34) dX8_isSmall_5 (by decide) ?_ ?_
  · skip
    exact Wt_pick [] rfl (hj34)
  refine r_aload_n F 0 rfl dX8_isSmall_8 rfl ?_
  refine r_getA F frX8_7 (by decide) dX8_isSmall_9 ?_
  refine r_iload_n F 1 rfl dX8_isSmall_12 rfl ?_
  refine r_iaload F (ar_8_0 0 (by decide)) dX8_isSmall_13 ?_
  refine r_bipush F (v := 97) dX8_isSmall_14 (by decide) ?_
  refine r_icmplt F (tgt := 34) dX8_isSmall_16 (by decide) ?_ ?_
  · skip
    exact Wt_pick [] rfl (hj34)
  refine r_aload_n F 0 rfl dX8_isSmall_19 rfl ?_
  refine r_getA F frX8_7 (by decide) dX8_isSmall_20 ?_
  refine r_iload_n F 1 rfl dX8_isSmall_23 rfl ?_
  refine r_iaload F (ar_8_0 0 (by decide)) dX8_isSmall_24 ?_
  refine r_bipush F (v := 122) dX8_isSmall_25 (by decide) ?_
  refine r_icmpgt F (tgt := 34) dX8_isSmall_27 (by decide) ?_ ?_
  · skip
    exact Wt_pick [] rfl (hj34)
  refine r_iconst F (v := 1) dX8_isSmall_30 (by decide) ?_
  refine r_goto F (tgt := 35) dX8_isSmall_31 (by decide) ?_
  exact Wt_pick [] rfl (hj35 true)
theorem c_X8_isSmall (G : Gx) (l : Launch) (h : Hp) (p1 : Int32) : Ctr G l yX8_isSmall (.code yX8_isSmall cX8_isSmall 2 (some .boolean) :: GT) rmX8_isSmall [.ref (adr G 8 0 0), .int p1] h (f_X8_isSmall h p1) (fun v => some (.int (b2i v))) (fun _ => h) (fun _ => True) :=
  ctr_of (by decide) (Nat.le_of_ble_eq_true rfl) ⟨rfl, rfl⟩ fun X _ e2 hA hL F => by subst e2; exact w_X8_isSmall X F hA hL h p1
def f_X8_isDigit (h : Hp) (p1 : Int32) : Option Bool :=
  jn (fun (v1 : Bool) =>
    some v1) fun (j35 : Bool → Option Bool) =>
  jn (
    j35 false) fun (j34 : Option Bool) =>
  if (gI h 8 0 6) ≤ p1 then
    j34
  else
  grd (inb p1 700) <|
  if (gA h 8 0 0 p1.toNatClampNeg) < 48 then
    j34
  else
  grd (inb p1 700) <|
  if 57 < (gA h 8 0 0 p1.toNatClampNeg) then
    j34
  else
  j35 true
abbrev rmX8_isDigit : Room := { frames := 0, cells := 0, slots := 0, locals := 0 }
set_option maxRecDepth 100000 in
set_option maxHeartbeats 4000000 in
theorem w_X8_isDigit (X : Cx) (F : Fx X cX8_isDigit RX8 (some .boolean) rmX8_isDigit) (hA : xA X = Aw (xG X)) (hL : xL X = 2) (h : Hp) (p1 : Int32) : Wm X (fun v => some (.int (b2i v))) (fun _ => h) (fun _ => True) 0 [(0, .ref (adr (xG X) 8 0 0)), (1, .int p1)] [] h (f_X8_isDigit h p1) := by
  have hS : ∀ i : Nat, i < 2 → i < xL X := fun i z => by rw [hL]; exact z
  unfold f_X8_isDigit
  refine r_iload_n F 1 rfl dX8_isDigit_0 rfl ?_
  refine r_aload_n F 0 rfl dX8_isDigit_1 rfl ?_
  refine r_getI F frX8_175 (by decide) dX8_isDigit_2 ?_
  refine Wt_jn (fun (j35 : Bool → Option Bool) => ∀ v1 : Bool, Wm X (fun v => some (.int (b2i v))) (fun _ => h) (fun _ => True) 35 [] [.int (b2i v1)] h (j35 v1)) ?_ fun j35 hj35 => ?_
  · intro v1
    exact r_zret F hA v1 rfl rfl rfl trivial dX8_isDigit_35
  refine Wt_jn (fun (j34 : Option Bool) => Wm X (fun v => some (.int (b2i v))) (fun _ => h) (fun _ => True) 34 [] [] h (j34)) ?_ fun j34 hj34 => ?_
  · skip
    refine r_iconst F (v := 0) dX8_isDigit_34 (by decide) ?_
    exact Wt_pick [] rfl (hj35 false)
  refine r_icmpge F (tgt := 34) dX8_isDigit_5 (by decide) ?_ ?_
  · skip
    exact Wt_pick [] rfl (hj34)
  refine r_aload_n F 0 rfl dX8_isDigit_8 rfl ?_
  refine r_getA F frX8_7 (by decide) dX8_isDigit_9 ?_
  refine r_iload_n F 1 rfl dX8_isDigit_12 rfl ?_
  refine r_iaload F (ar_8_0 0 (by decide)) dX8_isDigit_13 ?_
  refine r_bipush F (v := 48) dX8_isDigit_14 (by decide) ?_
  refine r_icmplt F (tgt := 34) dX8_isDigit_16 (by decide) ?_ ?_
  · skip
    exact Wt_pick [] rfl (hj34)
  refine r_aload_n F 0 rfl dX8_isDigit_19 rfl ?_
  refine r_getA F frX8_7 (by decide) dX8_isDigit_20 ?_
  refine r_iload_n F 1 rfl dX8_isDigit_23 rfl ?_
  refine r_iaload F (ar_8_0 0 (by decide)) dX8_isDigit_24 ?_
  refine r_bipush F (v := 57) dX8_isDigit_25 (by decide) ?_
  refine r_icmpgt F (tgt := 34) dX8_isDigit_27 (by decide) ?_ ?_
  · skip
    exact Wt_pick [] rfl (hj34)
  refine r_iconst F (v := 1) dX8_isDigit_30 (by decide) ?_
  refine r_goto F (tgt := 35) dX8_isDigit_31 (by decide) ?_
  exact Wt_pick [] rfl (hj35 true)
theorem c_X8_isDigit (G : Gx) (l : Launch) (h : Hp) (p1 : Int32) : Ctr G l yX8_isDigit (.code yX8_isDigit cX8_isDigit 2 (some .boolean) :: GT) rmX8_isDigit [.ref (adr G 8 0 0), .int p1] h (f_X8_isDigit h p1) (fun v => some (.int (b2i v))) (fun _ => h) (fun _ => True) :=
  ctr_of (by decide) (Nat.le_of_ble_eq_true rfl) ⟨rfl, rfl⟩ fun X _ e2 hA hL F => by subst e2; exact w_X8_isDigit X F hA hL h p1
def f_X8_packed_5 (h : Hp) (p1 : Int32) (p2 : Int32) (r5 : Int32 → Int32 → Option Int32) (v1 : Int32) (v2 : Int32) : Option Int32 :=
  if (p1 + 6) ≤ v2 then
    some v1
  else
  jn (fun (v3 : Int32) =>
    lt_ (((v1 <<< (5 &&& 31)) ||| v3)) fun v4 =>
    lt_ (v2 + 1) fun v5 =>
    r5 v4 v5) fun (j37 : Int32 → Option Int32) =>
  if p2 ≤ v2 then
    j37 0
  else
  grd (inb v2 700) <|
  j37 ((gA h 8 0 0 v2.toNatClampNeg) - 96)
def f_X8_packed (N : Nat) (h : Hp) (p1 : Int32) (p2 : Int32) : Option Int32 :=
  iter (fun _ _ => none) (f_X8_packed_5 h p1 p2) N 0 p1
abbrev rmX8_packed : Room := { frames := 0, cells := 0, slots := 0, locals := 0 }
set_option maxRecDepth 100000 in
set_option maxHeartbeats 4000000 in
theorem w_X8_packed (X : Cx) (F : Fx X cX8_packed RX8 (some .int) rmX8_packed) (hA : xA X = Aw (xG X)) (hL : xL X = 5) (N : Nat) (h : Hp) (p1 : Int32) (p2 : Int32) : Wm X (fun v => some (.int v)) (fun _ => h) (fun _ => True) 0 [(0, .ref (adr (xG X) 8 0 0)), (1, .int p1), (2, .int p2)] [] h (f_X8_packed N h p1 p2) := by
  have hS : ∀ i : Nat, i < 5 → i < xL X := fun i z => by rw [hL]; exact z
  unfold f_X8_packed
  refine r_iconst F (v := 0) dX8_packed_0 (by decide) ?_
  refine r_istore_n F [(3, .int 0), (0, .ref (adr (xG X) 8 0 0)), (1, .int p1), (2, .int p2)] rfl dX8_packed_1 rfl (hS _ (by decide)) ?_
  refine r_iload_n F 2 rfl dX8_packed_2 rfl ?_
  refine r_istore F [(4, .int p1), (3, .int 0), (0, .ref (adr (xG X) 8 0 0)), (1, .int p1), (2, .int p2)] rfl dX8_packed_3 (hS _ (by decide)) ?_
  have hl5 : ∀ n : Nat, ∀ v1 : Int32, ∀ v2 : Int32, Wm X (fun v => some (.int v)) (fun _ => h) (fun _ => True) 5 [(0, .ref (adr (xG X) 8 0 0)), (1, .int p1), (2, .int p2), (3, .int v1), (4, .int v2)] [] h (iter (fun _ _ => none) (f_X8_packed_5 h p1 p2) n v1 v2) := by
    intro n
    induction n with
    | zero => intro v1 v2; exact Wt_none
    | succ n ih =>
      revert ih
      show (∀ v1 : Int32, ∀ v2 : Int32, Wm X (fun v => some (.int v)) (fun _ => h) (fun _ => True) 5 [(0, .ref (adr (xG X) 8 0 0)), (1, .int p1), (2, .int p2), (3, .int v1), (4, .int v2)] [] h (iter (fun _ _ => none) (f_X8_packed_5 h p1 p2) n v1 v2)) → _
      intro ih5 v1 v2
      show Wm X (fun v => some (.int v)) (fun _ => h) (fun _ => True) 5 [(0, .ref (adr (xG X) 8 0 0)), (1, .int p1), (2, .int p2), (3, .int v1), (4, .int v2)] [] h (f_X8_packed_5 h p1 p2 (iter (fun _ _ => none) (f_X8_packed_5 h p1 p2) n) v1 v2)
      revert ih5
      generalize iter (fun _ _ => none) (f_X8_packed_5 h p1 p2) n = r5
      intro ih5
      unfold f_X8_packed_5
      refine r_iload F 4 rfl dX8_packed_5 ?_
      refine r_iload_n F 1 rfl dX8_packed_7 rfl ?_
      refine r_bipush F (v := 6) dX8_packed_8 (by decide) ?_
      refine r_iadd F dX8_packed_10 ?_
      refine r_icmpge F (tgt := 45) dX8_packed_11 (by decide) ?_ ?_
      · skip
        refine r_iload_n F 3 rfl dX8_packed_45 rfl ?_
        exact r_iret F hA rfl rfl trivial dX8_packed_46
      refine r_iload_n F 3 rfl dX8_packed_14 rfl ?_
      refine r_iconst F (v := 5) dX8_packed_15 (by decide) ?_
      refine r_ishl F dX8_packed_16 ?_
      refine r_iload F 4 rfl dX8_packed_17 ?_
      refine r_iload_n F 2 rfl dX8_packed_19 rfl ?_
      refine Wt_jn (fun (j37 : Int32 → Option Int32) => ∀ v3 : Int32, Wm X (fun v => some (.int v)) (fun _ => h) (fun _ => True) 37 [(0, .ref (adr (xG X) 8 0 0)), (1, .int p1), (2, .int p2), (4, .int v2)] [.int v3, .int (v1 <<< (5 &&& 31))] h (j37 v3)) ?_ fun j37 hj37 => ?_
      · intro v3
        refine r_ior F dX8_packed_37 ?_
        refine r_nmI fun v4 => ?_
        refine r_istore_n F [(3, .int v4), (0, .ref (adr (xG X) 8 0 0)), (1, .int p1), (2, .int p2), (4, .int v2)] rfl dX8_packed_38 rfl (hS _ (by decide)) ?_
        refine r_iinc F (v := 1) 4 rfl (by decide) (fun v5 => [(4, .int v5), (3, .int v4), (0, .ref (adr (xG X) 8 0 0)), (1, .int p1), (2, .int p2)]) (fun _ => rfl) dX8_packed_39 (hS _ (by decide)) fun v5 => ?_
        refine r_goto F (tgt := 5) dX8_packed_42 (by decide) ?_
        exact Wt_pick [2, 3, 4, 1, 0] rfl (ih5 v4 v5)
      refine r_icmpge F (tgt := 36) dX8_packed_20 (by decide) ?_ ?_
      · skip
        refine r_iconst F (v := 0) dX8_packed_36 (by decide) ?_
        exact Wt_pick [0, 1, 2, 4] rfl (hj37 0)
      refine r_aload_n F 0 rfl dX8_packed_23 rfl ?_
      refine r_getA F frX8_7 (by decide) dX8_packed_24 ?_
      refine r_iload F 4 rfl dX8_packed_27 ?_
      refine r_iaload F (ar_8_0 0 (by decide)) dX8_packed_29 ?_
      refine r_bipush F (v := 96) dX8_packed_30 (by decide) ?_
      refine r_isub F dX8_packed_32 ?_
      refine r_goto F (tgt := 37) dX8_packed_33 (by decide) ?_
      exact Wt_pick [0, 1, 2, 4] rfl (hj37 ((gA h 8 0 0 v2.toNatClampNeg) - 96))
  exact Wt_pick [2, 3, 4, 1, 0] rfl (hl5 N 0 p1)
theorem c_X8_packed (G : Gx) (l : Launch) (N : Nat) (h : Hp) (p1 : Int32) (p2 : Int32) : Ctr G l yX8_packed (.code yX8_packed cX8_packed 5 (some .int) :: GT) rmX8_packed [.ref (adr G 8 0 0), .int p1, .int p2] h (f_X8_packed N h p1 p2) (fun v => some (.int v)) (fun _ => h) (fun _ => True) :=
  ctr_of (by decide) (Nat.le_of_ble_eq_true rfl) ⟨rfl, rfl⟩ fun X _ e2 hA hL F => by subst e2; exact w_X8_packed X F hA hL N h p1 p2
def f_X8_signToken (h : Hp) : Option Hp :=
  grd (inb (gI h 8 0 7) 700) <|
  lt_ (sI h 8 0 9 (gA h 8 0 0 (gI h 8 0 7).toNatClampNeg)) fun h1 =>
  lt_ (sI h1 8 0 7 ((gI h1 8 0 7) + 1)) fun h2 =>
  jn (fun (h3 : Hp) =>
    some h3) fun (j290 : Hp → Option Hp) =>
  jn (
    jn (fun (v4 : Int32) =>
      jn (fun (v5 : Bool) =>
        jn (fun (v6 : Bool) =>
          jn (fun (h7 : Hp) =>
            lt_ (sI h7 8 0 8 5) fun h8 =>
            jn (fun (v9 : Int32) =>
              lt_ (sI h8 8 0 9 v9) fun h10 =>
              j290 h10) fun (j192 : Int32 → Option Hp) =>
            if ¬ (gI h8 8 0 9) = 61 then
              if ¬ (gI h8 8 0 9) = 60 then
                if (b2i v5) = 0 then
                  j192 5
                else
                j192 4
              else
              if (b2i v5) = 0 then
                if (b2i v6) = 0 then
                  j192 0
                else
                j192 3
              else
              j192 1
            else
            j192 2) fun (j135 : Hp → Option Hp) =>
          jn (
            lt_ (sI h2 8 0 7 ((gI h2 8 0 7) + 1)) fun h11 =>
            j135 h11) fun (j125 : Option Hp) =>
          if ¬ (b2i v5) = 0 then
            j125
          else
          if (b2i v6) = 0 then
            j135 h2
          else
          j125) fun (j116 : Bool → Option Hp) =>
        jn (
          j116 false) fun (j115 : Option Hp) =>
        if ¬ (gI h2 8 0 9) = 60 then
          j115
        else
        if ¬ v4 = 62 then
          j115
        else
        j116 true) fun (j95 : Bool → Option Hp) =>
      jn (
        j95 false) fun (j94 : Option Hp) =>
      if (gI h2 8 0 9) = 61 then
        j94
      else
      if ¬ v4 = 61 then
        j94
      else
      j95 true) fun (j74 : Int32 → Option Hp) =>
    if (gI h2 8 0 6) ≤ (gI h2 8 0 7) then
      j74 0
    else
    grd (inb (gI h2 8 0 7) 700) <|
    j74 (gA h2 8 0 0 (gI h2 8 0 7).toNatClampNeg)) fun (j50 : Option Hp) =>
  if (gI h2 8 0 9) = 60 then
    j50
  else
  if (gI h2 8 0 9) = 62 then
    j50
  else
  if ¬ (gI h2 8 0 9) = 61 then
    jn (fun (v12 : Bool) =>
      jn (fun (v13 : Int32) =>
        lt_ (sI h2 8 0 8 v13) fun h14 =>
        j290 h14) fun (j287 : Int32 → Option Hp) =>
      if (b2i v12) = 0 then
        j287 6
      else
      j287 4) fun (j275 : Bool → Option Hp) =>
    jn (
      j275 true) fun (j270 : Option Hp) =>
    if (gI h2 8 0 9) = 59 then
      j270
    else
    if (gI h2 8 0 9) = 40 then
      j270
    else
    if (gI h2 8 0 9) = 41 then
      j270
    else
    if (gI h2 8 0 9) = 43 then
      j270
    else
    if (gI h2 8 0 9) = 45 then
      j270
    else
    if (gI h2 8 0 9) = 42 then
      j270
    else
    if (gI h2 8 0 9) = 47 then
      j270
    else
    if ¬ (gI h2 8 0 9) = 37 then
      j275 false
    else
    j270
  else
  j50
abbrev rmX8_signToken : Room := { frames := 0, cells := 0, slots := 0, locals := 0 }
set_option maxRecDepth 100000 in
set_option maxHeartbeats 4000000 in
theorem w_X8_signToken (X : Cx) (F : Fx X cX8_signToken RX8 none rmX8_signToken) (hA : xA X = Aw (xG X)) (hL : xL X = 4) (h : Hp) : Wm X (fun _ => none) (fun v => v) (fun _ => True) 0 [(0, .ref (adr (xG X) 8 0 0))] [] h (f_X8_signToken h) := by
  have hS : ∀ i : Nat, i < 4 → i < xL X := fun i z => by rw [hL]; exact z
  unfold f_X8_signToken
  refine r_aload_n F 0 rfl dX8_signToken_0 rfl ?_
  refine r_aload_n F 0 rfl dX8_signToken_1 rfl ?_
  refine r_getA F frX8_7 (by decide) dX8_signToken_2 ?_
  refine r_aload_n F 0 rfl dX8_signToken_5 rfl ?_
  refine r_getI F frX8_178 (by decide) dX8_signToken_6 ?_
  refine r_iaload F (ar_8_0 0 (by decide)) dX8_signToken_9 ?_
  refine r_putI F frX8_192 (by decide) rfl rfl dX8_signToken_10 fun h1 => ?_
  refine r_aload_n F 0 rfl dX8_signToken_13 rfl ?_
  refine r_dup F rfl dX8_signToken_14 ?_
  refine r_getI F frX8_178 (by decide) dX8_signToken_15 ?_
  refine r_iconst F (v := 1) dX8_signToken_18 (by decide) ?_
  refine r_iadd F dX8_signToken_19 ?_
  refine r_putI F frX8_178 (by decide) rfl rfl dX8_signToken_20 fun h2 => ?_
  refine r_aload_n F 0 rfl dX8_signToken_23 rfl ?_
  refine r_getI F frX8_192 (by decide) dX8_signToken_24 ?_
  refine r_bipush F (v := 60) dX8_signToken_27 (by decide) ?_
  refine Wt_jn (fun (j290 : Hp → Option Hp) => ∀ h3 : Hp, Wm X (fun _ => none) (fun v => v) (fun _ => True) 290 [] [] h3 (j290 h3)) ?_ fun j290 hj290 => ?_
  · intro h3
    exact r_vret F hA rfl rfl trivial dX8_signToken_290
  refine Wt_jn (fun (j50 : Option Hp) => Wm X (fun _ => none) (fun v => v) (fun _ => True) 50 [(0, .ref (adr (xG X) 8 0 0))] [] h2 (j50)) ?_ fun j50 hj50 => ?_
  · skip
    refine r_aload_n F 0 rfl dX8_signToken_50 rfl ?_
    refine r_getI F frX8_178 (by decide) dX8_signToken_51 ?_
    refine r_aload_n F 0 rfl dX8_signToken_54 rfl ?_
    refine r_getI F frX8_175 (by decide) dX8_signToken_55 ?_
    refine Wt_jn (fun (j74 : Int32 → Option Hp) => ∀ v4 : Int32, Wm X (fun _ => none) (fun v => v) (fun _ => True) 74 [(0, .ref (adr (xG X) 8 0 0))] [.int v4] h2 (j74 v4)) ?_ fun j74 hj74 => ?_
    · intro v4
      refine r_istore_n F [(1, .int v4), (0, .ref (adr (xG X) 8 0 0))] rfl dX8_signToken_74 rfl (hS _ (by decide)) ?_
      refine r_aload_n F 1 rfl dX8_signToken_75 rfl ?_
      refine r_getI F frX8_192 (by decide) dX8_signToken_76 ?_
      refine r_bipush F (v := 61) dX8_signToken_79 (by decide) ?_
      refine Wt_jn (fun (j95 : Bool → Option Hp) => ∀ v5 : Bool, Wm X (fun _ => none) (fun v => v) (fun _ => True) 95 [(0, .ref (adr (xG X) 8 0 0)), (1, .int v4)] [.int (b2i v5)] h2 (j95 v5)) ?_ fun j95 hj95 => ?_
      · intro v5
        refine r_istore_n F [(2, .int (b2i v5)), (0, .ref (adr (xG X) 8 0 0)), (1, .int v4)] rfl dX8_signToken_95 rfl (hS _ (by decide)) ?_
        refine r_aload_n F 1 rfl dX8_signToken_96 rfl ?_
        refine r_getI F frX8_192 (by decide) dX8_signToken_97 ?_
        refine r_bipush F (v := 60) dX8_signToken_100 (by decide) ?_
        refine Wt_jn (fun (j116 : Bool → Option Hp) => ∀ v6 : Bool, Wm X (fun _ => none) (fun v => v) (fun _ => True) 116 [(0, .ref (adr (xG X) 8 0 0)), (2, .int (b2i v5))] [.int (b2i v6)] h2 (j116 v6)) ?_ fun j116 hj116 => ?_
        · intro v6
          refine r_istore_n F [(3, .int (b2i v6)), (0, .ref (adr (xG X) 8 0 0)), (2, .int (b2i v5))] rfl dX8_signToken_116 rfl (hS _ (by decide)) ?_
          refine r_iload_n F 2 rfl dX8_signToken_117 rfl ?_
          refine Wt_jn (fun (j135 : Hp → Option Hp) => ∀ h7 : Hp, Wm X (fun _ => none) (fun v => v) (fun _ => True) 135 [(0, .ref (adr (xG X) 8 0 0)), (2, .int (b2i v5)), (3, .int (b2i v6))] [] h7 (j135 h7)) ?_ fun j135 hj135 => ?_
          · intro h7
            refine r_aload_n F 0 rfl dX8_signToken_135 rfl ?_
            refine r_iconst F (v := 5) dX8_signToken_136 (by decide) ?_
            refine r_putI F frX8_181 (by decide) rfl rfl dX8_signToken_137 fun h8 => ?_
            refine r_aload_n F 0 rfl dX8_signToken_140 rfl ?_
            refine r_aload_n F 0 rfl dX8_signToken_141 rfl ?_
            refine r_getI F frX8_192 (by decide) dX8_signToken_142 ?_
            refine r_bipush F (v := 61) dX8_signToken_145 (by decide) ?_
            refine Wt_jn (fun (j192 : Int32 → Option Hp) => ∀ v9 : Int32, Wm X (fun _ => none) (fun v => v) (fun _ => True) 192 [] [.int v9, .ref (adr (xG X) 8 0 0)] h8 (j192 v9)) ?_ fun j192 hj192 => ?_
            · intro v9
              refine r_putI F frX8_192 (by decide) rfl rfl dX8_signToken_192 fun h10 => ?_
              refine r_goto F (tgt := 290) dX8_signToken_195 (by decide) ?_
              exact Wt_pick [] rfl (hj290 h10)
            refine r_icmpne F (tgt := 154) dX8_signToken_147 (by decide) ?_ ?_
            · skip
              refine r_aload_n F 0 rfl dX8_signToken_154 rfl ?_
              refine r_getI F frX8_192 (by decide) dX8_signToken_155 ?_
              refine r_bipush F (v := 60) dX8_signToken_158 (by decide) ?_
              refine r_icmpne F (tgt := 183) dX8_signToken_160 (by decide) ?_ ?_
              · skip
                refine r_iload_n F 1 rfl dX8_signToken_183 rfl ?_
                refine r_ifeq F (tgt := 191) dX8_signToken_184 (by decide) ?_ ?_
                · skip
                  refine r_iconst F (v := 5) dX8_signToken_191 (by decide) ?_
                  exact Wt_pick [] rfl (hj192 5)
                refine r_iconst F (v := 4) dX8_signToken_187 (by decide) ?_
                refine r_goto F (tgt := 192) dX8_signToken_188 (by decide) ?_
                exact Wt_pick [] rfl (hj192 4)
              refine r_iload_n F 1 rfl dX8_signToken_163 rfl ?_
              refine r_ifeq F (tgt := 171) dX8_signToken_164 (by decide) ?_ ?_
              · skip
                refine r_iload_n F 2 rfl dX8_signToken_171 rfl ?_
                refine r_ifeq F (tgt := 179) dX8_signToken_172 (by decide) ?_ ?_
                · skip
                  refine r_iconst F (v := 0) dX8_signToken_179 (by decide) ?_
                  refine r_goto F (tgt := 192) dX8_signToken_180 (by decide) ?_
                  exact Wt_pick [] rfl (hj192 0)
                refine r_iconst F (v := 3) dX8_signToken_175 (by decide) ?_
                refine r_goto F (tgt := 192) dX8_signToken_176 (by decide) ?_
                exact Wt_pick [] rfl (hj192 3)
              refine r_iconst F (v := 1) dX8_signToken_167 (by decide) ?_
              refine r_goto F (tgt := 192) dX8_signToken_168 (by decide) ?_
              exact Wt_pick [] rfl (hj192 1)
            refine r_iconst F (v := 2) dX8_signToken_150 (by decide) ?_
            refine r_goto F (tgt := 192) dX8_signToken_151 (by decide) ?_
            exact Wt_pick [] rfl (hj192 2)
          refine Wt_jn (fun (j125 : Option Hp) => Wm X (fun _ => none) (fun v => v) (fun _ => True) 125 [(0, .ref (adr (xG X) 8 0 0)), (2, .int (b2i v5)), (3, .int (b2i v6))] [] h2 (j125)) ?_ fun j125 hj125 => ?_
          · skip
            refine r_aload_n F 0 rfl dX8_signToken_125 rfl ?_
            refine r_dup F rfl dX8_signToken_126 ?_
            refine r_getI F frX8_178 (by decide) dX8_signToken_127 ?_
            refine r_iconst F (v := 1) dX8_signToken_130 (by decide) ?_
            refine r_iadd F dX8_signToken_131 ?_
            refine r_putI F frX8_178 (by decide) rfl rfl dX8_signToken_132 fun h11 => ?_
            exact Wt_pick [0, 1, 2] rfl (hj135 h11)
          refine r_ifne F (tgt := 125) dX8_signToken_118 (by decide) ?_ ?_
          · skip
            exact Wt_pick [1, 2, 0] rfl (hj125)
          refine r_iload_n F 0 rfl dX8_signToken_121 rfl ?_
          refine r_ifeq F (tgt := 135) dX8_signToken_122 (by decide) ?_ ?_
          · skip
            exact Wt_pick [1, 2, 0] rfl (hj135 h2)
          exact Wt_pick [1, 2, 0] rfl (hj125)
        refine Wt_jn (fun (j115 : Option Hp) => Wm X (fun _ => none) (fun v => v) (fun _ => True) 115 [(0, .ref (adr (xG X) 8 0 0)), (2, .int (b2i v5))] [] h2 (j115)) ?_ fun j115 hj115 => ?_
        · skip
          refine r_iconst F (v := 0) dX8_signToken_115 (by decide) ?_
          exact Wt_pick [0, 1] rfl (hj116 false)
        refine r_icmpne F (tgt := 115) dX8_signToken_102 (by decide) ?_ ?_
        · skip
          exact Wt_pick [1, 0] rfl (hj115)
        refine r_iload_n F 2 rfl dX8_signToken_105 rfl ?_
        refine r_bipush F (v := 62) dX8_signToken_106 (by decide) ?_
        refine r_icmpne F (tgt := 115) dX8_signToken_108 (by decide) ?_ ?_
        · skip
          exact Wt_pick [1, 0] rfl (hj115)
        refine r_iconst F (v := 1) dX8_signToken_111 (by decide) ?_
        refine r_goto F (tgt := 116) dX8_signToken_112 (by decide) ?_
        exact Wt_pick [1, 0] rfl (hj116 true)
      refine Wt_jn (fun (j94 : Option Hp) => Wm X (fun _ => none) (fun v => v) (fun _ => True) 94 [(0, .ref (adr (xG X) 8 0 0)), (1, .int v4)] [] h2 (j94)) ?_ fun j94 hj94 => ?_
      · skip
        refine r_iconst F (v := 0) dX8_signToken_94 (by decide) ?_
        exact Wt_pick [0, 1] rfl (hj95 false)
      refine r_icmpeq F (tgt := 94) dX8_signToken_81 (by decide) ?_ ?_
      · skip
        exact Wt_pick [1, 0] rfl (hj94)
      refine r_iload_n F 0 rfl dX8_signToken_84 rfl ?_
      refine r_bipush F (v := 61) dX8_signToken_85 (by decide) ?_
      refine r_icmpne F (tgt := 94) dX8_signToken_87 (by decide) ?_ ?_
      · skip
        exact Wt_pick [1, 0] rfl (hj94)
      refine r_iconst F (v := 1) dX8_signToken_90 (by decide) ?_
      refine r_goto F (tgt := 95) dX8_signToken_91 (by decide) ?_
      exact Wt_pick [1, 0] rfl (hj95 true)
    refine r_icmpge F (tgt := 73) dX8_signToken_58 (by decide) ?_ ?_
    · skip
      refine r_iconst F (v := 0) dX8_signToken_73 (by decide) ?_
      exact Wt_pick [0] rfl (hj74 0)
    refine r_aload_n F 0 rfl dX8_signToken_61 rfl ?_
    refine r_getA F frX8_7 (by decide) dX8_signToken_62 ?_
    refine r_aload_n F 0 rfl dX8_signToken_65 rfl ?_
    refine r_getI F frX8_178 (by decide) dX8_signToken_66 ?_
    refine r_iaload F (ar_8_0 0 (by decide)) dX8_signToken_69 ?_
    refine r_goto F (tgt := 74) dX8_signToken_70 (by decide) ?_
    exact Wt_pick [0] rfl (hj74 (gA h2 8 0 0 (gI h2 8 0 7).toNatClampNeg))
  refine r_icmpeq F (tgt := 50) dX8_signToken_29 (by decide) ?_ ?_
  · skip
    exact Wt_pick [0] rfl (hj50)
  refine r_aload_n F 0 rfl dX8_signToken_32 rfl ?_
  refine r_getI F frX8_192 (by decide) dX8_signToken_33 ?_
  refine r_bipush F (v := 62) dX8_signToken_36 (by decide) ?_
  refine r_icmpeq F (tgt := 50) dX8_signToken_38 (by decide) ?_ ?_
  · skip
    exact Wt_pick [0] rfl (hj50)
  refine r_aload_n F 0 rfl dX8_signToken_41 rfl ?_
  refine r_getI F frX8_192 (by decide) dX8_signToken_42 ?_
  refine r_bipush F (v := 61) dX8_signToken_45 (by decide) ?_
  refine r_icmpne F (tgt := 198) dX8_signToken_47 (by decide) ?_ ?_
  · skip
    refine r_aload_n F 0 rfl dX8_signToken_198 rfl ?_
    refine r_getI F frX8_192 (by decide) dX8_signToken_199 ?_
    refine r_bipush F (v := 59) dX8_signToken_202 (by decide) ?_
    refine Wt_jn (fun (j275 : Bool → Option Hp) => ∀ v12 : Bool, Wm X (fun _ => none) (fun v => v) (fun _ => True) 275 [(0, .ref (adr (xG X) 8 0 0))] [.int (b2i v12)] h2 (j275 v12)) ?_ fun j275 hj275 => ?_
    · intro v12
      refine r_istore_n F [(1, .int (b2i v12)), (0, .ref (adr (xG X) 8 0 0))] rfl dX8_signToken_275 rfl (hS _ (by decide)) ?_
      refine r_aload_n F 1 rfl dX8_signToken_276 rfl ?_
      refine r_iload_n F 0 rfl dX8_signToken_277 rfl ?_
      refine Wt_jn (fun (j287 : Int32 → Option Hp) => ∀ v13 : Int32, Wm X (fun _ => none) (fun v => v) (fun _ => True) 287 [] [.int v13, .ref (adr (xG X) 8 0 0)] h2 (j287 v13)) ?_ fun j287 hj287 => ?_
      · intro v13
        refine r_putI F frX8_181 (by decide) rfl rfl dX8_signToken_287 fun h14 => ?_
        exact Wt_pick [] rfl (hj290 h14)
      refine r_ifeq F (tgt := 285) dX8_signToken_278 (by decide) ?_ ?_
      · skip
        refine r_bipush F (v := 6) dX8_signToken_285 (by decide) ?_
        exact Wt_pick [] rfl (hj287 6)
      refine r_iconst F (v := 4) dX8_signToken_281 (by decide) ?_
      refine r_goto F (tgt := 287) dX8_signToken_282 (by decide) ?_
      exact Wt_pick [] rfl (hj287 4)
    refine Wt_jn (fun (j270 : Option Hp) => Wm X (fun _ => none) (fun v => v) (fun _ => True) 270 [(0, .ref (adr (xG X) 8 0 0))] [] h2 (j270)) ?_ fun j270 hj270 => ?_
    · skip
      refine r_iconst F (v := 1) dX8_signToken_270 (by decide) ?_
      refine r_goto F (tgt := 275) dX8_signToken_271 (by decide) ?_
      exact Wt_pick [0] rfl (hj275 true)
    refine r_icmpeq F (tgt := 270) dX8_signToken_204 (by decide) ?_ ?_
    · skip
      exact Wt_pick [0] rfl (hj270)
    refine r_aload_n F 0 rfl dX8_signToken_207 rfl ?_
    refine r_getI F frX8_192 (by decide) dX8_signToken_208 ?_
    refine r_bipush F (v := 40) dX8_signToken_211 (by decide) ?_
    refine r_icmpeq F (tgt := 270) dX8_signToken_213 (by decide) ?_ ?_
    · skip
      exact Wt_pick [0] rfl (hj270)
    refine r_aload_n F 0 rfl dX8_signToken_216 rfl ?_
    refine r_getI F frX8_192 (by decide) dX8_signToken_217 ?_
    refine r_bipush F (v := 41) dX8_signToken_220 (by decide) ?_
    refine r_icmpeq F (tgt := 270) dX8_signToken_222 (by decide) ?_ ?_
    · skip
      exact Wt_pick [0] rfl (hj270)
    refine r_aload_n F 0 rfl dX8_signToken_225 rfl ?_
    refine r_getI F frX8_192 (by decide) dX8_signToken_226 ?_
    refine r_bipush F (v := 43) dX8_signToken_229 (by decide) ?_
    refine r_icmpeq F (tgt := 270) dX8_signToken_231 (by decide) ?_ ?_
    · skip
      exact Wt_pick [0] rfl (hj270)
    refine r_aload_n F 0 rfl dX8_signToken_234 rfl ?_
    refine r_getI F frX8_192 (by decide) dX8_signToken_235 ?_
    refine r_bipush F (v := 45) dX8_signToken_238 (by decide) ?_
    refine r_icmpeq F (tgt := 270) dX8_signToken_240 (by decide) ?_ ?_
    · skip
      exact Wt_pick [0] rfl (hj270)
    refine r_aload_n F 0 rfl dX8_signToken_243 rfl ?_
    refine r_getI F frX8_192 (by decide) dX8_signToken_244 ?_
    refine r_bipush F (v := 42) dX8_signToken_247 (by decide) ?_
    refine r_icmpeq F (tgt := 270) dX8_signToken_249 (by decide) ?_ ?_
    · skip
      exact Wt_pick [0] rfl (hj270)
    refine r_aload_n F 0 rfl dX8_signToken_252 rfl ?_
    refine r_getI F frX8_192 (by decide) dX8_signToken_253 ?_
    refine r_bipush F (v := 47) dX8_signToken_256 (by decide) ?_
    refine r_icmpeq F (tgt := 270) dX8_signToken_258 (by decide) ?_ ?_
    · skip
      exact Wt_pick [0] rfl (hj270)
    refine r_aload_n F 0 rfl dX8_signToken_261 rfl ?_
    refine r_getI F frX8_192 (by decide) dX8_signToken_262 ?_
    refine r_bipush F (v := 37) dX8_signToken_265 (by decide) ?_
    refine r_icmpne F (tgt := 274) dX8_signToken_267 (by decide) ?_ ?_
    · skip
      refine r_iconst F (v := 0) dX8_signToken_274 (by decide) ?_
      exact Wt_pick [0] rfl (hj275 false)
    exact Wt_pick [0] rfl (hj270)
  exact Wt_pick [0] rfl (hj50)
theorem c_X8_signToken (G : Gx) (l : Launch) (h : Hp) : Ctr G l yX8_signToken (.code yX8_signToken cX8_signToken 4 none :: GT) rmX8_signToken [.ref (adr G 8 0 0)] h (f_X8_signToken h) (fun _ => none) (fun v => v) (fun _ => True) :=
  ctr_of (by decide) (Nat.le_of_ble_eq_true rfl) ⟨rfl, rfl⟩ fun X _ e2 hA hL F => by subst e2; exact w_X8_signToken X F hA hL h
