theorem dX5_clear_0 : decode cX5_clear 0 = .ok (.aload_n 0, 1) := by decide +kernel
theorem dX5_clear_1 : decode cX5_clear 1 = .ok (.getfield 42, 3) := by decide +kernel
theorem dX5_clear_4 : decode cX5_clear 4 = .ok (.invokevirtual 46, 3) := by decide +kernel
theorem dX5_clear_7 : decode cX5_clear 7 = .ok (.aload_n 0, 1) := by decide +kernel
theorem dX5_clear_8 : decode cX5_clear 8 = .ok (.iconst 0, 1) := by decide +kernel
theorem dX5_clear_9 : decode cX5_clear 9 = .ok (.putfield 49, 3) := by decide +kernel
theorem dX5_clear_12 : decode cX5_clear 12 = .ok (.aload_n 0, 1) := by decide +kernel
theorem dX5_clear_13 : decode cX5_clear 13 = .ok (.iconst 0, 1) := by decide +kernel
theorem dX5_clear_14 : decode cX5_clear 14 = .ok (.putfield 53, 3) := by decide +kernel
theorem dX5_clear_17 : decode cX5_clear 17 = .ok (.aload_n 0, 1) := by decide +kernel
theorem dX5_clear_18 : decode cX5_clear 18 = .ok (.iconst 0, 1) := by decide +kernel
theorem dX5_clear_19 : decode cX5_clear 19 = .ok (.putfield 56, 3) := by decide +kernel
theorem dX5_clear_22 : decode cX5_clear 22 = .ok (.aload_n 0, 1) := by decide +kernel
theorem dX5_clear_23 : decode cX5_clear 23 = .ok (.iconst 0, 1) := by decide +kernel
theorem dX5_clear_24 : decode cX5_clear 24 = .ok (.putfield 59, 3) := by decide +kernel
theorem dX5_clear_27 : decode cX5_clear 27 = .ok (.aload_n 0, 1) := by decide +kernel
theorem dX5_clear_28 : decode cX5_clear 28 = .ok (.iconst 0, 1) := by decide +kernel
theorem dX5_clear_29 : decode cX5_clear 29 = .ok (.putfield 62, 3) := by decide +kernel
theorem dX5_clear_32 : decode cX5_clear 32 = .ok (.aload_n 0, 1) := by decide +kernel
theorem dX5_clear_33 : decode cX5_clear 33 = .ok (.iconst 0, 1) := by decide +kernel
theorem dX5_clear_34 : decode cX5_clear 34 = .ok (.putfield 65, 3) := by decide +kernel
theorem dX5_clear_37 : decode cX5_clear 37 = .ok (.aload_n 0, 1) := by decide +kernel
theorem dX5_clear_38 : decode cX5_clear 38 = .ok (.iconst 0, 1) := by decide +kernel
theorem dX5_clear_39 : decode cX5_clear 39 = .ok (.putfield 68, 3) := by decide +kernel
theorem dX5_clear_42 : decode cX5_clear 42 = .ok (.aload_n 0, 1) := by decide +kernel
theorem dX5_clear_43 : decode cX5_clear 43 = .ok (.iconst 0, 1) := by decide +kernel
theorem dX5_clear_44 : decode cX5_clear 44 = .ok (.putfield 71, 3) := by decide +kernel
theorem dX5_clear_47 : decode cX5_clear 47 = .ok (.aload_n 0, 1) := by decide +kernel
theorem dX5_clear_48 : decode cX5_clear 48 = .ok (.iconst 0, 1) := by decide +kernel
theorem dX5_clear_49 : decode cX5_clear 49 = .ok (.putfield 74, 3) := by decide +kernel
theorem dX5_clear_52 : decode cX5_clear 52 = .ok (.aload_n 0, 1) := by decide +kernel
theorem dX5_clear_53 : decode cX5_clear 53 = .ok (.iconst 0, 1) := by decide +kernel
theorem dX5_clear_54 : decode cX5_clear 54 = .ok (.putfield 77, 3) := by decide +kernel
theorem dX5_clear_57 : decode cX5_clear 57 = .ok (.return_, 1) := by decide +kernel
theorem dX4_isLetter_0 : decode cX4_isLetter 0 = .ok (.iload_n 0, 1) := by decide +kernel
theorem dX4_isLetter_1 : decode cX4_isLetter 1 = .ok (.bipush 97, 2) := by decide +kernel
theorem dX4_isLetter_3 : decode cX4_isLetter 3 = .ok (.if_icmp .lt 13, 3) := by decide +kernel
theorem dX4_isLetter_6 : decode cX4_isLetter 6 = .ok (.iload_n 0, 1) := by decide +kernel
theorem dX4_isLetter_7 : decode cX4_isLetter 7 = .ok (.bipush 122, 2) := by decide +kernel
theorem dX4_isLetter_9 : decode cX4_isLetter 9 = .ok (.if_icmp .gt 7, 3) := by decide +kernel
theorem dX4_isLetter_12 : decode cX4_isLetter 12 = .ok (.iconst 1, 1) := by decide +kernel
theorem dX4_isLetter_13 : decode cX4_isLetter 13 = .ok (.goto 4, 3) := by decide +kernel
theorem dX4_isLetter_16 : decode cX4_isLetter 16 = .ok (.iconst 0, 1) := by decide +kernel
theorem dX4_isLetter_17 : decode cX4_isLetter 17 = .ok (.ireturn, 1) := by decide +kernel
theorem dX4_readWord_0 : decode cX4_readWord 0 = .ok (.aload_n 0, 1) := by decide +kernel
theorem dX4_readWord_1 : decode cX4_readWord 1 = .ok (.iconst 0, 1) := by decide +kernel
theorem dX4_readWord_2 : decode cX4_readWord 2 = .ok (.putfield 71, 3) := by decide +kernel
theorem dX4_readWord_5 : decode cX4_readWord 5 = .ok (.bipush 25, 2) := by decide +kernel
theorem dX4_readWord_7 : decode cX4_readWord 7 = .ok (.istore_n 1, 1) := by decide +kernel
theorem dX4_readWord_8 : decode cX4_readWord 8 = .ok (.aload_n 0, 1) := by decide +kernel
theorem dX4_readWord_9 : decode cX4_readWord 9 = .ok (.getfield 42, 3) := by decide +kernel
theorem dX4_readWord_12 : decode cX4_readWord 12 = .ok (.aload_n 0, 1) := by decide +kernel
theorem dX4_readWord_13 : decode cX4_readWord 13 = .ok (.getfield 40, 3) := by decide +kernel
theorem dX4_readWord_16 : decode cX4_readWord 16 = .ok (.if_icmp .ge 63, 3) := by decide +kernel
theorem dX4_readWord_19 : decode cX4_readWord 19 = .ok (.aload_n 0, 1) := by decide +kernel
theorem dX4_readWord_20 : decode cX4_readWord 20 = .ok (.getfield 9, 3) := by decide +kernel
theorem dX4_readWord_23 : decode cX4_readWord 23 = .ok (.aload_n 0, 1) := by decide +kernel
theorem dX4_readWord_24 : decode cX4_readWord 24 = .ok (.getfield 42, 3) := by decide +kernel
theorem dX4_readWord_27 : decode cX4_readWord 27 = .ok (.iaload, 1) := by decide +kernel
theorem dX4_readWord_28 : decode cX4_readWord 28 = .ok (.invokestatic 54, 3) := by decide +kernel
theorem dX4_readWord_31 : decode cX4_readWord 31 = .ok (.ifCond .eq 48, 3) := by decide +kernel
theorem dX4_readWord_34 : decode cX4_readWord 34 = .ok (.iload_n 1, 1) := by decide +kernel
theorem dX4_readWord_35 : decode cX4_readWord 35 = .ok (.ifCond .lt 28, 3) := by decide +kernel
theorem dX4_readWord_38 : decode cX4_readWord 38 = .ok (.aload_n 0, 1) := by decide +kernel
theorem dX4_readWord_39 : decode cX4_readWord 39 = .ok (.dup, 1) := by decide +kernel
theorem dX4_readWord_40 : decode cX4_readWord 40 = .ok (.getfield 71, 3) := by decide +kernel
theorem dX4_readWord_43 : decode cX4_readWord 43 = .ok (.aload_n 0, 1) := by decide +kernel
theorem dX4_readWord_44 : decode cX4_readWord 44 = .ok (.getfield 9, 3) := by decide +kernel
theorem dX4_readWord_47 : decode cX4_readWord 47 = .ok (.aload_n 0, 1) := by decide +kernel
theorem dX4_readWord_48 : decode cX4_readWord 48 = .ok (.getfield 42, 3) := by decide +kernel
theorem dX4_readWord_51 : decode cX4_readWord 51 = .ok (.iaload, 1) := by decide +kernel
theorem dX4_readWord_52 : decode cX4_readWord 52 = .ok (.bipush 97, 2) := by decide +kernel
theorem dX4_readWord_54 : decode cX4_readWord 54 = .ok (.isub, 1) := by decide +kernel
theorem dX4_readWord_55 : decode cX4_readWord 55 = .ok (.iconst 1, 1) := by decide +kernel
theorem dX4_readWord_56 : decode cX4_readWord 56 = .ok (.iadd, 1) := by decide +kernel
theorem dX4_readWord_57 : decode cX4_readWord 57 = .ok (.iload_n 1, 1) := by decide +kernel
theorem dX4_readWord_58 : decode cX4_readWord 58 = .ok (.ishl, 1) := by decide +kernel
theorem dX4_readWord_59 : decode cX4_readWord 59 = .ok (.ior, 1) := by decide +kernel
theorem dX4_readWord_60 : decode cX4_readWord 60 = .ok (.putfield 71, 3) := by decide +kernel
theorem dX4_readWord_63 : decode cX4_readWord 63 = .ok (.iinc 1 (-5), 3) := by decide +kernel
theorem dX4_readWord_66 : decode cX4_readWord 66 = .ok (.aload_n 0, 1) := by decide +kernel
theorem dX4_readWord_67 : decode cX4_readWord 67 = .ok (.dup, 1) := by decide +kernel
theorem dX4_readWord_68 : decode cX4_readWord 68 = .ok (.getfield 42, 3) := by decide +kernel
theorem dX4_readWord_71 : decode cX4_readWord 71 = .ok (.iconst 1, 1) := by decide +kernel
theorem dX4_readWord_72 : decode cX4_readWord 72 = .ok (.iadd, 1) := by decide +kernel
theorem dX4_readWord_73 : decode cX4_readWord 73 = .ok (.putfield 42, 3) := by decide +kernel
theorem dX4_readWord_76 : decode cX4_readWord 76 = .ok (.goto (-68), 3) := by decide +kernel
theorem dX4_readWord_79 : decode cX4_readWord 79 = .ok (.aload_n 0, 1) := by decide +kernel
theorem dX4_readWord_80 : decode cX4_readWord 80 = .ok (.getfield 42, 3) := by decide +kernel
theorem dX4_readWord_83 : decode cX4_readWord 83 = .ok (.aload_n 0, 1) := by decide +kernel
theorem dX4_readWord_84 : decode cX4_readWord 84 = .ok (.getfield 48, 3) := by decide +kernel
theorem dX4_readWord_87 : decode cX4_readWord 87 = .ok (.isub, 1) := by decide +kernel
theorem dX4_readWord_88 : decode cX4_readWord 88 = .ok (.bipush 6, 2) := by decide +kernel
theorem dX4_readWord_90 : decode cX4_readWord 90 = .ok (.if_icmp .le 9, 3) := by decide +kernel
theorem dX4_readWord_93 : decode cX4_readWord 93 = .ok (.aload_n 0, 1) := by decide +kernel
theorem dX4_readWord_94 : decode cX4_readWord 94 = .ok (.iconst 1, 1) := by decide +kernel
theorem dX4_readWord_95 : decode cX4_readWord 95 = .ok (.putfield 51, 3) := by decide +kernel
theorem dX4_readWord_98 : decode cX4_readWord 98 = .ok (.return_, 1) := by decide +kernel
theorem dX4_readWord_99 : decode cX4_readWord 99 = .ok (.aload_n 0, 1) := by decide +kernel
theorem dX4_readWord_100 : decode cX4_readWord 100 = .ok (.iconst 3, 1) := by decide +kernel
theorem dX4_readWord_101 : decode cX4_readWord 101 = .ok (.putfield 51, 3) := by decide +kernel
theorem dX4_readWord_104 : decode cX4_readWord 104 = .ok (.iconst 0, 1) := by decide +kernel
theorem dX4_readWord_105 : decode cX4_readWord 105 = .ok (.istore_n 2, 1) := by decide +kernel
theorem dX4_readWord_106 : decode cX4_readWord 106 = .ok (.iload_n 2, 1) := by decide +kernel
theorem dX4_readWord_107 : decode cX4_readWord 107 = .ok (.bipush 26, 2) := by decide +kernel
theorem dX4_readWord_109 : decode cX4_readWord 109 = .ok (.if_icmp .ge 31, 3) := by decide +kernel
theorem dX4_readWord_112 : decode cX4_readWord 112 = .ok (.aload_n 0, 1) := by decide +kernel
theorem dX4_readWord_113 : decode cX4_readWord 113 = .ok (.getfield 15, 3) := by decide +kernel
theorem dX4_readWord_116 : decode cX4_readWord 116 = .ok (.iload_n 2, 1) := by decide +kernel
theorem dX4_readWord_117 : decode cX4_readWord 117 = .ok (.iaload, 1) := by decide +kernel
theorem dX4_readWord_118 : decode cX4_readWord 118 = .ok (.aload_n 0, 1) := by decide +kernel
theorem dX4_readWord_119 : decode cX4_readWord 119 = .ok (.getfield 71, 3) := by decide +kernel
theorem dX4_readWord_122 : decode cX4_readWord 122 = .ok (.if_icmp .ne 12, 3) := by decide +kernel
theorem dX4_readWord_125 : decode cX4_readWord 125 = .ok (.aload_n 0, 1) := by decide +kernel
theorem dX4_readWord_126 : decode cX4_readWord 126 = .ok (.sipush 256, 3) := by decide +kernel
theorem dX4_readWord_129 : decode cX4_readWord 129 = .ok (.iload_n 2, 1) := by decide +kernel
theorem dX4_readWord_130 : decode cX4_readWord 130 = .ok (.iadd, 1) := by decide +kernel
theorem dX4_readWord_131 : decode cX4_readWord 131 = .ok (.putfield 51, 3) := by decide +kernel
theorem dX4_readWord_134 : decode cX4_readWord 134 = .ok (.iinc 2 1, 3) := by decide +kernel
theorem dX4_readWord_137 : decode cX4_readWord 137 = .ok (.goto (-31), 3) := by decide +kernel
theorem dX4_readWord_140 : decode cX4_readWord 140 = .ok (.return_, 1) := by decide +kernel
theorem dX4_isDigit_0 : decode cX4_isDigit 0 = .ok (.iload_n 0, 1) := by decide +kernel
theorem dX4_isDigit_1 : decode cX4_isDigit 1 = .ok (.bipush 48, 2) := by decide +kernel
theorem dX4_isDigit_3 : decode cX4_isDigit 3 = .ok (.if_icmp .lt 13, 3) := by decide +kernel
theorem dX4_isDigit_6 : decode cX4_isDigit 6 = .ok (.iload_n 0, 1) := by decide +kernel
theorem dX4_isDigit_7 : decode cX4_isDigit 7 = .ok (.bipush 57, 2) := by decide +kernel
theorem dX4_isDigit_9 : decode cX4_isDigit 9 = .ok (.if_icmp .gt 7, 3) := by decide +kernel
theorem dX4_isDigit_12 : decode cX4_isDigit 12 = .ok (.iconst 1, 1) := by decide +kernel
theorem dX4_isDigit_13 : decode cX4_isDigit 13 = .ok (.goto 4, 3) := by decide +kernel
theorem dX4_isDigit_16 : decode cX4_isDigit 16 = .ok (.iconst 0, 1) := by decide +kernel
theorem dX4_isDigit_17 : decode cX4_isDigit 17 = .ok (.ireturn, 1) := by decide +kernel
theorem dX4_readNumber_0 : decode cX4_readNumber 0 = .ok (.aload_n 0, 1) := by decide +kernel
theorem dX4_readNumber_1 : decode cX4_readNumber 1 = .ok (.iconst 0, 1) := by decide +kernel
theorem dX4_readNumber_2 : decode cX4_readNumber 2 = .ok (.putfield 74, 3) := by decide +kernel
theorem dX4_readNumber_5 : decode cX4_readNumber 5 = .ok (.aload_n 0, 1) := by decide +kernel
theorem dX4_readNumber_6 : decode cX4_readNumber 6 = .ok (.getfield 42, 3) := by decide +kernel
theorem dX4_readNumber_9 : decode cX4_readNumber 9 = .ok (.aload_n 0, 1) := by decide +kernel
theorem dX4_readNumber_10 : decode cX4_readNumber 10 = .ok (.getfield 40, 3) := by decide +kernel
theorem dX4_readNumber_13 : decode cX4_readNumber 13 = .ok (.if_icmp .ge 60, 3) := by decide +kernel
theorem dX4_readNumber_16 : decode cX4_readNumber 16 = .ok (.aload_n 0, 1) := by decide +kernel
theorem dX4_readNumber_17 : decode cX4_readNumber 17 = .ok (.getfield 9, 3) := by decide +kernel
theorem dX4_readNumber_20 : decode cX4_readNumber 20 = .ok (.aload_n 0, 1) := by decide +kernel
theorem dX4_readNumber_21 : decode cX4_readNumber 21 = .ok (.getfield 42, 3) := by decide +kernel
theorem dX4_readNumber_24 : decode cX4_readNumber 24 = .ok (.iaload, 1) := by decide +kernel
theorem dX4_readNumber_25 : decode cX4_readNumber 25 = .ok (.invokestatic 61, 3) := by decide +kernel
theorem dX4_readNumber_28 : decode cX4_readNumber 28 = .ok (.ifCond .eq 45, 3) := by decide +kernel
theorem dX4_readNumber_31 : decode cX4_readNumber 31 = .ok (.aload_n 0, 1) := by decide +kernel
theorem dX4_readNumber_32 : decode cX4_readNumber 32 = .ok (.aload_n 0, 1) := by decide +kernel
theorem dX4_readNumber_33 : decode cX4_readNumber 33 = .ok (.getfield 74, 3) := by decide +kernel
theorem dX4_readNumber_36 : decode cX4_readNumber 36 = .ok (.bipush 10, 2) := by decide +kernel
theorem dX4_readNumber_38 : decode cX4_readNumber 38 = .ok (.imul, 1) := by decide +kernel
theorem dX4_readNumber_39 : decode cX4_readNumber 39 = .ok (.aload_n 0, 1) := by decide +kernel
theorem dX4_readNumber_40 : decode cX4_readNumber 40 = .ok (.getfield 9, 3) := by decide +kernel
theorem dX4_readNumber_43 : decode cX4_readNumber 43 = .ok (.aload_n 0, 1) := by decide +kernel
theorem dX4_readNumber_44 : decode cX4_readNumber 44 = .ok (.getfield 42, 3) := by decide +kernel
theorem dX4_readNumber_47 : decode cX4_readNumber 47 = .ok (.iaload, 1) := by decide +kernel
theorem dX4_readNumber_48 : decode cX4_readNumber 48 = .ok (.iadd, 1) := by decide +kernel
theorem dX4_readNumber_49 : decode cX4_readNumber 49 = .ok (.bipush 48, 2) := by decide +kernel
theorem dX4_readNumber_51 : decode cX4_readNumber 51 = .ok (.isub, 1) := by decide +kernel
theorem dX4_readNumber_52 : decode cX4_readNumber 52 = .ok (.ldc 77, 2) := by decide +kernel
theorem dX4_readNumber_54 : decode cX4_readNumber 54 = .ok (.invokestatic 34, 3) := by decide +kernel
theorem dX4_readNumber_57 : decode cX4_readNumber 57 = .ok (.putfield 74, 3) := by decide +kernel
theorem dX4_readNumber_60 : decode cX4_readNumber 60 = .ok (.aload_n 0, 1) := by decide +kernel
theorem dX4_readNumber_61 : decode cX4_readNumber 61 = .ok (.dup, 1) := by decide +kernel
theorem dX4_readNumber_62 : decode cX4_readNumber 62 = .ok (.getfield 42, 3) := by decide +kernel
theorem dX4_readNumber_65 : decode cX4_readNumber 65 = .ok (.iconst 1, 1) := by decide +kernel
theorem dX4_readNumber_66 : decode cX4_readNumber 66 = .ok (.iadd, 1) := by decide +kernel
theorem dX4_readNumber_67 : decode cX4_readNumber 67 = .ok (.putfield 42, 3) := by decide +kernel
theorem dX4_readNumber_70 : decode cX4_readNumber 70 = .ok (.goto (-65), 3) := by decide +kernel
theorem dX4_readNumber_73 : decode cX4_readNumber 73 = .ok (.aload_n 0, 1) := by decide +kernel
theorem dX4_readNumber_74 : decode cX4_readNumber 74 = .ok (.iconst 2, 1) := by decide +kernel
theorem dX4_readNumber_75 : decode cX4_readNumber 75 = .ok (.putfield 51, 3) := by decide +kernel
theorem dX4_readNumber_78 : decode cX4_readNumber 78 = .ok (.return_, 1) := by decide +kernel
theorem dX4_isSign_0 : decode cX4_isSign 0 = .ok (.iload_n 0, 1) := by decide +kernel
theorem dX4_isSign_1 : decode cX4_isSign 1 = .ok (.tableswitch 109 40 62 #[107, 107, 107, 107, 109, 107, 109, 107, 109, 109, 109, 109, 109, 109, 109, 109, 109, 109, 109, 107, 107, 107, 107], 107) := by decide +kernel
theorem dX4_isSign_108 : decode cX4_isSign 108 = .ok (.iconst 1, 1) := by decide +kernel
theorem dX4_isSign_109 : decode cX4_isSign 109 = .ok (.ireturn, 1) := by decide +kernel
theorem dX4_isSign_110 : decode cX4_isSign 110 = .ok (.iconst 0, 1) := by decide +kernel
theorem dX4_isSign_111 : decode cX4_isSign 111 = .ok (.ireturn, 1) := by decide +kernel
theorem dX4_readSign_0 : decode cX4_readSign 0 = .ok (.aload_n 0, 1) := by decide +kernel
theorem dX4_readSign_1 : decode cX4_readSign 1 = .ok (.dup, 1) := by decide +kernel
theorem dX4_readSign_2 : decode cX4_readSign 2 = .ok (.getfield 42, 3) := by decide +kernel
theorem dX4_readSign_5 : decode cX4_readSign 5 = .ok (.iconst 1, 1) := by decide +kernel
theorem dX4_readSign_6 : decode cX4_readSign 6 = .ok (.iadd, 1) := by decide +kernel
theorem dX4_readSign_7 : decode cX4_readSign 7 = .ok (.putfield 42, 3) := by decide +kernel
theorem dX4_readSign_10 : decode cX4_readSign 10 = .ok (.aload_n 0, 1) := by decide +kernel
theorem dX4_readSign_11 : decode cX4_readSign 11 = .ok (.getfield 42, 3) := by decide +kernel
theorem dX4_readSign_14 : decode cX4_readSign 14 = .ok (.aload_n 0, 1) := by decide +kernel
theorem dX4_readSign_15 : decode cX4_readSign 15 = .ok (.getfield 40, 3) := by decide +kernel
theorem dX4_readSign_18 : decode cX4_readSign 18 = .ok (.if_icmp .ge 15, 3) := by decide +kernel
theorem dX4_readSign_21 : decode cX4_readSign 21 = .ok (.aload_n 0, 1) := by decide +kernel
theorem dX4_readSign_22 : decode cX4_readSign 22 = .ok (.getfield 9, 3) := by decide +kernel
theorem dX4_readSign_25 : decode cX4_readSign 25 = .ok (.aload_n 0, 1) := by decide +kernel
theorem dX4_readSign_26 : decode cX4_readSign 26 = .ok (.getfield 42, 3) := by decide +kernel
theorem dX4_readSign_29 : decode cX4_readSign 29 = .ok (.iaload, 1) := by decide +kernel
theorem dX4_readSign_30 : decode cX4_readSign 30 = .ok (.goto 4, 3) := by decide +kernel
theorem dX4_readSign_33 : decode cX4_readSign 33 = .ok (.iconst 0, 1) := by decide +kernel
theorem dX4_readSign_34 : decode cX4_readSign 34 = .ok (.istore_n 2, 1) := by decide +kernel
theorem dX4_readSign_35 : decode cX4_readSign 35 = .ok (.iload_n 1, 1) := by decide +kernel
theorem dX4_readSign_36 : decode cX4_readSign 36 = .ok (.bipush 60, 2) := by decide +kernel
theorem dX4_readSign_38 : decode cX4_readSign 38 = .ok (.if_icmp .ne 27, 3) := by decide +kernel
theorem dX4_readSign_41 : decode cX4_readSign 41 = .ok (.iload_n 2, 1) := by decide +kernel
theorem dX4_readSign_42 : decode cX4_readSign 42 = .ok (.bipush 61, 2) := by decide +kernel
theorem dX4_readSign_44 : decode cX4_readSign 44 = .ok (.if_icmp .ne 21, 3) := by decide +kernel
theorem dX4_readSign_47 : decode cX4_readSign 47 = .ok (.aload_n 0, 1) := by decide +kernel
theorem dX4_readSign_48 : decode cX4_readSign 48 = .ok (.iconst 4, 1) := by decide +kernel
theorem dX4_readSign_49 : decode cX4_readSign 49 = .ok (.putfield 51, 3) := by decide +kernel
theorem dX4_readSign_52 : decode cX4_readSign 52 = .ok (.aload_n 0, 1) := by decide +kernel
theorem dX4_readSign_53 : decode cX4_readSign 53 = .ok (.dup, 1) := by decide +kernel
theorem dX4_readSign_54 : decode cX4_readSign 54 = .ok (.getfield 42, 3) := by decide +kernel
theorem dX4_readSign_57 : decode cX4_readSign 57 = .ok (.iconst 1, 1) := by decide +kernel
theorem dX4_readSign_58 : decode cX4_readSign 58 = .ok (.iadd, 1) := by decide +kernel
theorem dX4_readSign_59 : decode cX4_readSign 59 = .ok (.putfield 42, 3) := by decide +kernel
theorem dX4_readSign_62 : decode cX4_readSign 62 = .ok (.goto 80, 3) := by decide +kernel
theorem dX4_readSign_65 : decode cX4_readSign 65 = .ok (.iload_n 1, 1) := by decide +kernel
theorem dX4_readSign_66 : decode cX4_readSign 66 = .ok (.bipush 60, 2) := by decide +kernel
theorem dX4_readSign_68 : decode cX4_readSign 68 = .ok (.if_icmp .ne 27, 3) := by decide +kernel
theorem dX4_readSign_71 : decode cX4_readSign 71 = .ok (.iload_n 2, 1) := by decide +kernel
theorem dX4_readSign_72 : decode cX4_readSign 72 = .ok (.bipush 62, 2) := by decide +kernel
theorem dX4_readSign_74 : decode cX4_readSign 74 = .ok (.if_icmp .ne 21, 3) := by decide +kernel
theorem dX4_readSign_77 : decode cX4_readSign 77 = .ok (.aload_n 0, 1) := by decide +kernel
theorem dX4_readSign_78 : decode cX4_readSign 78 = .ok (.iconst 5, 1) := by decide +kernel
theorem dX4_readSign_79 : decode cX4_readSign 79 = .ok (.putfield 51, 3) := by decide +kernel
theorem dX4_readSign_82 : decode cX4_readSign 82 = .ok (.aload_n 0, 1) := by decide +kernel
theorem dX4_readSign_83 : decode cX4_readSign 83 = .ok (.dup, 1) := by decide +kernel
theorem dX4_readSign_84 : decode cX4_readSign 84 = .ok (.getfield 42, 3) := by decide +kernel
theorem dX4_readSign_87 : decode cX4_readSign 87 = .ok (.iconst 1, 1) := by decide +kernel
theorem dX4_readSign_88 : decode cX4_readSign 88 = .ok (.iadd, 1) := by decide +kernel
theorem dX4_readSign_89 : decode cX4_readSign 89 = .ok (.putfield 42, 3) := by decide +kernel
theorem dX4_readSign_92 : decode cX4_readSign 92 = .ok (.goto 50, 3) := by decide +kernel
theorem dX4_readSign_95 : decode cX4_readSign 95 = .ok (.iload_n 1, 1) := by decide +kernel
theorem dX4_readSign_96 : decode cX4_readSign 96 = .ok (.bipush 62, 2) := by decide +kernel
theorem dX4_readSign_98 : decode cX4_readSign 98 = .ok (.if_icmp .ne 28, 3) := by decide +kernel
theorem dX4_readSign_101 : decode cX4_readSign 101 = .ok (.iload_n 2, 1) := by decide +kernel
theorem dX4_readSign_102 : decode cX4_readSign 102 = .ok (.bipush 61, 2) := by decide +kernel
theorem dX4_readSign_104 : decode cX4_readSign 104 = .ok (.if_icmp .ne 22, 3) := by decide +kernel
theorem dX4_readSign_107 : decode cX4_readSign 107 = .ok (.aload_n 0, 1) := by decide +kernel
theorem dX4_readSign_108 : decode cX4_readSign 108 = .ok (.bipush 6, 2) := by decide +kernel
theorem dX4_readSign_110 : decode cX4_readSign 110 = .ok (.putfield 51, 3) := by decide +kernel
theorem dX4_readSign_113 : decode cX4_readSign 113 = .ok (.aload_n 0, 1) := by decide +kernel
theorem dX4_readSign_114 : decode cX4_readSign 114 = .ok (.dup, 1) := by decide +kernel
theorem dX4_readSign_115 : decode cX4_readSign 115 = .ok (.getfield 42, 3) := by decide +kernel
theorem dX4_readSign_118 : decode cX4_readSign 118 = .ok (.iconst 1, 1) := by decide +kernel
theorem dX4_readSign_119 : decode cX4_readSign 119 = .ok (.iadd, 1) := by decide +kernel
theorem dX4_readSign_120 : decode cX4_readSign 120 = .ok (.putfield 42, 3) := by decide +kernel
theorem dX4_readSign_123 : decode cX4_readSign 123 = .ok (.goto 19, 3) := by decide +kernel
theorem dX4_readSign_126 : decode cX4_readSign 126 = .ok (.aload_n 0, 1) := by decide +kernel
theorem dX4_readSign_127 : decode cX4_readSign 127 = .ok (.iload_n 1, 1) := by decide +kernel
theorem dX4_readSign_128 : decode cX4_readSign 128 = .ok (.invokestatic 78, 3) := by decide +kernel
theorem dX4_readSign_131 : decode cX4_readSign 131 = .ok (.ifCond .eq 7, 3) := by decide +kernel
theorem dX4_readSign_134 : decode cX4_readSign 134 = .ok (.iload_n 1, 1) := by decide +kernel
theorem dX4_readSign_135 : decode cX4_readSign 135 = .ok (.goto 4, 3) := by decide +kernel
theorem dX4_readSign_138 : decode cX4_readSign 138 = .ok (.iconst 1, 1) := by decide +kernel
theorem dX4_readSign_139 : decode cX4_readSign 139 = .ok (.putfield 51, 3) := by decide +kernel
theorem dX4_readSign_142 : decode cX4_readSign 142 = .ok (.return_, 1) := by decide +kernel
theorem dX4_advance_0 : decode cX4_advance 0 = .ok (.aload_n 0, 1) := by decide +kernel
theorem dX4_advance_1 : decode cX4_advance 1 = .ok (.getfield 42, 3) := by decide +kernel
theorem dX4_advance_4 : decode cX4_advance 4 = .ok (.aload_n 0, 1) := by decide +kernel
theorem dX4_advance_5 : decode cX4_advance 5 = .ok (.getfield 40, 3) := by decide +kernel
theorem dX4_advance_8 : decode cX4_advance 8 = .ok (.if_icmp .ge 44, 3) := by decide +kernel
theorem dX4_advance_11 : decode cX4_advance 11 = .ok (.aload_n 0, 1) := by decide +kernel
theorem dX4_advance_12 : decode cX4_advance 12 = .ok (.getfield 9, 3) := by decide +kernel
theorem dX4_advance_15 : decode cX4_advance 15 = .ok (.aload_n 0, 1) := by decide +kernel
theorem dX4_advance_16 : decode cX4_advance 16 = .ok (.getfield 42, 3) := by decide +kernel
theorem dX4_advance_19 : decode cX4_advance 19 = .ok (.iaload, 1) := by decide +kernel
theorem dX4_advance_20 : decode cX4_advance 20 = .ok (.bipush 32, 2) := by decide +kernel
theorem dX4_advance_22 : decode cX4_advance 22 = .ok (.if_icmp .eq 17, 3) := by decide +kernel
theorem dX4_advance_25 : decode cX4_advance 25 = .ok (.aload_n 0, 1) := by decide +kernel
theorem dX4_advance_26 : decode cX4_advance 26 = .ok (.getfield 9, 3) := by decide +kernel
theorem dX4_advance_29 : decode cX4_advance 29 = .ok (.aload_n 0, 1) := by decide +kernel
theorem dX4_advance_30 : decode cX4_advance 30 = .ok (.getfield 42, 3) := by decide +kernel
theorem dX4_advance_33 : decode cX4_advance 33 = .ok (.iaload, 1) := by decide +kernel
theorem dX4_advance_34 : decode cX4_advance 34 = .ok (.bipush 10, 2) := by decide +kernel
theorem dX4_advance_36 : decode cX4_advance 36 = .ok (.if_icmp .ne 16, 3) := by decide +kernel
theorem dX4_advance_39 : decode cX4_advance 39 = .ok (.aload_n 0, 1) := by decide +kernel
theorem dX4_advance_40 : decode cX4_advance 40 = .ok (.dup, 1) := by decide +kernel
theorem dX4_advance_41 : decode cX4_advance 41 = .ok (.getfield 42, 3) := by decide +kernel
theorem dX4_advance_44 : decode cX4_advance 44 = .ok (.iconst 1, 1) := by decide +kernel
theorem dX4_advance_45 : decode cX4_advance 45 = .ok (.iadd, 1) := by decide +kernel
theorem dX4_advance_46 : decode cX4_advance 46 = .ok (.putfield 42, 3) := by decide +kernel
theorem dX4_advance_49 : decode cX4_advance 49 = .ok (.goto (-49), 3) := by decide +kernel
theorem dX4_advance_52 : decode cX4_advance 52 = .ok (.aload_n 0, 1) := by decide +kernel
theorem dX4_advance_53 : decode cX4_advance 53 = .ok (.aload_n 0, 1) := by decide +kernel
theorem dX4_advance_54 : decode cX4_advance 54 = .ok (.getfield 42, 3) := by decide +kernel
theorem dX4_advance_57 : decode cX4_advance 57 = .ok (.putfield 48, 3) := by decide +kernel
theorem dX4_advance_60 : decode cX4_advance 60 = .ok (.aload_n 0, 1) := by decide +kernel
theorem dX4_advance_61 : decode cX4_advance 61 = .ok (.getfield 42, 3) := by decide +kernel
theorem dX4_advance_64 : decode cX4_advance 64 = .ok (.aload_n 0, 1) := by decide +kernel
theorem dX4_advance_65 : decode cX4_advance 65 = .ok (.getfield 40, 3) := by decide +kernel
theorem dX4_advance_68 : decode cX4_advance 68 = .ok (.if_icmp .lt 11, 3) := by decide +kernel
theorem dX4_advance_71 : decode cX4_advance 71 = .ok (.aload_n 0, 1) := by decide +kernel
theorem dX4_advance_72 : decode cX4_advance 72 = .ok (.iconst 0, 1) := by decide +kernel
theorem dX4_advance_73 : decode cX4_advance 73 = .ok (.putfield 51, 3) := by decide +kernel
theorem dX4_advance_76 : decode cX4_advance 76 = .ok (.goto 60, 3) := by decide +kernel
theorem dX4_advance_79 : decode cX4_advance 79 = .ok (.aload_n 0, 1) := by decide +kernel
theorem dX4_advance_80 : decode cX4_advance 80 = .ok (.getfield 9, 3) := by decide +kernel
theorem dX4_advance_83 : decode cX4_advance 83 = .ok (.aload_n 0, 1) := by decide +kernel
theorem dX4_advance_84 : decode cX4_advance 84 = .ok (.getfield 42, 3) := by decide +kernel
theorem dX4_advance_87 : decode cX4_advance 87 = .ok (.iaload, 1) := by decide +kernel
theorem dX4_advance_88 : decode cX4_advance 88 = .ok (.invokestatic 54, 3) := by decide +kernel
theorem dX4_advance_91 : decode cX4_advance 91 = .ok (.ifCond .eq 10, 3) := by decide +kernel
theorem dX4_advance_94 : decode cX4_advance 94 = .ok (.aload_n 0, 1) := by decide +kernel
theorem dX4_advance_95 : decode cX4_advance 95 = .ok (.invokevirtual 58, 3) := by decide +kernel
theorem dX4_advance_98 : decode cX4_advance 98 = .ok (.goto 38, 3) := by decide +kernel
theorem dX4_advance_101 : decode cX4_advance 101 = .ok (.aload_n 0, 1) := by decide +kernel
theorem dX4_advance_102 : decode cX4_advance 102 = .ok (.getfield 9, 3) := by decide +kernel
theorem dX4_advance_105 : decode cX4_advance 105 = .ok (.aload_n 0, 1) := by decide +kernel
theorem dX4_advance_106 : decode cX4_advance 106 = .ok (.getfield 42, 3) := by decide +kernel
theorem dX4_advance_109 : decode cX4_advance 109 = .ok (.iaload, 1) := by decide +kernel
theorem dX4_advance_110 : decode cX4_advance 110 = .ok (.invokestatic 61, 3) := by decide +kernel
theorem dX4_advance_113 : decode cX4_advance 113 = .ok (.ifCond .eq 10, 3) := by decide +kernel
theorem dX4_advance_116 : decode cX4_advance 116 = .ok (.aload_n 0, 1) := by decide +kernel
theorem dX4_advance_117 : decode cX4_advance 117 = .ok (.invokevirtual 64, 3) := by decide +kernel
theorem dX4_advance_120 : decode cX4_advance 120 = .ok (.goto 16, 3) := by decide +kernel
theorem dX4_advance_123 : decode cX4_advance 123 = .ok (.aload_n 0, 1) := by decide +kernel
theorem dX4_advance_124 : decode cX4_advance 124 = .ok (.aload_n 0, 1) := by decide +kernel
theorem dX4_advance_125 : decode cX4_advance 125 = .ok (.getfield 9, 3) := by decide +kernel
theorem dX4_advance_128 : decode cX4_advance 128 = .ok (.aload_n 0, 1) := by decide +kernel
theorem dX4_advance_129 : decode cX4_advance 129 = .ok (.getfield 42, 3) := by decide +kernel
theorem dX4_advance_132 : decode cX4_advance 132 = .ok (.iaload, 1) := by decide +kernel
theorem dX4_advance_133 : decode cX4_advance 133 = .ok (.invokevirtual 67, 3) := by decide +kernel
theorem dX4_advance_136 : decode cX4_advance 136 = .ok (.return_, 1) := by decide +kernel
def f_X5_clear (N : Nat) (h : Hp) (o : Nat) : Option Hp :=
  (f_X0_clear N h o).bind fun h1 =>
  lt_ (sI h1 5 o 10 0) fun h2 =>
  lt_ (sI h2 5 o 11 0) fun h3 =>
  lt_ (sI h3 5 o 12 0) fun h4 =>
  lt_ (sI h4 5 o 13 0) fun h5 =>
  lt_ (sI h5 5 o 14 0) fun h6 =>
  lt_ (sI h6 5 o 15 0) fun h7 =>
  lt_ (sI h7 5 o 16 0) fun h8 =>
  lt_ (sI h8 5 o 17 0) fun h9 =>
  lt_ (sI h9 5 o 18 0) fun h10 =>
  lt_ (sI h10 5 o 19 0) fun h11 =>
  some h11
abbrev rmX5_clear : Room := { frames := 1, cells := 0, slots := 0, locals := 21 }
set_option maxRecDepth 100000 in
set_option maxHeartbeats 4000000 in
theorem w_X5_clear (X : Cx) (F : Fx X cX5_clear RX5 none rmX5_clear) (hA : xA X = Aw (xG X)) (hL : xL X = 1) (N : Nat) (h : Hp) (o : Nat) (h_o : o < cnt 5) : Wm X (fun _ => none) (fun v => v) (fun _ => True) 0 [(0, .ref (adr (xG X) 5 o 0))] [] h (f_X5_clear N h o) := by
  have hS : ∀ i : Nat, i < 1 → i < xL X := fun i z => by rw [hL]; exact z
  unfold f_X5_clear
  refine r_aload_n F 0 rfl dX5_clear_0 rfl ?_
  refine r_getS F frX5_42 h_o o rfl dX5_clear_1 ?_
  refine k_vH (run_V F cvX5_46 h_o (c_X0_clear (xG X) _ N h o h_o) rfl rfl ⟨⟨rfl, rfl⟩, Nat.le_of_ble_eq_true rfl, Nat.le_of_ble_eq_true rfl⟩ (Nat.le_of_ble_eq_true rfl) dX5_clear_4) fun h1 => ?_
  refine r_aload_n F 0 rfl dX5_clear_7 rfl ?_
  refine r_iconst F (v := 0) dX5_clear_8 (by decide) ?_
  refine r_putI F frX5_49 h_o rfl rfl dX5_clear_9 fun h2 => ?_
  refine r_aload_n F 0 rfl dX5_clear_12 rfl ?_
  refine r_iconst F (v := 0) dX5_clear_13 (by decide) ?_
  refine r_putI F frX5_53 h_o rfl rfl dX5_clear_14 fun h3 => ?_
  refine r_aload_n F 0 rfl dX5_clear_17 rfl ?_
  refine r_iconst F (v := 0) dX5_clear_18 (by decide) ?_
  refine r_putI F frX5_56 h_o rfl rfl dX5_clear_19 fun h4 => ?_
  refine r_aload_n F 0 rfl dX5_clear_22 rfl ?_
  refine r_iconst F (v := 0) dX5_clear_23 (by decide) ?_
  refine r_putI F frX5_59 h_o rfl rfl dX5_clear_24 fun h5 => ?_
  refine r_aload_n F 0 rfl dX5_clear_27 rfl ?_
  refine r_iconst F (v := 0) dX5_clear_28 (by decide) ?_
  refine r_putI F frX5_62 h_o rfl rfl dX5_clear_29 fun h6 => ?_
  refine r_aload_n F 0 rfl dX5_clear_32 rfl ?_
  refine r_iconst F (v := 0) dX5_clear_33 (by decide) ?_
  refine r_putI F frX5_65 h_o rfl rfl dX5_clear_34 fun h7 => ?_
  refine r_aload_n F 0 rfl dX5_clear_37 rfl ?_
  refine r_iconst F (v := 0) dX5_clear_38 (by decide) ?_
  refine r_putI F frX5_68 h_o rfl rfl dX5_clear_39 fun h8 => ?_
  refine r_aload_n F 0 rfl dX5_clear_42 rfl ?_
  refine r_iconst F (v := 0) dX5_clear_43 (by decide) ?_
  refine r_putI F frX5_71 h_o rfl rfl dX5_clear_44 fun h9 => ?_
  refine r_aload_n F 0 rfl dX5_clear_47 rfl ?_
  refine r_iconst F (v := 0) dX5_clear_48 (by decide) ?_
  refine r_putI F frX5_74 h_o rfl rfl dX5_clear_49 fun h10 => ?_
  refine r_aload_n F 0 rfl dX5_clear_52 rfl ?_
  refine r_iconst F (v := 0) dX5_clear_53 (by decide) ?_
  refine r_putI F frX5_77 h_o rfl rfl dX5_clear_54 fun h11 => ?_
  exact r_vret F hA rfl rfl trivial dX5_clear_57
theorem c_X5_clear (G : Gx) (l : Launch) (N : Nat) (h : Hp) (o : Nat) (h_o : o < cnt 5) : Ctr G l yX5_clear (.code yX5_clear cX5_clear 1 none :: GT) rmX5_clear [.ref (adr G 5 o 0)] h (f_X5_clear N h o) (fun _ => none) (fun v => v) (fun _ => True) :=
  ctr_of (by decide) (Nat.le_of_ble_eq_true rfl) ⟨rfl, rfl⟩ fun X _ e2 hA hL F => by subst e2; exact w_X5_clear X F hA hL N h o h_o
def f_X4_isLetter (p0 : Int32) : Option Bool :=
  jn (fun (v1 : Bool) =>
    some v1) fun (j17 : Bool → Option Bool) =>
  jn (
    j17 false) fun (j16 : Option Bool) =>
  if p0 < 97 then
    j16
  else
  if 122 < p0 then
    j16
  else
  j17 true
abbrev rmX4_isLetter : Room := { frames := 0, cells := 0, slots := 0, locals := 0 }
set_option maxRecDepth 100000 in
set_option maxHeartbeats 4000000 in
theorem w_X4_isLetter (X : Cx) (F : Fx X cX4_isLetter RX4 (some .boolean) rmX4_isLetter) (hA : xA X = Aw (xG X)) (hL : xL X = 1) (h : Hp) (p0 : Int32) : Wm X (fun v => some (.int (b2i v))) (fun _ => h) (fun _ => True) 0 [(0, .int p0)] [] h (f_X4_isLetter p0) := by
  have hS : ∀ i : Nat, i < 1 → i < xL X := fun i z => by rw [hL]; exact z
  unfold f_X4_isLetter
  refine r_iload_n F 0 rfl dX4_isLetter_0 rfl ?_
  refine r_bipush F (v := 97) dX4_isLetter_1 (by decide) ?_
  refine Wt_jn (fun (j17 : Bool → Option Bool) => ∀ v1 : Bool, Wm X (fun v => some (.int (b2i v))) (fun _ => h) (fun _ => True) 17 [] [.int (b2i v1)] h (j17 v1)) ?_ fun j17 hj17 => ?_
  · intro v1
    exact r_zret F hA v1 rfl rfl rfl trivial dX4_isLetter_17
  refine Wt_jn (fun (j16 : Option Bool) => Wm X (fun v => some (.int (b2i v))) (fun _ => h) (fun _ => True) 16 [] [] h (j16)) ?_ fun j16 hj16 => ?_
  · skip
    refine r_iconst F (v := 0) dX4_isLetter_16 (by decide) ?_
    exact Wt_pick [] rfl (hj17 false)
  refine r_icmplt F (tgt := 16) dX4_isLetter_3 (by decide) ?_ ?_
  · skip
    exact Wt_pick [] rfl (hj16)
  refine r_iload_n F 0 rfl dX4_isLetter_6 rfl ?_
  refine r_bipush F (v := 122) dX4_isLetter_7 (by decide) ?_
  refine r_icmpgt F (tgt := 16) dX4_isLetter_9 (by decide) ?_ ?_
  · skip
    exact Wt_pick [] rfl (hj16)
  refine r_iconst F (v := 1) dX4_isLetter_12 (by decide) ?_
  refine r_goto F (tgt := 17) dX4_isLetter_13 (by decide) ?_
  exact Wt_pick [] rfl (hj17 true)
theorem c_X4_isLetter (G : Gx) (l : Launch) (h : Hp) (p0 : Int32) : Ctr G l yX4_isLetter (.code yX4_isLetter cX4_isLetter 1 (some .boolean) :: GT) rmX4_isLetter [.int p0] h (f_X4_isLetter p0) (fun v => some (.int (b2i v))) (fun _ => h) (fun _ => True) :=
  ctr_of (by decide) (Nat.le_of_ble_eq_true rfl) ⟨rfl, rfl⟩ fun X _ e2 hA hL F => by subst e2; exact w_X4_isLetter X F hA hL h p0
def f_X4_readWord_106 (r106 : Int32 → Hp → Option Hp) (v5 : Int32) (h6 : Hp) : Option Hp :=
  if 26 ≤ v5 then
    some h6
  else
  grd (inb v5 26) <|
  jn (fun (h7 : Hp) =>
    lt_ (v5 + 1) fun v8 =>
    r106 v8 h7) fun (j134 : Hp → Option Hp) =>
  if ¬ (gA h6 4 0 1 v5.toNatClampNeg) = (gI h6 4 0 8) then
    j134 h6
  else
  lt_ (sI h6 4 0 6 (256 + v5)) fun h9 =>
  j134 h9
def f_X4_readWord_8 (N : Nat) (r8 : Int32 → Hp → Option Hp) (v2 : Int32) (h3 : Hp) : Option Hp :=
  jn (
    if ((gI h3 4 0 4) - (gI h3 4 0 5)) ≤ 6 then
      lt_ (sI h3 4 0 6 3) fun h4 =>
      iter (fun _ _ => none) f_X4_readWord_106 N 0 h4
    else
    lt_ (sI h3 4 0 6 1) fun h10 =>
    some h10) fun (j79 : Option Hp) =>
  if (gI h3 4 0 3) ≤ (gI h3 4 0 4) then
    j79
  else
  grd (inb (gI h3 4 0 4) 700) <|
  (f_X4_isLetter (gA h3 4 0 0 (gI h3 4 0 4).toNatClampNeg)).bind fun v11 =>
  if (b2i v11) = 0 then
    j79
  else
  jn (fun (h12 : Hp) =>
    lt_ (v2 + (-5)) fun v13 =>
    lt_ (sI h12 4 0 4 ((gI h12 4 0 4) + 1)) fun h14 =>
    r8 v13 h14) fun (j63 : Hp → Option Hp) =>
  if v2 < 0 then
    j63 h3
  else
  grd (inb (gI h3 4 0 4) 700) <|
  lt_ (sI h3 4 0 8 ((gI h3 4 0 8) ||| ((((gA h3 4 0 0 (gI h3 4 0 4).toNatClampNeg) - 97) + 1) <<< (v2 &&& 31)))) fun h15 =>
  j63 h15
def f_X4_readWord (N : Nat) (h : Hp) : Option Hp :=
  lt_ (sI h 4 0 8 0) fun h1 =>
  iter (fun _ _ => none) (f_X4_readWord_8 N) N 25 h1
abbrev rmX4_readWord : Room := { frames := 1, cells := 0, slots := 0, locals := 20 }
set_option maxRecDepth 100000 in
set_option maxHeartbeats 4000000 in
theorem w_X4_readWord (X : Cx) (F : Fx X cX4_readWord RX4 none rmX4_readWord) (hA : xA X = Aw (xG X)) (hL : xL X = 3) (N : Nat) (h : Hp) : Wm X (fun _ => none) (fun v => v) (fun _ => True) 0 [(0, .ref (adr (xG X) 4 0 0))] [] h (f_X4_readWord N h) := by
  have hS : ∀ i : Nat, i < 3 → i < xL X := fun i z => by rw [hL]; exact z
  unfold f_X4_readWord
  refine r_aload_n F 0 rfl dX4_readWord_0 rfl ?_
  refine r_iconst F (v := 0) dX4_readWord_1 (by decide) ?_
  refine r_putI F frX4_71 (by decide) rfl rfl dX4_readWord_2 fun h1 => ?_
  refine r_bipush F (v := 25) dX4_readWord_5 (by decide) ?_
  refine r_istore_n F [(1, .int 25), (0, .ref (adr (xG X) 4 0 0))] rfl dX4_readWord_7 rfl (hS _ (by decide)) ?_
  have hl8 : ∀ n : Nat, ∀ v2 : Int32, ∀ h3 : Hp, Wm X (fun _ => none) (fun v => v) (fun _ => True) 8 [(0, .ref (adr (xG X) 4 0 0)), (1, .int v2)] [] h3 (iter (fun _ _ => none) (f_X4_readWord_8 N) n v2 h3) := by
    intro n
    induction n with
    | zero => intro v2 h3; exact Wt_none
    | succ n ih =>
      revert ih
      show (∀ v2 : Int32, ∀ h3 : Hp, Wm X (fun _ => none) (fun v => v) (fun _ => True) 8 [(0, .ref (adr (xG X) 4 0 0)), (1, .int v2)] [] h3 (iter (fun _ _ => none) (f_X4_readWord_8 N) n v2 h3)) → _
      intro ih8 v2 h3
      show Wm X (fun _ => none) (fun v => v) (fun _ => True) 8 [(0, .ref (adr (xG X) 4 0 0)), (1, .int v2)] [] h3 (f_X4_readWord_8 N (iter (fun _ _ => none) (f_X4_readWord_8 N) n) v2 h3)
      revert ih8
      generalize iter (fun _ _ => none) (f_X4_readWord_8 N) n = r8
      intro ih8
      unfold f_X4_readWord_8
      refine r_aload_n F 0 rfl dX4_readWord_8 rfl ?_
      refine r_getI F frX4_42 (by decide) dX4_readWord_9 ?_
      refine r_aload_n F 0 rfl dX4_readWord_12 rfl ?_
      refine r_getI F frX4_40 (by decide) dX4_readWord_13 ?_
      refine Wt_jn (fun (j79 : Option Hp) => Wm X (fun _ => none) (fun v => v) (fun _ => True) 79 [(0, .ref (adr (xG X) 4 0 0))] [] h3 (j79)) ?_ fun j79 hj79 => ?_
      · skip
        refine r_aload_n F 0 rfl dX4_readWord_79 rfl ?_
        refine r_getI F frX4_42 (by decide) dX4_readWord_80 ?_
        refine r_aload_n F 0 rfl dX4_readWord_83 rfl ?_
        refine r_getI F frX4_48 (by decide) dX4_readWord_84 ?_
        refine r_isub F dX4_readWord_87 ?_
        refine r_bipush F (v := 6) dX4_readWord_88 (by decide) ?_
        refine r_icmple F (tgt := 99) dX4_readWord_90 (by decide) ?_ ?_
        · skip
          refine r_aload_n F 0 rfl dX4_readWord_99 rfl ?_
          refine r_iconst F (v := 3) dX4_readWord_100 (by decide) ?_
          refine r_putI F frX4_51 (by decide) rfl rfl dX4_readWord_101 fun h4 => ?_
          refine r_iconst F (v := 0) dX4_readWord_104 (by decide) ?_
          refine r_istore_n F [(2, .int 0), (0, .ref (adr (xG X) 4 0 0))] rfl dX4_readWord_105 rfl (hS _ (by decide)) ?_
          have hl106 : ∀ n : Nat, ∀ v5 : Int32, ∀ h6 : Hp, Wm X (fun _ => none) (fun v => v) (fun _ => True) 106 [(0, .ref (adr (xG X) 4 0 0)), (2, .int v5)] [] h6 (iter (fun _ _ => none) f_X4_readWord_106 n v5 h6) := by
            intro n
            induction n with
            | zero => intro v5 h6; exact Wt_none
            | succ n ih =>
              revert ih
              show (∀ v5 : Int32, ∀ h6 : Hp, Wm X (fun _ => none) (fun v => v) (fun _ => True) 106 [(0, .ref (adr (xG X) 4 0 0)), (2, .int v5)] [] h6 (iter (fun _ _ => none) f_X4_readWord_106 n v5 h6)) → _
              intro ih106 v5 h6
              show Wm X (fun _ => none) (fun v => v) (fun _ => True) 106 [(0, .ref (adr (xG X) 4 0 0)), (2, .int v5)] [] h6 (f_X4_readWord_106 (iter (fun _ _ => none) f_X4_readWord_106 n) v5 h6)
              revert ih106
              generalize iter (fun _ _ => none) f_X4_readWord_106 n = r106
              intro ih106
              unfold f_X4_readWord_106
              refine r_iload_n F 1 rfl dX4_readWord_106 rfl ?_
              refine r_bipush F (v := 26) dX4_readWord_107 (by decide) ?_
              refine r_icmpge F (tgt := 140) dX4_readWord_109 (by decide) ?_ ?_
              · skip
                exact r_vret F hA rfl rfl trivial dX4_readWord_140
              refine r_aload_n F 0 rfl dX4_readWord_112 rfl ?_
              refine r_getA F frX4_15 (by decide) dX4_readWord_113 ?_
              refine r_iload_n F 1 rfl dX4_readWord_116 rfl ?_
              refine r_iaload F (ar_4_1 0 (by decide)) dX4_readWord_117 ?_
              refine r_aload_n F 0 rfl dX4_readWord_118 rfl ?_
              refine r_getI F frX4_71 (by decide) dX4_readWord_119 ?_
              refine Wt_jn (fun (j134 : Hp → Option Hp) => ∀ h7 : Hp, Wm X (fun _ => none) (fun v => v) (fun _ => True) 134 [(0, .ref (adr (xG X) 4 0 0)), (2, .int v5)] [] h7 (j134 h7)) ?_ fun j134 hj134 => ?_
              · intro h7
                refine r_iinc F (v := 1) 1 rfl (by decide) (fun v8 => [(2, .int v8), (0, .ref (adr (xG X) 4 0 0))]) (fun _ => rfl) dX4_readWord_134 (hS _ (by decide)) fun v8 => ?_
                refine r_goto F (tgt := 106) dX4_readWord_137 (by decide) ?_
                exact Wt_pick [1, 0] rfl (ih106 v8 h7)
              refine r_icmpne F (tgt := 134) dX4_readWord_122 (by decide) ?_ ?_
              · skip
                exact Wt_pick [0, 1] rfl (hj134 h6)
              refine r_aload_n F 0 rfl dX4_readWord_125 rfl ?_
              refine r_sipush F (v := 256) dX4_readWord_126 (by decide) ?_
              refine r_iload_n F 1 rfl dX4_readWord_129 rfl ?_
              refine r_iadd F dX4_readWord_130 ?_
              refine r_putI F frX4_51 (by decide) rfl rfl dX4_readWord_131 fun h9 => ?_
              exact Wt_pick [0, 1] rfl (hj134 h9)
          exact Wt_pick [1, 0] rfl (hl106 N 0 h4)
        refine r_aload_n F 0 rfl dX4_readWord_93 rfl ?_
        refine r_iconst F (v := 1) dX4_readWord_94 (by decide) ?_
        refine r_putI F frX4_51 (by decide) rfl rfl dX4_readWord_95 fun h10 => ?_
        exact r_vret F hA rfl rfl trivial dX4_readWord_98
      refine r_icmpge F (tgt := 79) dX4_readWord_16 (by decide) ?_ ?_
      · skip
        exact Wt_pick [0] rfl (hj79)
      refine r_aload_n F 0 rfl dX4_readWord_19 rfl ?_
      refine r_getA F frX4_9 (by decide) dX4_readWord_20 ?_
      refine r_aload_n F 0 rfl dX4_readWord_23 rfl ?_
      refine r_getI F frX4_42 (by decide) dX4_readWord_24 ?_
      refine r_iaload F (ar_4_0 0 (by decide)) dX4_readWord_27 ?_
      refine k_zP (run_S F csX4_54 (c_X4_isLetter (xG X) _ h3 (gA h3 4 0 0 (gI h3 4 0 4).toNatClampNeg)) rfl rfl ⟨⟨rfl, rfl⟩, Nat.le_of_ble_eq_true rfl, Nat.le_of_ble_eq_true rfl⟩ (Nat.le_of_ble_eq_true rfl) dX4_readWord_28) fun v11 _ => ?_
      refine r_ifeq F (tgt := 79) dX4_readWord_31 (by decide) ?_ ?_
      · skip
        exact Wt_pick [0] rfl (hj79)
      refine r_iload_n F 1 rfl dX4_readWord_34 rfl ?_
      refine Wt_jn (fun (j63 : Hp → Option Hp) => ∀ h12 : Hp, Wm X (fun _ => none) (fun v => v) (fun _ => True) 63 [(0, .ref (adr (xG X) 4 0 0)), (1, .int v2)] [] h12 (j63 h12)) ?_ fun j63 hj63 => ?_
      · intro h12
        refine r_iinc F (v := (-5)) 1 rfl (by decide) (fun v13 => [(1, .int v13), (0, .ref (adr (xG X) 4 0 0))]) (fun _ => rfl) dX4_readWord_63 (hS _ (by decide)) fun v13 => ?_
        refine r_aload_n F 1 rfl dX4_readWord_66 rfl ?_
        refine r_dup F rfl dX4_readWord_67 ?_
        refine r_getI F frX4_42 (by decide) dX4_readWord_68 ?_
        refine r_iconst F (v := 1) dX4_readWord_71 (by decide) ?_
        refine r_iadd F dX4_readWord_72 ?_
        refine r_putI F frX4_42 (by decide) rfl rfl dX4_readWord_73 fun h14 => ?_
        refine r_goto F (tgt := 8) dX4_readWord_76 (by decide) ?_
        exact Wt_pick [1, 0] rfl (ih8 v13 h14)
      refine r_iflt F (tgt := 63) dX4_readWord_35 (by decide) ?_ ?_
      · skip
        exact Wt_pick [0, 1] rfl (hj63 h3)
      refine r_aload_n F 0 rfl dX4_readWord_38 rfl ?_
      refine r_dup F rfl dX4_readWord_39 ?_
      refine r_getI F frX4_71 (by decide) dX4_readWord_40 ?_
      refine r_aload_n F 0 rfl dX4_readWord_43 rfl ?_
      refine r_getA F frX4_9 (by decide) dX4_readWord_44 ?_
      refine r_aload_n F 0 rfl dX4_readWord_47 rfl ?_
      refine r_getI F frX4_42 (by decide) dX4_readWord_48 ?_
      refine r_iaload F (ar_4_0 0 (by decide)) dX4_readWord_51 ?_
      refine r_bipush F (v := 97) dX4_readWord_52 (by decide) ?_
      refine r_isub F dX4_readWord_54 ?_
      refine r_iconst F (v := 1) dX4_readWord_55 (by decide) ?_
      refine r_iadd F dX4_readWord_56 ?_
      refine r_iload_n F 1 rfl dX4_readWord_57 rfl ?_
      refine r_ishl F dX4_readWord_58 ?_
      refine r_ior F dX4_readWord_59 ?_
      refine r_putI F frX4_71 (by decide) rfl rfl dX4_readWord_60 fun h15 => ?_
      exact Wt_pick [0, 1] rfl (hj63 h15)
  exact Wt_pick [1, 0] rfl (hl8 N 25 h1)
theorem c_X4_readWord (G : Gx) (l : Launch) (N : Nat) (h : Hp) : Ctr G l yX4_readWord (.code yX4_readWord cX4_readWord 3 none :: GT) rmX4_readWord [.ref (adr G 4 0 0)] h (f_X4_readWord N h) (fun _ => none) (fun v => v) (fun _ => True) :=
  ctr_of (by decide) (Nat.le_of_ble_eq_true rfl) ⟨rfl, rfl⟩ fun X _ e2 hA hL F => by subst e2; exact w_X4_readWord X F hA hL N h
def f_X4_isDigit (p0 : Int32) : Option Bool :=
  jn (fun (v1 : Bool) =>
    some v1) fun (j17 : Bool → Option Bool) =>
  jn (
    j17 false) fun (j16 : Option Bool) =>
  if p0 < 48 then
    j16
  else
  if 57 < p0 then
    j16
  else
  j17 true
abbrev rmX4_isDigit : Room := { frames := 0, cells := 0, slots := 0, locals := 0 }
set_option maxRecDepth 100000 in
set_option maxHeartbeats 4000000 in
theorem w_X4_isDigit (X : Cx) (F : Fx X cX4_isDigit RX4 (some .boolean) rmX4_isDigit) (hA : xA X = Aw (xG X)) (hL : xL X = 1) (h : Hp) (p0 : Int32) : Wm X (fun v => some (.int (b2i v))) (fun _ => h) (fun _ => True) 0 [(0, .int p0)] [] h (f_X4_isDigit p0) := by
  have hS : ∀ i : Nat, i < 1 → i < xL X := fun i z => by rw [hL]; exact z
  unfold f_X4_isDigit
  refine r_iload_n F 0 rfl dX4_isDigit_0 rfl ?_
  refine r_bipush F (v := 48) dX4_isDigit_1 (by decide) ?_
  refine Wt_jn (fun (j17 : Bool → Option Bool) => ∀ v1 : Bool, Wm X (fun v => some (.int (b2i v))) (fun _ => h) (fun _ => True) 17 [] [.int (b2i v1)] h (j17 v1)) ?_ fun j17 hj17 => ?_
  · intro v1
    exact r_zret F hA v1 rfl rfl rfl trivial dX4_isDigit_17
  refine Wt_jn (fun (j16 : Option Bool) => Wm X (fun v => some (.int (b2i v))) (fun _ => h) (fun _ => True) 16 [] [] h (j16)) ?_ fun j16 hj16 => ?_
  · skip
    refine r_iconst F (v := 0) dX4_isDigit_16 (by decide) ?_
    exact Wt_pick [] rfl (hj17 false)
  refine r_icmplt F (tgt := 16) dX4_isDigit_3 (by decide) ?_ ?_
  · skip
    exact Wt_pick [] rfl (hj16)
  refine r_iload_n F 0 rfl dX4_isDigit_6 rfl ?_
  refine r_bipush F (v := 57) dX4_isDigit_7 (by decide) ?_
  refine r_icmpgt F (tgt := 16) dX4_isDigit_9 (by decide) ?_ ?_
  · skip
    exact Wt_pick [] rfl (hj16)
  refine r_iconst F (v := 1) dX4_isDigit_12 (by decide) ?_
  refine r_goto F (tgt := 17) dX4_isDigit_13 (by decide) ?_
  exact Wt_pick [] rfl (hj17 true)
theorem c_X4_isDigit (G : Gx) (l : Launch) (h : Hp) (p0 : Int32) : Ctr G l yX4_isDigit (.code yX4_isDigit cX4_isDigit 1 (some .boolean) :: GT) rmX4_isDigit [.int p0] h (f_X4_isDigit p0) (fun v => some (.int (b2i v))) (fun _ => h) (fun _ => True) :=
  ctr_of (by decide) (Nat.le_of_ble_eq_true rfl) ⟨rfl, rfl⟩ fun X _ e2 hA hL F => by subst e2; exact w_X4_isDigit X F hA hL h p0
def f_X4_readNumber_5 (r5 : Hp → Option Hp) (h2 : Hp) : Option Hp :=
  jn (
    lt_ (sI h2 4 0 6 2) fun h3 =>
    some h3) fun (j73 : Option Hp) =>
  if (gI h2 4 0 3) ≤ (gI h2 4 0 4) then
    j73
  else
  grd (inb (gI h2 4 0 4) 700) <|
  (f_X4_isDigit (gA h2 4 0 0 (gI h2 4 0 4).toNatClampNeg)).bind fun v4 =>
  if (b2i v4) = 0 then
    j73
  else
  grd (inb (gI h2 4 0 4) 700) <|
  lt_ (sI h2 4 0 7 (if 1000000 < ((((gI h2 4 0 7) * 10) + (gA h2 4 0 0 (gI h2 4 0 4).toNatClampNeg)) - 48) then 1000000 else ((((gI h2 4 0 7) * 10) + (gA h2 4 0 0 (gI h2 4 0 4).toNatClampNeg)) - 48))) fun h5 =>
  lt_ (sI h5 4 0 4 ((gI h5 4 0 4) + 1)) fun h6 =>
  r5 h6
def f_X4_readNumber (N : Nat) (h : Hp) : Option Hp :=
  lt_ (sI h 4 0 7 0) fun h1 =>
  iter (fun _ => none) f_X4_readNumber_5 N h1
abbrev rmX4_readNumber : Room := { frames := 1, cells := 0, slots := 0, locals := 21 }
set_option maxRecDepth 100000 in
set_option maxHeartbeats 4000000 in
theorem w_X4_readNumber (X : Cx) (F : Fx X cX4_readNumber RX4 none rmX4_readNumber) (hA : xA X = Aw (xG X)) (hL : xL X = 1) (N : Nat) (h : Hp) : Wm X (fun _ => none) (fun v => v) (fun _ => True) 0 [(0, .ref (adr (xG X) 4 0 0))] [] h (f_X4_readNumber N h) := by
  have hS : ∀ i : Nat, i < 1 → i < xL X := fun i z => by rw [hL]; exact z
  unfold f_X4_readNumber
  refine r_aload_n F 0 rfl dX4_readNumber_0 rfl ?_
  refine r_iconst F (v := 0) dX4_readNumber_1 (by decide) ?_
  refine r_putI F frX4_74 (by decide) rfl rfl dX4_readNumber_2 fun h1 => ?_
  have hl5 : ∀ n : Nat, ∀ h2 : Hp, Wm X (fun _ => none) (fun v => v) (fun _ => True) 5 [(0, .ref (adr (xG X) 4 0 0))] [] h2 (iter (fun _ => none) f_X4_readNumber_5 n h2) := by
    intro n
    induction n with
    | zero => intro h2; exact Wt_none
    | succ n ih =>
      revert ih
      show (∀ h2 : Hp, Wm X (fun _ => none) (fun v => v) (fun _ => True) 5 [(0, .ref (adr (xG X) 4 0 0))] [] h2 (iter (fun _ => none) f_X4_readNumber_5 n h2)) → _
      intro ih5 h2
      show Wm X (fun _ => none) (fun v => v) (fun _ => True) 5 [(0, .ref (adr (xG X) 4 0 0))] [] h2 (f_X4_readNumber_5 (iter (fun _ => none) f_X4_readNumber_5 n) h2)
      revert ih5
      generalize iter (fun _ => none) f_X4_readNumber_5 n = r5
      intro ih5
      unfold f_X4_readNumber_5
      refine r_aload_n F 0 rfl dX4_readNumber_5 rfl ?_
      refine r_getI F frX4_42 (by decide) dX4_readNumber_6 ?_
      refine r_aload_n F 0 rfl dX4_readNumber_9 rfl ?_
      refine r_getI F frX4_40 (by decide) dX4_readNumber_10 ?_
      refine Wt_jn (fun (j73 : Option Hp) => Wm X (fun _ => none) (fun v => v) (fun _ => True) 73 [(0, .ref (adr (xG X) 4 0 0))] [] h2 (j73)) ?_ fun j73 hj73 => ?_
      · skip
        refine r_aload_n F 0 rfl dX4_readNumber_73 rfl ?_
        refine r_iconst F (v := 2) dX4_readNumber_74 (by decide) ?_
        refine r_putI F frX4_51 (by decide) rfl rfl dX4_readNumber_75 fun h3 => ?_
        exact r_vret F hA rfl rfl trivial dX4_readNumber_78
      refine r_icmpge F (tgt := 73) dX4_readNumber_13 (by decide) ?_ ?_
      · skip
        exact Wt_pick [0] rfl (hj73)
      refine r_aload_n F 0 rfl dX4_readNumber_16 rfl ?_
      refine r_getA F frX4_9 (by decide) dX4_readNumber_17 ?_
      refine r_aload_n F 0 rfl dX4_readNumber_20 rfl ?_
      refine r_getI F frX4_42 (by decide) dX4_readNumber_21 ?_
      refine r_iaload F (ar_4_0 0 (by decide)) dX4_readNumber_24 ?_
      refine k_zP (run_S F csX4_61 (c_X4_isDigit (xG X) _ h2 (gA h2 4 0 0 (gI h2 4 0 4).toNatClampNeg)) rfl rfl ⟨⟨rfl, rfl⟩, Nat.le_of_ble_eq_true rfl, Nat.le_of_ble_eq_true rfl⟩ (Nat.le_of_ble_eq_true rfl) dX4_readNumber_25) fun v4 _ => ?_
      refine r_ifeq F (tgt := 73) dX4_readNumber_28 (by decide) ?_ ?_
      · skip
        exact Wt_pick [0] rfl (hj73)
      refine r_aload_n F 0 rfl dX4_readNumber_31 rfl ?_
      refine r_aload_n F 0 rfl dX4_readNumber_32 rfl ?_
      refine r_getI F frX4_74 (by decide) dX4_readNumber_33 ?_
      refine r_bipush F (v := 10) dX4_readNumber_36 (by decide) ?_
      refine r_imul F dX4_readNumber_38 ?_
      refine r_aload_n F 0 rfl dX4_readNumber_39 rfl ?_
      refine r_getA F frX4_9 (by decide) dX4_readNumber_40 ?_
      refine r_aload_n F 0 rfl dX4_readNumber_43 rfl ?_
      refine r_getI F frX4_42 (by decide) dX4_readNumber_44 ?_
      refine r_iaload F (ar_4_0 0 (by decide)) dX4_readNumber_47 ?_
      refine r_iadd F dX4_readNumber_48 ?_
      refine r_bipush F (v := 48) dX4_readNumber_49 (by decide) ?_
      refine r_isub F dX4_readNumber_51 ?_
      refine r_ldc F wd_1031 dX4_readNumber_52 ?_
      refine r_min F wd_1012 ws_min ⟨Nat.le_of_ble_eq_true rfl, Nat.le_of_ble_eq_true rfl⟩ dX4_readNumber_54 ?_
      refine r_putI F frX4_74 (by decide) rfl rfl dX4_readNumber_57 fun h5 => ?_
      refine r_aload_n F 0 rfl dX4_readNumber_60 rfl ?_
      refine r_dup F rfl dX4_readNumber_61 ?_
      refine r_getI F frX4_42 (by decide) dX4_readNumber_62 ?_
      refine r_iconst F (v := 1) dX4_readNumber_65 (by decide) ?_
      refine r_iadd F dX4_readNumber_66 ?_
      refine r_putI F frX4_42 (by decide) rfl rfl dX4_readNumber_67 fun h6 => ?_
      refine r_goto F (tgt := 5) dX4_readNumber_70 (by decide) ?_
      exact Wt_pick [0] rfl (ih5 h6)
  exact Wt_pick [0] rfl (hl5 N h1)
theorem c_X4_readNumber (G : Gx) (l : Launch) (N : Nat) (h : Hp) : Ctr G l yX4_readNumber (.code yX4_readNumber cX4_readNumber 1 none :: GT) rmX4_readNumber [.ref (adr G 4 0 0)] h (f_X4_readNumber N h) (fun _ => none) (fun v => v) (fun _ => True) :=
  ctr_of (by decide) (Nat.le_of_ble_eq_true rfl) ⟨rfl, rfl⟩ fun X _ e2 hA hL F => by subst e2; exact w_X4_readNumber X F hA hL N h
def f_X4_isSign (p0 : Int32) : Option Bool :=
  if p0 = 40 then
    some true
  else
  if p0 = 41 then
    some true
  else
  if p0 = 42 then
    some true
  else
  if p0 = 43 then
    some true
  else
  if p0 = 45 then
    some true
  else
  if p0 = 47 then
    some true
  else
  if p0 = 59 then
    some true
  else
  if p0 = 60 then
    some true
  else
  if p0 = 61 then
    some true
  else
  if p0 = 62 then
    some true
  else
  some false
abbrev rmX4_isSign : Room := { frames := 0, cells := 0, slots := 0, locals := 0 }
set_option maxRecDepth 100000 in
set_option maxHeartbeats 4000000 in
theorem w_X4_isSign (X : Cx) (F : Fx X cX4_isSign RX4 (some .boolean) rmX4_isSign) (hA : xA X = Aw (xG X)) (hL : xL X = 1) (h : Hp) (p0 : Int32) : Wm X (fun v => some (.int (b2i v))) (fun _ => h) (fun _ => True) 0 [(0, .int p0)] [] h (f_X4_isSign p0) := by
  have hS : ∀ i : Nat, i < 1 → i < xL X := fun i z => by rw [hL]; exact z
  unfold f_X4_isSign
  refine r_iload_n F 0 rfl dX4_isSign_0 rfl ?_
  refine r_tsc F (tgt := 108) 40 0 dX4_isSign_1 rfl (by decide) (by decide) (by decide) ?_ fun n0 => ?_
  · skip
    refine r_iconst F (v := 1) dX4_isSign_108 (by decide) ?_
    exact r_zret F hA true rfl rfl rfl trivial dX4_isSign_109
  refine r_tsc F (tgt := 108) 41 1 dX4_isSign_1 rfl (by decide) (by decide) (by decide) ?_ fun n1 => ?_
  · skip
    refine r_iconst F (v := 1) dX4_isSign_108 (by decide) ?_
    exact r_zret F hA true rfl rfl rfl trivial dX4_isSign_109
  refine r_tsc F (tgt := 108) 42 2 dX4_isSign_1 rfl (by decide) (by decide) (by decide) ?_ fun n2 => ?_
  · skip
    refine r_iconst F (v := 1) dX4_isSign_108 (by decide) ?_
    exact r_zret F hA true rfl rfl rfl trivial dX4_isSign_109
  refine r_tsc F (tgt := 108) 43 3 dX4_isSign_1 rfl (by decide) (by decide) (by decide) ?_ fun n3 => ?_
  · skip
    refine r_iconst F (v := 1) dX4_isSign_108 (by decide) ?_
    exact r_zret F hA true rfl rfl rfl trivial dX4_isSign_109
  refine r_tsc F (tgt := 108) 45 5 dX4_isSign_1 rfl (by decide) (by decide) (by decide) ?_ fun n5 => ?_
  · skip
    refine r_iconst F (v := 1) dX4_isSign_108 (by decide) ?_
    exact r_zret F hA true rfl rfl rfl trivial dX4_isSign_109
  refine r_tsc F (tgt := 108) 47 7 dX4_isSign_1 rfl (by decide) (by decide) (by decide) ?_ fun n7 => ?_
  · skip
    refine r_iconst F (v := 1) dX4_isSign_108 (by decide) ?_
    exact r_zret F hA true rfl rfl rfl trivial dX4_isSign_109
  refine r_tsc F (tgt := 108) 59 19 dX4_isSign_1 rfl (by decide) (by decide) (by decide) ?_ fun n19 => ?_
  · skip
    refine r_iconst F (v := 1) dX4_isSign_108 (by decide) ?_
    exact r_zret F hA true rfl rfl rfl trivial dX4_isSign_109
  refine r_tsc F (tgt := 108) 60 20 dX4_isSign_1 rfl (by decide) (by decide) (by decide) ?_ fun n20 => ?_
  · skip
    refine r_iconst F (v := 1) dX4_isSign_108 (by decide) ?_
    exact r_zret F hA true rfl rfl rfl trivial dX4_isSign_109
  refine r_tsc F (tgt := 108) 61 21 dX4_isSign_1 rfl (by decide) (by decide) (by decide) ?_ fun n21 => ?_
  · skip
    refine r_iconst F (v := 1) dX4_isSign_108 (by decide) ?_
    exact r_zret F hA true rfl rfl rfl trivial dX4_isSign_109
  refine r_tsc F (tgt := 108) 62 22 dX4_isSign_1 rfl (by decide) (by decide) (by decide) ?_ fun n22 => ?_
  · skip
    refine r_iconst F (v := 1) dX4_isSign_108 (by decide) ?_
    exact r_zret F hA true rfl rfl rfl trivial dX4_isSign_109
  refine r_tsh F (tgt := 110) dX4_isSign_1 (by
    have e0 := lv_neT n0 (a := 40) (by decide); have e1 := lv_neT n1 (a := 41) (by decide); have e2 := lv_neT n2 (a := 42) (by decide); have e3 := lv_neT n3 (a := 43) (by decide); have e5 := lv_neT n5 (a := 45) (by decide); have e7 := lv_neT n7 (a := 47) (by decide); have e19 := lv_neT n19 (a := 59) (by decide); have e20 := lv_neT n20 (a := 60) (by decide); have e21 := lv_neT n21 (a := 61) (by decide); have e22 := lv_neT n22 (a := 62) (by decide); have hh : (p0).toInt < 40 ∨ 62 < (p0).toInt ∨ (p0).toInt = 44 ∨ (p0).toInt = 46 ∨ (p0).toInt = 48 ∨ (p0).toInt = 49 ∨ (p0).toInt = 50 ∨ (p0).toInt = 51 ∨ (p0).toInt = 52 ∨ (p0).toInt = 53 ∨ (p0).toInt = 54 ∨ (p0).toInt = 55 ∨ (p0).toInt = 56 ∨ (p0).toInt = 57 ∨ (p0).toInt = 58 := by omega
    rcases hh with z | z | z | z | z | z | z | z | z | z | z | z | z | z | z
    · exact Or.inl z
    · exact Or.inr (Or.inl z)
    · exact Or.inr (Or.inr ⟨4, z, by decide, rfl⟩)
    · exact Or.inr (Or.inr ⟨6, z, by decide, rfl⟩)
    · exact Or.inr (Or.inr ⟨8, z, by decide, rfl⟩)
    · exact Or.inr (Or.inr ⟨9, z, by decide, rfl⟩)
    · exact Or.inr (Or.inr ⟨10, z, by decide, rfl⟩)
    · exact Or.inr (Or.inr ⟨11, z, by decide, rfl⟩)
    · exact Or.inr (Or.inr ⟨12, z, by decide, rfl⟩)
    · exact Or.inr (Or.inr ⟨13, z, by decide, rfl⟩)
    · exact Or.inr (Or.inr ⟨14, z, by decide, rfl⟩)
    · exact Or.inr (Or.inr ⟨15, z, by decide, rfl⟩)
    · exact Or.inr (Or.inr ⟨16, z, by decide, rfl⟩)
    · exact Or.inr (Or.inr ⟨17, z, by decide, rfl⟩)
    · exact Or.inr (Or.inr ⟨18, z, by decide, rfl⟩)) (by decide) ?_
  refine r_iconst F (v := 0) dX4_isSign_110 (by decide) ?_
  exact r_zret F hA false rfl rfl rfl trivial dX4_isSign_111
theorem c_X4_isSign (G : Gx) (l : Launch) (h : Hp) (p0 : Int32) : Ctr G l yX4_isSign (.code yX4_isSign cX4_isSign 1 (some .boolean) :: GT) rmX4_isSign [.int p0] h (f_X4_isSign p0) (fun v => some (.int (b2i v))) (fun _ => h) (fun _ => True) :=
  ctr_of (by decide) (Nat.le_of_ble_eq_true rfl) ⟨rfl, rfl⟩ fun X _ e2 hA hL F => by subst e2; exact w_X4_isSign X F hA hL h p0
def f_X4_readSign (h : Hp) (p1 : Int32) : Option Hp :=
  lt_ (sI h 4 0 4 ((gI h 4 0 4) + 1)) fun h1 =>
  jn (fun (v2 : Int32) =>
    jn (fun (h3 : Hp) =>
      some h3) fun (j142 : Hp → Option Hp) =>
    jn (
      jn (
        jn (
          (f_X4_isSign p1).bind fun v4 =>
          jn (fun (v5 : Int32) =>
            lt_ (sI h1 4 0 6 v5) fun h6 =>
            j142 h6) fun (j139 : Int32 → Option Hp) =>
          if (b2i v4) = 0 then
            j139 1
          else
          j139 p1) fun (j126 : Option Hp) =>
        if ¬ p1 = 62 then
          j126
        else
        if ¬ v2 = 61 then
          j126
        else
        lt_ (sI h1 4 0 6 6) fun h7 =>
        lt_ (sI h7 4 0 4 ((gI h7 4 0 4) + 1)) fun h8 =>
        j142 h8) fun (j95 : Option Hp) =>
      if ¬ p1 = 60 then
        j95
      else
      if ¬ v2 = 62 then
        j95
      else
      lt_ (sI h1 4 0 6 5) fun h9 =>
      lt_ (sI h9 4 0 4 ((gI h9 4 0 4) + 1)) fun h10 =>
      j142 h10) fun (j65 : Option Hp) =>
    if ¬ p1 = 60 then
      j65
    else
    if ¬ v2 = 61 then
      j65
    else
    lt_ (sI h1 4 0 6 4) fun h11 =>
    lt_ (sI h11 4 0 4 ((gI h11 4 0 4) + 1)) fun h12 =>
    j142 h12) fun (j34 : Int32 → Option Hp) =>
  if (gI h1 4 0 3) ≤ (gI h1 4 0 4) then
    j34 0
  else
  grd (inb (gI h1 4 0 4) 700) <|
  j34 (gA h1 4 0 0 (gI h1 4 0 4).toNatClampNeg)
abbrev rmX4_readSign : Room := { frames := 1, cells := 0, slots := 0, locals := 20 }
set_option maxRecDepth 100000 in
set_option maxHeartbeats 4000000 in
theorem w_X4_readSign (X : Cx) (F : Fx X cX4_readSign RX4 none rmX4_readSign) (hA : xA X = Aw (xG X)) (hL : xL X = 3) (h : Hp) (p1 : Int32) : Wm X (fun _ => none) (fun v => v) (fun _ => True) 0 [(0, .ref (adr (xG X) 4 0 0)), (1, .int p1)] [] h (f_X4_readSign h p1) := by
  have hS : ∀ i : Nat, i < 3 → i < xL X := fun i z => by rw [hL]; exact z
  unfold f_X4_readSign
  refine r_aload_n F 0 rfl dX4_readSign_0 rfl ?_
  refine r_dup F rfl dX4_readSign_1 ?_
  refine r_getI F frX4_42 (by decide) dX4_readSign_2 ?_
  refine r_iconst F (v := 1) dX4_readSign_5 (by decide) ?_
  refine r_iadd F dX4_readSign_6 ?_
  refine r_putI F frX4_42 (by decide) rfl rfl dX4_readSign_7 fun h1 => ?_
  refine r_aload_n F 0 rfl dX4_readSign_10 rfl ?_
  refine r_getI F frX4_42 (by decide) dX4_readSign_11 ?_
  refine r_aload_n F 0 rfl dX4_readSign_14 rfl ?_
  refine r_getI F frX4_40 (by decide) dX4_readSign_15 ?_
  refine Wt_jn (fun (j34 : Int32 → Option Hp) => ∀ v2 : Int32, Wm X (fun _ => none) (fun v => v) (fun _ => True) 34 [(0, .ref (adr (xG X) 4 0 0)), (1, .int p1)] [.int v2] h1 (j34 v2)) ?_ fun j34 hj34 => ?_
  · intro v2
    refine r_istore_n F [(2, .int v2), (0, .ref (adr (xG X) 4 0 0)), (1, .int p1)] rfl dX4_readSign_34 rfl (hS _ (by decide)) ?_
    refine r_iload_n F 2 rfl dX4_readSign_35 rfl ?_
    refine r_bipush F (v := 60) dX4_readSign_36 (by decide) ?_
    refine Wt_jn (fun (j142 : Hp → Option Hp) => ∀ h3 : Hp, Wm X (fun _ => none) (fun v => v) (fun _ => True) 142 [] [] h3 (j142 h3)) ?_ fun j142 hj142 => ?_
    · intro h3
      exact r_vret F hA rfl rfl trivial dX4_readSign_142
    refine Wt_jn (fun (j65 : Option Hp) => Wm X (fun _ => none) (fun v => v) (fun _ => True) 65 [(0, .ref (adr (xG X) 4 0 0)), (1, .int p1), (2, .int v2)] [] h1 (j65)) ?_ fun j65 hj65 => ?_
    · skip
      refine r_iload_n F 1 rfl dX4_readSign_65 rfl ?_
      refine r_bipush F (v := 60) dX4_readSign_66 (by decide) ?_
      refine Wt_jn (fun (j95 : Option Hp) => Wm X (fun _ => none) (fun v => v) (fun _ => True) 95 [(0, .ref (adr (xG X) 4 0 0)), (1, .int p1), (2, .int v2)] [] h1 (j95)) ?_ fun j95 hj95 => ?_
      · skip
        refine r_iload_n F 1 rfl dX4_readSign_95 rfl ?_
        refine r_bipush F (v := 62) dX4_readSign_96 (by decide) ?_
        refine Wt_jn (fun (j126 : Option Hp) => Wm X (fun _ => none) (fun v => v) (fun _ => True) 126 [(0, .ref (adr (xG X) 4 0 0)), (1, .int p1)] [] h1 (j126)) ?_ fun j126 hj126 => ?_
        · skip
          refine r_aload_n F 0 rfl dX4_readSign_126 rfl ?_
          refine r_iload_n F 1 rfl dX4_readSign_127 rfl ?_
          refine k_zP (run_S F csX4_78 (c_X4_isSign (xG X) _ h1 p1) rfl rfl ⟨⟨rfl, rfl⟩, Nat.le_of_ble_eq_true rfl, Nat.le_of_ble_eq_true rfl⟩ (Nat.le_of_ble_eq_true rfl) dX4_readSign_128) fun v4 _ => ?_
          refine Wt_jn (fun (j139 : Int32 → Option Hp) => ∀ v5 : Int32, Wm X (fun _ => none) (fun v => v) (fun _ => True) 139 [] [.int v5, .ref (adr (xG X) 4 0 0)] h1 (j139 v5)) ?_ fun j139 hj139 => ?_
          · intro v5
            refine r_putI F frX4_51 (by decide) rfl rfl dX4_readSign_139 fun h6 => ?_
            exact Wt_pick [] rfl (hj142 h6)
          refine r_ifeq F (tgt := 138) dX4_readSign_131 (by decide) ?_ ?_
          · skip
            refine r_iconst F (v := 1) dX4_readSign_138 (by decide) ?_
            exact Wt_pick [] rfl (hj139 1)
          refine r_iload_n F 1 rfl dX4_readSign_134 rfl ?_
          refine r_goto F (tgt := 139) dX4_readSign_135 (by decide) ?_
          exact Wt_pick [] rfl (hj139 p1)
        refine r_icmpne F (tgt := 126) dX4_readSign_98 (by decide) ?_ ?_
        · skip
          exact Wt_pick [0, 1] rfl (hj126)
        refine r_iload_n F 2 rfl dX4_readSign_101 rfl ?_
        refine r_bipush F (v := 61) dX4_readSign_102 (by decide) ?_
        refine r_icmpne F (tgt := 126) dX4_readSign_104 (by decide) ?_ ?_
        · skip
          exact Wt_pick [0, 1] rfl (hj126)
        refine r_aload_n F 0 rfl dX4_readSign_107 rfl ?_
        refine r_bipush F (v := 6) dX4_readSign_108 (by decide) ?_
        refine r_putI F frX4_51 (by decide) rfl rfl dX4_readSign_110 fun h7 => ?_
        refine r_aload_n F 0 rfl dX4_readSign_113 rfl ?_
        refine r_dup F rfl dX4_readSign_114 ?_
        refine r_getI F frX4_42 (by decide) dX4_readSign_115 ?_
        refine r_iconst F (v := 1) dX4_readSign_118 (by decide) ?_
        refine r_iadd F dX4_readSign_119 ?_
        refine r_putI F frX4_42 (by decide) rfl rfl dX4_readSign_120 fun h8 => ?_
        refine r_goto F (tgt := 142) dX4_readSign_123 (by decide) ?_
        exact Wt_pick [] rfl (hj142 h8)
      refine r_icmpne F (tgt := 95) dX4_readSign_68 (by decide) ?_ ?_
      · skip
        exact Wt_pick [0, 1, 2] rfl (hj95)
      refine r_iload_n F 2 rfl dX4_readSign_71 rfl ?_
      refine r_bipush F (v := 62) dX4_readSign_72 (by decide) ?_
      refine r_icmpne F (tgt := 95) dX4_readSign_74 (by decide) ?_ ?_
      · skip
        exact Wt_pick [0, 1, 2] rfl (hj95)
      refine r_aload_n F 0 rfl dX4_readSign_77 rfl ?_
      refine r_iconst F (v := 5) dX4_readSign_78 (by decide) ?_
      refine r_putI F frX4_51 (by decide) rfl rfl dX4_readSign_79 fun h9 => ?_
      refine r_aload_n F 0 rfl dX4_readSign_82 rfl ?_
      refine r_dup F rfl dX4_readSign_83 ?_
      refine r_getI F frX4_42 (by decide) dX4_readSign_84 ?_
      refine r_iconst F (v := 1) dX4_readSign_87 (by decide) ?_
      refine r_iadd F dX4_readSign_88 ?_
      refine r_putI F frX4_42 (by decide) rfl rfl dX4_readSign_89 fun h10 => ?_
      refine r_goto F (tgt := 142) dX4_readSign_92 (by decide) ?_
      exact Wt_pick [] rfl (hj142 h10)
    refine r_icmpne F (tgt := 65) dX4_readSign_38 (by decide) ?_ ?_
    · skip
      exact Wt_pick [1, 2, 0] rfl (hj65)
    refine r_iload_n F 0 rfl dX4_readSign_41 rfl ?_
    refine r_bipush F (v := 61) dX4_readSign_42 (by decide) ?_
    refine r_icmpne F (tgt := 65) dX4_readSign_44 (by decide) ?_ ?_
    · skip
      exact Wt_pick [1, 2, 0] rfl (hj65)
    refine r_aload_n F 1 rfl dX4_readSign_47 rfl ?_
    refine r_iconst F (v := 4) dX4_readSign_48 (by decide) ?_
    refine r_putI F frX4_51 (by decide) rfl rfl dX4_readSign_49 fun h11 => ?_
    refine r_aload_n F 1 rfl dX4_readSign_52 rfl ?_
    refine r_dup F rfl dX4_readSign_53 ?_
    refine r_getI F frX4_42 (by decide) dX4_readSign_54 ?_
    refine r_iconst F (v := 1) dX4_readSign_57 (by decide) ?_
    refine r_iadd F dX4_readSign_58 ?_
    refine r_putI F frX4_42 (by decide) rfl rfl dX4_readSign_59 fun h12 => ?_
    refine r_goto F (tgt := 142) dX4_readSign_62 (by decide) ?_
    exact Wt_pick [] rfl (hj142 h12)
  refine r_icmpge F (tgt := 33) dX4_readSign_18 (by decide) ?_ ?_
  · skip
    refine r_iconst F (v := 0) dX4_readSign_33 (by decide) ?_
    exact Wt_pick [0, 1] rfl (hj34 0)
  refine r_aload_n F 0 rfl dX4_readSign_21 rfl ?_
  refine r_getA F frX4_9 (by decide) dX4_readSign_22 ?_
  refine r_aload_n F 0 rfl dX4_readSign_25 rfl ?_
  refine r_getI F frX4_42 (by decide) dX4_readSign_26 ?_
  refine r_iaload F (ar_4_0 0 (by decide)) dX4_readSign_29 ?_
  refine r_goto F (tgt := 34) dX4_readSign_30 (by decide) ?_
  exact Wt_pick [0, 1] rfl (hj34 (gA h1 4 0 0 (gI h1 4 0 4).toNatClampNeg))
theorem c_X4_readSign (G : Gx) (l : Launch) (h : Hp) (p1 : Int32) : Ctr G l yX4_readSign (.code yX4_readSign cX4_readSign 3 none :: GT) rmX4_readSign [.ref (adr G 4 0 0), .int p1] h (f_X4_readSign h p1) (fun _ => none) (fun v => v) (fun _ => True) :=
  ctr_of (by decide) (Nat.le_of_ble_eq_true rfl) ⟨rfl, rfl⟩ fun X _ e2 hA hL F => by subst e2; exact w_X4_readSign X F hA hL h p1
def f_X4_advance_0 (N : Nat) (r0 : Hp → Option Hp) (h1 : Hp) : Option Hp :=
  jn (
    lt_ (sI h1 4 0 5 (gI h1 4 0 4)) fun h2 =>
    jn (fun (h3 : Hp) =>
      some h3) fun (j136 : Hp → Option Hp) =>
    if (gI h2 4 0 4) < (gI h2 4 0 3) then
      grd (inb (gI h2 4 0 4) 700) <|
      (f_X4_isLetter (gA h2 4 0 0 (gI h2 4 0 4).toNatClampNeg)).bind fun v4 =>
      if (b2i v4) = 0 then
        grd (inb (gI h2 4 0 4) 700) <|
        (f_X4_isDigit (gA h2 4 0 0 (gI h2 4 0 4).toNatClampNeg)).bind fun v5 =>
        if (b2i v5) = 0 then
          grd (inb (gI h2 4 0 4) 700) <|
          (f_X4_readSign h2 (gA h2 4 0 0 (gI h2 4 0 4).toNatClampNeg)).bind fun h6 =>
          j136 h6
        else
        (f_X4_readNumber N h2).bind fun h7 =>
        j136 h7
      else
      (f_X4_readWord N h2).bind fun h8 =>
      j136 h8
    else
    lt_ (sI h2 4 0 6 0) fun h9 =>
    j136 h9) fun (j52 : Option Hp) =>
  if (gI h1 4 0 3) ≤ (gI h1 4 0 4) then
    j52
  else
  grd (inb (gI h1 4 0 4) 700) <|
  jn (
    lt_ (sI h1 4 0 4 ((gI h1 4 0 4) + 1)) fun h10 =>
    r0 h10) fun (j39 : Option Hp) =>
  if (gA h1 4 0 0 (gI h1 4 0 4).toNatClampNeg) = 32 then
    j39
  else
  grd (inb (gI h1 4 0 4) 700) <|
  if ¬ (gA h1 4 0 0 (gI h1 4 0 4).toNatClampNeg) = 10 then
    j52
  else
  j39
def f_X4_advance (N : Nat) (h : Hp) : Option Hp :=
  iter (fun _ => none) (f_X4_advance_0 N) N h
abbrev rmX4_advance : Room := { frames := 2, cells := 0, slots := 0, locals := 42 }
set_option maxRecDepth 100000 in
set_option maxHeartbeats 4000000 in
theorem w_X4_advance (X : Cx) (F : Fx X cX4_advance RX4 none rmX4_advance) (hA : xA X = Aw (xG X)) (hL : xL X = 1) (N : Nat) (h : Hp) : Wm X (fun _ => none) (fun v => v) (fun _ => True) 0 [(0, .ref (adr (xG X) 4 0 0))] [] h (f_X4_advance N h) := by
  have hS : ∀ i : Nat, i < 1 → i < xL X := fun i z => by rw [hL]; exact z
  unfold f_X4_advance
  have hl0 : ∀ n : Nat, ∀ h1 : Hp, Wm X (fun _ => none) (fun v => v) (fun _ => True) 0 [(0, .ref (adr (xG X) 4 0 0))] [] h1 (iter (fun _ => none) (f_X4_advance_0 N) n h1) := by
    intro n
    induction n with
    | zero => intro h1; exact Wt_none
    | succ n ih =>
      revert ih
      show (∀ h1 : Hp, Wm X (fun _ => none) (fun v => v) (fun _ => True) 0 [(0, .ref (adr (xG X) 4 0 0))] [] h1 (iter (fun _ => none) (f_X4_advance_0 N) n h1)) → _
      intro ih0 h1
      show Wm X (fun _ => none) (fun v => v) (fun _ => True) 0 [(0, .ref (adr (xG X) 4 0 0))] [] h1 (f_X4_advance_0 N (iter (fun _ => none) (f_X4_advance_0 N) n) h1)
      revert ih0
      generalize iter (fun _ => none) (f_X4_advance_0 N) n = r0
      intro ih0
      unfold f_X4_advance_0
      refine r_aload_n F 0 rfl dX4_advance_0 rfl ?_
      refine r_getI F frX4_42 (by decide) dX4_advance_1 ?_
      refine r_aload_n F 0 rfl dX4_advance_4 rfl ?_
      refine r_getI F frX4_40 (by decide) dX4_advance_5 ?_
      refine Wt_jn (fun (j52 : Option Hp) => Wm X (fun _ => none) (fun v => v) (fun _ => True) 52 [(0, .ref (adr (xG X) 4 0 0))] [] h1 (j52)) ?_ fun j52 hj52 => ?_
      · skip
        refine r_aload_n F 0 rfl dX4_advance_52 rfl ?_
        refine r_aload_n F 0 rfl dX4_advance_53 rfl ?_
        refine r_getI F frX4_42 (by decide) dX4_advance_54 ?_
        refine r_putI F frX4_48 (by decide) rfl rfl dX4_advance_57 fun h2 => ?_
        refine r_aload_n F 0 rfl dX4_advance_60 rfl ?_
        refine r_getI F frX4_42 (by decide) dX4_advance_61 ?_
        refine r_aload_n F 0 rfl dX4_advance_64 rfl ?_
        refine r_getI F frX4_40 (by decide) dX4_advance_65 ?_
        refine Wt_jn (fun (j136 : Hp → Option Hp) => ∀ h3 : Hp, Wm X (fun _ => none) (fun v => v) (fun _ => True) 136 [] [] h3 (j136 h3)) ?_ fun j136 hj136 => ?_
        · intro h3
          exact r_vret F hA rfl rfl trivial dX4_advance_136
        refine r_icmplt F (tgt := 79) dX4_advance_68 (by decide) ?_ ?_
        · skip
          refine r_aload_n F 0 rfl dX4_advance_79 rfl ?_
          refine r_getA F frX4_9 (by decide) dX4_advance_80 ?_
          refine r_aload_n F 0 rfl dX4_advance_83 rfl ?_
          refine r_getI F frX4_42 (by decide) dX4_advance_84 ?_
          refine r_iaload F (ar_4_0 0 (by decide)) dX4_advance_87 ?_
          refine k_zP (run_S F csX4_54 (c_X4_isLetter (xG X) _ h2 (gA h2 4 0 0 (gI h2 4 0 4).toNatClampNeg)) rfl rfl ⟨⟨rfl, rfl⟩, Nat.le_of_ble_eq_true rfl, Nat.le_of_ble_eq_true rfl⟩ (Nat.le_of_ble_eq_true rfl) dX4_advance_88) fun v4 _ => ?_
          refine r_ifeq F (tgt := 101) dX4_advance_91 (by decide) ?_ ?_
          · skip
            refine r_aload_n F 0 rfl dX4_advance_101 rfl ?_
            refine r_getA F frX4_9 (by decide) dX4_advance_102 ?_
            refine r_aload_n F 0 rfl dX4_advance_105 rfl ?_
            refine r_getI F frX4_42 (by decide) dX4_advance_106 ?_
            refine r_iaload F (ar_4_0 0 (by decide)) dX4_advance_109 ?_
            refine k_zP (run_S F csX4_61 (c_X4_isDigit (xG X) _ h2 (gA h2 4 0 0 (gI h2 4 0 4).toNatClampNeg)) rfl rfl ⟨⟨rfl, rfl⟩, Nat.le_of_ble_eq_true rfl, Nat.le_of_ble_eq_true rfl⟩ (Nat.le_of_ble_eq_true rfl) dX4_advance_110) fun v5 _ => ?_
            refine r_ifeq F (tgt := 123) dX4_advance_113 (by decide) ?_ ?_
            · skip
              refine r_aload_n F 0 rfl dX4_advance_123 rfl ?_
              refine r_aload_n F 0 rfl dX4_advance_124 rfl ?_
              refine r_getA F frX4_9 (by decide) dX4_advance_125 ?_
              refine r_aload_n F 0 rfl dX4_advance_128 rfl ?_
              refine r_getI F frX4_42 (by decide) dX4_advance_129 ?_
              refine r_iaload F (ar_4_0 0 (by decide)) dX4_advance_132 ?_
              refine k_vH (run_V F cvX4_67 (by decide) (c_X4_readSign (xG X) _ h2 (gA h2 4 0 0 (gI h2 4 0 4).toNatClampNeg)) rfl rfl ⟨⟨rfl, rfl⟩, Nat.le_of_ble_eq_true rfl, Nat.le_of_ble_eq_true rfl⟩ (Nat.le_of_ble_eq_true rfl) dX4_advance_133) fun h6 => ?_
              exact Wt_pick [] rfl (hj136 h6)
            refine r_aload_n F 0 rfl dX4_advance_116 rfl ?_
            refine k_vH (run_V F cvX4_64 (by decide) (c_X4_readNumber (xG X) _ N h2) rfl rfl ⟨⟨rfl, rfl⟩, Nat.le_of_ble_eq_true rfl, Nat.le_of_ble_eq_true rfl⟩ (Nat.le_of_ble_eq_true rfl) dX4_advance_117) fun h7 => ?_
            refine r_goto F (tgt := 136) dX4_advance_120 (by decide) ?_
            exact Wt_pick [] rfl (hj136 h7)
          refine r_aload_n F 0 rfl dX4_advance_94 rfl ?_
          refine k_vH (run_V F cvX4_58 (by decide) (c_X4_readWord (xG X) _ N h2) rfl rfl ⟨⟨rfl, rfl⟩, Nat.le_of_ble_eq_true rfl, Nat.le_of_ble_eq_true rfl⟩ (Nat.le_of_ble_eq_true rfl) dX4_advance_95) fun h8 => ?_
          refine r_goto F (tgt := 136) dX4_advance_98 (by decide) ?_
          exact Wt_pick [] rfl (hj136 h8)
        refine r_aload_n F 0 rfl dX4_advance_71 rfl ?_
        refine r_iconst F (v := 0) dX4_advance_72 (by decide) ?_
        refine r_putI F frX4_51 (by decide) rfl rfl dX4_advance_73 fun h9 => ?_
        refine r_goto F (tgt := 136) dX4_advance_76 (by decide) ?_
        exact Wt_pick [] rfl (hj136 h9)
      refine r_icmpge F (tgt := 52) dX4_advance_8 (by decide) ?_ ?_
      · skip
        exact Wt_pick [0] rfl (hj52)
      refine r_aload_n F 0 rfl dX4_advance_11 rfl ?_
      refine r_getA F frX4_9 (by decide) dX4_advance_12 ?_
      refine r_aload_n F 0 rfl dX4_advance_15 rfl ?_
      refine r_getI F frX4_42 (by decide) dX4_advance_16 ?_
      refine r_iaload F (ar_4_0 0 (by decide)) dX4_advance_19 ?_
      refine r_bipush F (v := 32) dX4_advance_20 (by decide) ?_
      refine Wt_jn (fun (j39 : Option Hp) => Wm X (fun _ => none) (fun v => v) (fun _ => True) 39 [(0, .ref (adr (xG X) 4 0 0))] [] h1 (j39)) ?_ fun j39 hj39 => ?_
      · skip
        refine r_aload_n F 0 rfl dX4_advance_39 rfl ?_
        refine r_dup F rfl dX4_advance_40 ?_
        refine r_getI F frX4_42 (by decide) dX4_advance_41 ?_
        refine r_iconst F (v := 1) dX4_advance_44 (by decide) ?_
        refine r_iadd F dX4_advance_45 ?_
        refine r_putI F frX4_42 (by decide) rfl rfl dX4_advance_46 fun h10 => ?_
        refine r_goto F (tgt := 0) dX4_advance_49 (by decide) ?_
        exact Wt_pick [0] rfl (ih0 h10)
      refine r_icmpeq F (tgt := 39) dX4_advance_22 (by decide) ?_ ?_
      · skip
        exact Wt_pick [0] rfl (hj39)
      refine r_aload_n F 0 rfl dX4_advance_25 rfl ?_
      refine r_getA F frX4_9 (by decide) dX4_advance_26 ?_
      refine r_aload_n F 0 rfl dX4_advance_29 rfl ?_
      refine r_getI F frX4_42 (by decide) dX4_advance_30 ?_
      refine r_iaload F (ar_4_0 0 (by decide)) dX4_advance_33 ?_
      refine r_bipush F (v := 10) dX4_advance_34 (by decide) ?_
      refine r_icmpne F (tgt := 52) dX4_advance_36 (by decide) ?_ ?_
      · skip
        exact Wt_pick [0] rfl (hj52)
      exact Wt_pick [0] rfl (hj39)
  exact Wt_pick [0] rfl (hl0 N h)
theorem c_X4_advance (G : Gx) (l : Launch) (N : Nat) (h : Hp) : Ctr G l yX4_advance (.code yX4_advance cX4_advance 1 none :: GT) rmX4_advance [.ref (adr G 4 0 0)] h (f_X4_advance N h) (fun _ => none) (fun v => v) (fun _ => True) :=
  ctr_of (by decide) (Nat.le_of_ble_eq_true rfl) ⟨rfl, rfl⟩ fun X _ e2 hA hL F => by subst e2; exact w_X4_advance X F hA hL N h
