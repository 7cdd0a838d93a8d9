theorem dX8_forks_0 : decode cX8_forks 0 = .ok (.aload_n 0, 1) := by decide +kernel
theorem dX8_forks_1 : decode cX8_forks 1 = .ok (.iload_n 1, 1) := by decide +kernel
theorem dX8_forks_2 : decode cX8_forks 2 = .ok (.iload_n 2, 1) := by decide +kernel
theorem dX8_forks_3 : decode cX8_forks 3 = .ok (.iload_n 3, 1) := by decide +kernel
theorem dX8_forks_4 : decode cX8_forks 4 = .ok (.iconst 1, 1) := by decide +kernel
theorem dX8_forks_5 : decode cX8_forks 5 = .ok (.invokevirtual 418, 3) := by decide +kernel
theorem dX8_forks_8 : decode cX8_forks 8 = .ok (.istore 4, 2) := by decide +kernel
theorem dX8_forks_10 : decode cX8_forks 10 = .ok (.iload 4, 2) := by decide +kernel
theorem dX8_forks_12 : decode cX8_forks 12 = .ok (.bipush (-2), 2) := by decide +kernel
theorem dX8_forks_14 : decode cX8_forks 14 = .ok (.if_icmp .ne 4, 3) := by decide +kernel
theorem dX8_forks_17 : decode cX8_forks 17 = .ok (.return_, 1) := by decide +kernel
theorem dX8_forks_18 : decode cX8_forks 18 = .ok (.aload_n 0, 1) := by decide +kernel
theorem dX8_forks_19 : decode cX8_forks 19 = .ok (.iload_n 1, 1) := by decide +kernel
theorem dX8_forks_20 : decode cX8_forks 20 = .ok (.iload_n 2, 1) := by decide +kernel
theorem dX8_forks_21 : decode cX8_forks 21 = .ok (.iload 4, 2) := by decide +kernel
theorem dX8_forks_23 : decode cX8_forks 23 = .ok (.invokevirtual 428, 3) := by decide +kernel
theorem dX8_forks_26 : decode cX8_forks 26 = .ok (.istore 5, 2) := by decide +kernel
theorem dX8_forks_28 : decode cX8_forks 28 = .ok (.iload 5, 2) := by decide +kernel
theorem dX8_forks_30 : decode cX8_forks 30 = .ok (.aload_n 0, 1) := by decide +kernel
theorem dX8_forks_31 : decode cX8_forks 31 = .ok (.getfield 85, 3) := by decide +kernel
theorem dX8_forks_34 : decode cX8_forks 34 = .ok (.bipush 8, 2) := by decide +kernel
theorem dX8_forks_36 : decode cX8_forks 36 = .ok (.iload_n 1, 1) := by decide +kernel
theorem dX8_forks_37 : decode cX8_forks 37 = .ok (.imul, 1) := by decide +kernel
theorem dX8_forks_38 : decode cX8_forks 38 = .ok (.iload 4, 2) := by decide +kernel
theorem dX8_forks_40 : decode cX8_forks 40 = .ok (.iadd, 1) := by decide +kernel
theorem dX8_forks_41 : decode cX8_forks 41 = .ok (.iaload, 1) := by decide +kernel
theorem dX8_forks_42 : decode cX8_forks 42 = .ok (.if_icmp .le 18, 3) := by decide +kernel
theorem dX8_forks_45 : decode cX8_forks 45 = .ok (.aload_n 0, 1) := by decide +kernel
theorem dX8_forks_46 : decode cX8_forks 46 = .ok (.getfield 85, 3) := by decide +kernel
theorem dX8_forks_49 : decode cX8_forks 49 = .ok (.bipush 8, 2) := by decide +kernel
theorem dX8_forks_51 : decode cX8_forks 51 = .ok (.iload_n 1, 1) := by decide +kernel
theorem dX8_forks_52 : decode cX8_forks 52 = .ok (.imul, 1) := by decide +kernel
theorem dX8_forks_53 : decode cX8_forks 53 = .ok (.iload 4, 2) := by decide +kernel
theorem dX8_forks_55 : decode cX8_forks 55 = .ok (.iadd, 1) := by decide +kernel
theorem dX8_forks_56 : decode cX8_forks 56 = .ok (.iaload, 1) := by decide +kernel
theorem dX8_forks_57 : decode cX8_forks 57 = .ok (.goto 5, 3) := by decide +kernel
theorem dX8_forks_60 : decode cX8_forks 60 = .ok (.iload 5, 2) := by decide +kernel
theorem dX8_forks_62 : decode cX8_forks 62 = .ok (.istore 5, 2) := by decide +kernel
theorem dX8_forks_64 : decode cX8_forks 64 = .ok (.aload_n 0, 1) := by decide +kernel
theorem dX8_forks_65 : decode cX8_forks 65 = .ok (.iload_n 1, 1) := by decide +kernel
theorem dX8_forks_66 : decode cX8_forks 66 = .ok (.iload 4, 2) := by decide +kernel
theorem dX8_forks_68 : decode cX8_forks 68 = .ok (.iload 5, 2) := by decide +kernel
theorem dX8_forks_70 : decode cX8_forks 70 = .ok (.invokevirtual 425, 3) := by decide +kernel
theorem dX8_forks_73 : decode cX8_forks 73 = .ok (.aload_n 0, 1) := by decide +kernel
theorem dX8_forks_74 : decode cX8_forks 74 = .ok (.getfield 109, 3) := by decide +kernel
theorem dX8_forks_77 : decode cX8_forks 77 = .ok (.iload_n 1, 1) := by decide +kernel
theorem dX8_forks_78 : decode cX8_forks 78 = .ok (.dup2, 1) := by decide +kernel
theorem dX8_forks_79 : decode cX8_forks 79 = .ok (.iaload, 1) := by decide +kernel
theorem dX8_forks_80 : decode cX8_forks 80 = .ok (.iload 5, 2) := by decide +kernel
theorem dX8_forks_82 : decode cX8_forks 82 = .ok (.iadd, 1) := by decide +kernel
theorem dX8_forks_83 : decode cX8_forks 83 = .ok (.iastore, 1) := by decide +kernel
theorem dX8_forks_84 : decode cX8_forks 84 = .ok (.aload_n 0, 1) := by decide +kernel
theorem dX8_forks_85 : decode cX8_forks 85 = .ok (.getfield 103, 3) := by decide +kernel
theorem dX8_forks_88 : decode cX8_forks 88 = .ok (.iconst 4, 1) := by decide +kernel
theorem dX8_forks_89 : decode cX8_forks 89 = .ok (.iload_n 1, 1) := by decide +kernel
theorem dX8_forks_90 : decode cX8_forks 90 = .ok (.imul, 1) := by decide +kernel
theorem dX8_forks_91 : decode cX8_forks 91 = .ok (.iload_n 2, 1) := by decide +kernel
theorem dX8_forks_92 : decode cX8_forks 92 = .ok (.iadd, 1) := by decide +kernel
theorem dX8_forks_93 : decode cX8_forks 93 = .ok (.dup2, 1) := by decide +kernel
theorem dX8_forks_94 : decode cX8_forks 94 = .ok (.iaload, 1) := by decide +kernel
theorem dX8_forks_95 : decode cX8_forks 95 = .ok (.iload 5, 2) := by decide +kernel
theorem dX8_forks_97 : decode cX8_forks 97 = .ok (.iadd, 1) := by decide +kernel
theorem dX8_forks_98 : decode cX8_forks 98 = .ok (.iastore, 1) := by decide +kernel
theorem dX8_forks_99 : decode cX8_forks 99 = .ok (.return_, 1) := by decide +kernel
theorem dX8_allLies_0 : decode cX8_allLies 0 = .ok (.iconst 0, 1) := by decide +kernel
theorem dX8_allLies_1 : decode cX8_allLies 1 = .ok (.istore_n 2, 1) := by decide +kernel
theorem dX8_allLies_2 : decode cX8_allLies 2 = .ok (.iconst 0, 1) := by decide +kernel
theorem dX8_allLies_3 : decode cX8_allLies 3 = .ok (.istore_n 3, 1) := by decide +kernel
theorem dX8_allLies_4 : decode cX8_allLies 4 = .ok (.iload_n 3, 1) := by decide +kernel
theorem dX8_allLies_5 : decode cX8_allLies 5 = .ok (.aload_n 0, 1) := by decide +kernel
theorem dX8_allLies_6 : decode cX8_allLies 6 = .ok (.getfield 243, 3) := by decide +kernel
theorem dX8_allLies_9 : decode cX8_allLies 9 = .ok (.if_icmp .ge 23, 3) := by decide +kernel
theorem dX8_allLies_12 : decode cX8_allLies 12 = .ok (.iload_n 2, 1) := by decide +kernel
theorem dX8_allLies_13 : decode cX8_allLies 13 = .ok (.aload_n 0, 1) := by decide +kernel
theorem dX8_allLies_14 : decode cX8_allLies 14 = .ok (.getfield 85, 3) := by decide +kernel
theorem dX8_allLies_17 : decode cX8_allLies 17 = .ok (.bipush 8, 2) := by decide +kernel
theorem dX8_allLies_19 : decode cX8_allLies 19 = .ok (.iload_n 1, 1) := by decide +kernel
theorem dX8_allLies_20 : decode cX8_allLies 20 = .ok (.imul, 1) := by decide +kernel
theorem dX8_allLies_21 : decode cX8_allLies 21 = .ok (.iload_n 3, 1) := by decide +kernel
theorem dX8_allLies_22 : decode cX8_allLies 22 = .ok (.iadd, 1) := by decide +kernel
theorem dX8_allLies_23 : decode cX8_allLies 23 = .ok (.iaload, 1) := by decide +kernel
theorem dX8_allLies_24 : decode cX8_allLies 24 = .ok (.iadd, 1) := by decide +kernel
theorem dX8_allLies_25 : decode cX8_allLies 25 = .ok (.istore_n 2, 1) := by decide +kernel
theorem dX8_allLies_26 : decode cX8_allLies 26 = .ok (.iinc 3 1, 3) := by decide +kernel
theorem dX8_allLies_29 : decode cX8_allLies 29 = .ok (.goto (-25), 3) := by decide +kernel
theorem dX8_allLies_32 : decode cX8_allLies 32 = .ok (.iload_n 2, 1) := by decide +kernel
theorem dX8_allLies_33 : decode cX8_allLies 33 = .ok (.ireturn, 1) := by decide +kernel
theorem dX8_number1_0 : decode cX8_number1 0 = .ok (.aload_n 0, 1) := by decide +kernel
theorem dX8_number1_1 : decode cX8_number1 1 = .ok (.aload_n 0, 1) := by decide +kernel
theorem dX8_number1_2 : decode cX8_number1 2 = .ok (.getfield 366, 3) := by decide +kernel
theorem dX8_number1_5 : decode cX8_number1 5 = .ok (.ldc2_w 431, 3) := by decide +kernel
theorem dX8_number1_8 : decode cX8_number1 8 = .ok (.lmul, 1) := by decide +kernel
theorem dX8_number1_9 : decode cX8_number1 9 = .ok (.ldc2_w 433, 3) := by decide +kernel
theorem dX8_number1_12 : decode cX8_number1 12 = .ok (.ladd, 1) := by decide +kernel
theorem dX8_number1_13 : decode cX8_number1 13 = .ok (.ldc2_w 435, 3) := by decide +kernel
theorem dX8_number1_16 : decode cX8_number1 16 = .ok (.land, 1) := by decide +kernel
theorem dX8_number1_17 : decode cX8_number1 17 = .ok (.putfield 366, 3) := by decide +kernel
theorem dX8_number1_20 : decode cX8_number1 20 = .ok (.aload_n 0, 1) := by decide +kernel
theorem dX8_number1_21 : decode cX8_number1 21 = .ok (.getfield 366, 3) := by decide +kernel
theorem dX8_number1_24 : decode cX8_number1 24 = .ok (.ldc2_w 437, 3) := by decide +kernel
theorem dX8_number1_27 : decode cX8_number1 27 = .ok (.ldiv, 1) := by decide +kernel
theorem dX8_number1_28 : decode cX8_number1 28 = .ok (.iload_n 1, 1) := by decide +kernel
theorem dX8_number1_29 : decode cX8_number1 29 = .ok (.i2l, 1) := by decide +kernel
theorem dX8_number1_30 : decode cX8_number1 30 = .ok (.lrem, 1) := by decide +kernel
theorem dX8_number1_31 : decode cX8_number1 31 = .ok (.l2i, 1) := by decide +kernel
theorem dX8_number1_32 : decode cX8_number1 32 = .ok (.ireturn, 1) := by decide +kernel
theorem dX8_gale_0 : decode cX8_gale 0 = .ok (.aload_n 0, 1) := by decide +kernel
theorem dX8_gale_1 : decode cX8_gale 1 = .ok (.getfield 24, 3) := by decide +kernel
theorem dX8_gale_4 : decode cX8_gale 4 = .ok (.iconst 2, 1) := by decide +kernel
theorem dX8_gale_5 : decode cX8_gale 5 = .ok (.iaload, 1) := by decide +kernel
theorem dX8_gale_6 : decode cX8_gale 6 = .ok (.ifCond .eq 18, 3) := by decide +kernel
theorem dX8_gale_9 : decode cX8_gale 9 = .ok (.aload_n 0, 1) := by decide +kernel
theorem dX8_gale_10 : decode cX8_gale 10 = .ok (.bipush 100, 2) := by decide +kernel
theorem dX8_gale_12 : decode cX8_gale 12 = .ok (.invokevirtual 439, 3) := by decide +kernel
theorem dX8_gale_15 : decode cX8_gale 15 = .ok (.aload_n 0, 1) := by decide +kernel
theorem dX8_gale_16 : decode cX8_gale 16 = .ok (.getfield 24, 3) := by decide +kernel
theorem dX8_gale_19 : decode cX8_gale 19 = .ok (.iconst 2, 1) := by decide +kernel
theorem dX8_gale_20 : decode cX8_gale 20 = .ok (.iaload, 1) := by decide +kernel
theorem dX8_gale_21 : decode cX8_gale 21 = .ok (.if_icmp .lt 4, 3) := by decide +kernel
theorem dX8_gale_24 : decode cX8_gale 24 = .ok (.return_, 1) := by decide +kernel
theorem dX8_gale_25 : decode cX8_gale 25 = .ok (.iconst 0, 1) := by decide +kernel
theorem dX8_gale_26 : decode cX8_gale 26 = .ok (.istore_n 2, 1) := by decide +kernel
theorem dX8_gale_27 : decode cX8_gale 27 = .ok (.iload_n 2, 1) := by decide +kernel
theorem dX8_gale_28 : decode cX8_gale 28 = .ok (.aload_n 0, 1) := by decide +kernel
theorem dX8_gale_29 : decode cX8_gale 29 = .ok (.getfield 243, 3) := by decide +kernel
theorem dX8_gale_32 : decode cX8_gale 32 = .ok (.if_icmp .ge 53, 3) := by decide +kernel
theorem dX8_gale_35 : decode cX8_gale 35 = .ok (.aload_n 0, 1) := by decide +kernel
theorem dX8_gale_36 : decode cX8_gale 36 = .ok (.getfield 85, 3) := by decide +kernel
theorem dX8_gale_39 : decode cX8_gale 39 = .ok (.bipush 8, 2) := by decide +kernel
theorem dX8_gale_41 : decode cX8_gale 41 = .ok (.iload_n 1, 1) := by decide +kernel
theorem dX8_gale_42 : decode cX8_gale 42 = .ok (.imul, 1) := by decide +kernel
theorem dX8_gale_43 : decode cX8_gale 43 = .ok (.iload_n 2, 1) := by decide +kernel
theorem dX8_gale_44 : decode cX8_gale 44 = .ok (.iadd, 1) := by decide +kernel
theorem dX8_gale_45 : decode cX8_gale 45 = .ok (.iaload, 1) := by decide +kernel
theorem dX8_gale_46 : decode cX8_gale 46 = .ok (.aload_n 0, 1) := by decide +kernel
theorem dX8_gale_47 : decode cX8_gale 47 = .ok (.getfield 24, 3) := by decide +kernel
theorem dX8_gale_50 : decode cX8_gale 50 = .ok (.iconst 3, 1) := by decide +kernel
theorem dX8_gale_51 : decode cX8_gale 51 = .ok (.iaload, 1) := by decide +kernel
theorem dX8_gale_52 : decode cX8_gale 52 = .ok (.iadd, 1) := by decide +kernel
theorem dX8_gale_53 : decode cX8_gale 53 = .ok (.istore_n 3, 1) := by decide +kernel
theorem dX8_gale_54 : decode cX8_gale 54 = .ok (.aload_n 0, 1) := by decide +kernel
theorem dX8_gale_55 : decode cX8_gale 55 = .ok (.getfield 85, 3) := by decide +kernel
theorem dX8_gale_58 : decode cX8_gale 58 = .ok (.bipush 8, 2) := by decide +kernel
theorem dX8_gale_60 : decode cX8_gale 60 = .ok (.iload_n 1, 1) := by decide +kernel
theorem dX8_gale_61 : decode cX8_gale 61 = .ok (.imul, 1) := by decide +kernel
theorem dX8_gale_62 : decode cX8_gale 62 = .ok (.iload_n 2, 1) := by decide +kernel
theorem dX8_gale_63 : decode cX8_gale 63 = .ok (.iadd, 1) := by decide +kernel
theorem dX8_gale_64 : decode cX8_gale 64 = .ok (.iload_n 3, 1) := by decide +kernel
theorem dX8_gale_65 : decode cX8_gale 65 = .ok (.sipush 9999, 3) := by decide +kernel
theorem dX8_gale_68 : decode cX8_gale 68 = .ok (.if_icmp .le 9, 3) := by decide +kernel
theorem dX8_gale_71 : decode cX8_gale 71 = .ok (.sipush 9999, 3) := by decide +kernel
theorem dX8_gale_74 : decode cX8_gale 74 = .ok (.goto 4, 3) := by decide +kernel
theorem dX8_gale_77 : decode cX8_gale 77 = .ok (.iload_n 3, 1) := by decide +kernel
theorem dX8_gale_78 : decode cX8_gale 78 = .ok (.iastore, 1) := by decide +kernel
theorem dX8_gale_79 : decode cX8_gale 79 = .ok (.iinc 2 1, 3) := by decide +kernel
theorem dX8_gale_82 : decode cX8_gale 82 = .ok (.goto (-55), 3) := by decide +kernel
theorem dX8_gale_85 : decode cX8_gale 85 = .ok (.return_, 1) := by decide +kernel
theorem dX8_acts_0 : decode cX8_acts 0 = .ok (.aload_n 0, 1) := by decide +kernel
theorem dX8_acts_1 : decode cX8_acts 1 = .ok (.getfield 97, 3) := by decide +kernel
theorem dX8_acts_4 : decode cX8_acts 4 = .ok (.iconst 4, 1) := by decide +kernel
theorem dX8_acts_5 : decode cX8_acts 5 = .ok (.iload_n 1, 1) := by decide +kernel
theorem dX8_acts_6 : decode cX8_acts 6 = .ok (.imul, 1) := by decide +kernel
theorem dX8_acts_7 : decode cX8_acts 7 = .ok (.iload_n 2, 1) := by decide +kernel
theorem dX8_acts_8 : decode cX8_acts 8 = .ok (.iadd, 1) := by decide +kernel
theorem dX8_acts_9 : decode cX8_acts 9 = .ok (.iaload, 1) := by decide +kernel
theorem dX8_acts_10 : decode cX8_acts 10 = .ok (.istore 4, 2) := by decide +kernel
theorem dX8_acts_12 : decode cX8_acts 12 = .ok (.iload 4, 2) := by decide +kernel
theorem dX8_acts_14 : decode cX8_acts 14 = .ok (.iconst 3, 1) := by decide +kernel
theorem dX8_acts_15 : decode cX8_acts 15 = .ok (.if_icmp .ne 4, 3) := by decide +kernel
theorem dX8_acts_18 : decode cX8_acts 18 = .ok (.return_, 1) := by decide +kernel
theorem dX8_acts_19 : decode cX8_acts 19 = .ok (.iload 4, 2) := by decide +kernel
theorem dX8_acts_21 : decode cX8_acts 21 = .ok (.iconst 2, 1) := by decide +kernel
theorem dX8_acts_22 : decode cX8_acts 22 = .ok (.if_icmp .eq 21, 3) := by decide +kernel
theorem dX8_acts_25 : decode cX8_acts 25 = .ok (.iload 4, 2) := by decide +kernel
theorem dX8_acts_27 : decode cX8_acts 27 = .ok (.ifCond .ne 26, 3) := by decide +kernel
theorem dX8_acts_30 : decode cX8_acts 30 = .ok (.iload_n 3, 1) := by decide +kernel
theorem dX8_acts_31 : decode cX8_acts 31 = .ok (.iconst 2, 1) := by decide +kernel
theorem dX8_acts_32 : decode cX8_acts 32 = .ok (.if_icmp .ne 21, 3) := by decide +kernel
theorem dX8_acts_35 : decode cX8_acts 35 = .ok (.aload_n 0, 1) := by decide +kernel
theorem dX8_acts_36 : decode cX8_acts 36 = .ok (.iload_n 1, 1) := by decide +kernel
theorem dX8_acts_37 : decode cX8_acts 37 = .ok (.invokevirtual 442, 3) := by decide +kernel
theorem dX8_acts_40 : decode cX8_acts 40 = .ok (.ifCond .le 13, 3) := by decide +kernel
theorem dX8_acts_43 : decode cX8_acts 43 = .ok (.aload_n 0, 1) := by decide +kernel
theorem dX8_acts_44 : decode cX8_acts 44 = .ok (.iload_n 1, 1) := by decide +kernel
theorem dX8_acts_45 : decode cX8_acts 45 = .ok (.iload_n 2, 1) := by decide +kernel
theorem dX8_acts_46 : decode cX8_acts 46 = .ok (.iload_n 3, 1) := by decide +kernel
theorem dX8_acts_47 : decode cX8_acts 47 = .ok (.invokevirtual 445, 3) := by decide +kernel
theorem dX8_acts_50 : decode cX8_acts 50 = .ok (.goto 10, 3) := by decide +kernel
theorem dX8_acts_53 : decode cX8_acts 53 = .ok (.aload_n 0, 1) := by decide +kernel
theorem dX8_acts_54 : decode cX8_acts 54 = .ok (.iload_n 1, 1) := by decide +kernel
theorem dX8_acts_55 : decode cX8_acts 55 = .ok (.iload_n 2, 1) := by decide +kernel
theorem dX8_acts_56 : decode cX8_acts 56 = .ok (.iload_n 3, 1) := by decide +kernel
theorem dX8_acts_57 : decode cX8_acts 57 = .ok (.invokevirtual 448, 3) := by decide +kernel
theorem dX8_acts_60 : decode cX8_acts 60 = .ok (.return_, 1) := by decide +kernel
theorem dX8_goOn_0 : decode cX8_goOn 0 = .ok (.iconst 0, 1) := by decide +kernel
theorem dX8_goOn_1 : decode cX8_goOn 1 = .ok (.istore_n 3, 1) := by decide +kernel
theorem dX8_goOn_2 : decode cX8_goOn 2 = .ok (.iload_n 3, 1) := by decide +kernel
theorem dX8_goOn_3 : decode cX8_goOn 3 = .ok (.aload_n 0, 1) := by decide +kernel
theorem dX8_goOn_4 : decode cX8_goOn 4 = .ok (.getfield 246, 3) := by decide +kernel
theorem dX8_goOn_7 : decode cX8_goOn 7 = .ok (.if_icmp .ge 50, 3) := by decide +kernel
theorem dX8_goOn_10 : decode cX8_goOn 10 = .ok (.aload_n 0, 1) := by decide +kernel
theorem dX8_goOn_11 : decode cX8_goOn 11 = .ok (.getfield 388, 3) := by decide +kernel
theorem dX8_goOn_14 : decode cX8_goOn 14 = .ok (.ifCond .ne 22, 3) := by decide +kernel
theorem dX8_goOn_17 : decode cX8_goOn 17 = .ok (.aload_n 0, 1) := by decide +kernel
theorem dX8_goOn_18 : decode cX8_goOn 18 = .ok (.getfield 94, 3) := by decide +kernel
theorem dX8_goOn_21 : decode cX8_goOn 21 = .ok (.iconst 4, 1) := by decide +kernel
theorem dX8_goOn_22 : decode cX8_goOn 22 = .ok (.iload_n 1, 1) := by decide +kernel
theorem dX8_goOn_23 : decode cX8_goOn 23 = .ok (.imul, 1) := by decide +kernel
theorem dX8_goOn_24 : decode cX8_goOn 24 = .ok (.iload_n 3, 1) := by decide +kernel
theorem dX8_goOn_25 : decode cX8_goOn 25 = .ok (.iadd, 1) := by decide +kernel
theorem dX8_goOn_26 : decode cX8_goOn 26 = .ok (.iaload, 1) := by decide +kernel
theorem dX8_goOn_27 : decode cX8_goOn 27 = .ok (.aload_n 0, 1) := by decide +kernel
theorem dX8_goOn_28 : decode cX8_goOn 28 = .ok (.getfield 115, 3) := by decide +kernel
theorem dX8_goOn_31 : decode cX8_goOn 31 = .ok (.iload_n 1, 1) := by decide +kernel
theorem dX8_goOn_32 : decode cX8_goOn 32 = .ok (.iaload, 1) := by decide +kernel
theorem dX8_goOn_33 : decode cX8_goOn 33 = .ok (.if_icmp .gt 18, 3) := by decide +kernel
theorem dX8_goOn_36 : decode cX8_goOn 36 = .ok (.iload_n 3, 1) := by decide +kernel
theorem dX8_goOn_37 : decode cX8_goOn 37 = .ok (.aload_n 0, 1) := by decide +kernel
theorem dX8_goOn_38 : decode cX8_goOn 38 = .ok (.getfield 118, 3) := by decide +kernel
theorem dX8_goOn_41 : decode cX8_goOn 41 = .ok (.if_icmp .eq 10, 3) := by decide +kernel
theorem dX8_goOn_44 : decode cX8_goOn 44 = .ok (.aload_n 0, 1) := by decide +kernel
theorem dX8_goOn_45 : decode cX8_goOn 45 = .ok (.iload_n 1, 1) := by decide +kernel
theorem dX8_goOn_46 : decode cX8_goOn 46 = .ok (.iload_n 3, 1) := by decide +kernel
theorem dX8_goOn_47 : decode cX8_goOn 47 = .ok (.iload_n 2, 1) := by decide +kernel
theorem dX8_goOn_48 : decode cX8_goOn 48 = .ok (.invokevirtual 450, 3) := by decide +kernel
theorem dX8_goOn_51 : decode cX8_goOn 51 = .ok (.iinc 3 1, 3) := by decide +kernel
theorem dX8_goOn_54 : decode cX8_goOn 54 = .ok (.goto (-52), 3) := by decide +kernel
theorem dX8_goOn_57 : decode cX8_goOn 57 = .ok (.aload_n 0, 1) := by decide +kernel
theorem dX8_goOn_58 : decode cX8_goOn 58 = .ok (.getfield 382, 3) := by decide +kernel
theorem dX8_goOn_61 : decode cX8_goOn 61 = .ok (.ifCond .ne 78, 3) := by decide +kernel
theorem dX8_goOn_64 : decode cX8_goOn 64 = .ok (.aload_n 0, 1) := by decide +kernel
theorem dX8_goOn_65 : decode cX8_goOn 65 = .ok (.getfield 51, 3) := by decide +kernel
theorem dX8_goOn_68 : decode cX8_goOn 68 = .ok (.iconst 0, 1) := by decide +kernel
theorem dX8_goOn_69 : decode cX8_goOn 69 = .ok (.aload_n 0, 1) := by decide +kernel
theorem dX8_goOn_70 : decode cX8_goOn 70 = .ok (.getfield 252, 3) := by decide +kernel
theorem dX8_goOn_73 : decode cX8_goOn 73 = .ok (.aload_n 0, 1) := by decide +kernel
theorem dX8_goOn_74 : decode cX8_goOn 74 = .ok (.getfield 115, 3) := by decide +kernel
theorem dX8_goOn_77 : decode cX8_goOn 77 = .ok (.iload_n 1, 1) := by decide +kernel
theorem dX8_goOn_78 : decode cX8_goOn 78 = .ok (.iaload, 1) := by decide +kernel
theorem dX8_goOn_79 : decode cX8_goOn 79 = .ok (.bipush 24, 2) := by decide +kernel
theorem dX8_goOn_81 : decode cX8_goOn 81 = .ok (.irem, 1) := by decide +kernel
theorem dX8_goOn_82 : decode cX8_goOn 82 = .ok (.invokestatic 265, 3) := by decide +kernel
theorem dX8_goOn_85 : decode cX8_goOn 85 = .ok (.ifCond .lt 54, 3) := by decide +kernel
theorem dX8_goOn_88 : decode cX8_goOn 88 = .ok (.iconst 0, 1) := by decide +kernel
theorem dX8_goOn_89 : decode cX8_goOn 89 = .ok (.istore_n 3, 1) := by decide +kernel
theorem dX8_goOn_90 : decode cX8_goOn 90 = .ok (.iload_n 3, 1) := by decide +kernel
theorem dX8_goOn_91 : decode cX8_goOn 91 = .ok (.aload_n 0, 1) := by decide +kernel
theorem dX8_goOn_92 : decode cX8_goOn 92 = .ok (.getfield 243, 3) := by decide +kernel
theorem dX8_goOn_95 : decode cX8_goOn 95 = .ok (.if_icmp .ge 44, 3) := by decide +kernel
theorem dX8_goOn_98 : decode cX8_goOn 98 = .ok (.aload_n 0, 1) := by decide +kernel
theorem dX8_goOn_99 : decode cX8_goOn 99 = .ok (.iload_n 1, 1) := by decide +kernel
theorem dX8_goOn_100 : decode cX8_goOn 100 = .ok (.iload_n 3, 1) := by decide +kernel
theorem dX8_goOn_101 : decode cX8_goOn 101 = .ok (.invokevirtual 453, 3) := by decide +kernel
theorem dX8_goOn_104 : decode cX8_goOn 104 = .ok (.istore 4, 2) := by decide +kernel
theorem dX8_goOn_106 : decode cX8_goOn 106 = .ok (.aload_n 0, 1) := by decide +kernel
theorem dX8_goOn_107 : decode cX8_goOn 107 = .ok (.getfield 85, 3) := by decide +kernel
theorem dX8_goOn_110 : decode cX8_goOn 110 = .ok (.bipush 8, 2) := by decide +kernel
theorem dX8_goOn_112 : decode cX8_goOn 112 = .ok (.iload_n 1, 1) := by decide +kernel
theorem dX8_goOn_113 : decode cX8_goOn 113 = .ok (.imul, 1) := by decide +kernel
theorem dX8_goOn_114 : decode cX8_goOn 114 = .ok (.iload_n 3, 1) := by decide +kernel
theorem dX8_goOn_115 : decode cX8_goOn 115 = .ok (.iadd, 1) := by decide +kernel
theorem dX8_goOn_116 : decode cX8_goOn 116 = .ok (.dup2, 1) := by decide +kernel
theorem dX8_goOn_117 : decode cX8_goOn 117 = .ok (.iaload, 1) := by decide +kernel
theorem dX8_goOn_118 : decode cX8_goOn 118 = .ok (.iload 4, 2) := by decide +kernel
theorem dX8_goOn_120 : decode cX8_goOn 120 = .ok (.isub, 1) := by decide +kernel
theorem dX8_goOn_121 : decode cX8_goOn 121 = .ok (.iastore, 1) := by decide +kernel
theorem dX8_goOn_122 : decode cX8_goOn 122 = .ok (.aload_n 0, 1) := by decide +kernel
theorem dX8_goOn_123 : decode cX8_goOn 123 = .ok (.getfield 112, 3) := by decide +kernel
theorem dX8_goOn_126 : decode cX8_goOn 126 = .ok (.iload_n 1, 1) := by decide +kernel
theorem dX8_goOn_127 : decode cX8_goOn 127 = .ok (.dup2, 1) := by decide +kernel
theorem dX8_goOn_128 : decode cX8_goOn 128 = .ok (.iaload, 1) := by decide +kernel
theorem dX8_goOn_129 : decode cX8_goOn 129 = .ok (.iload 4, 2) := by decide +kernel
theorem dX8_goOn_131 : decode cX8_goOn 131 = .ok (.iadd, 1) := by decide +kernel
theorem dX8_goOn_132 : decode cX8_goOn 132 = .ok (.iastore, 1) := by decide +kernel
theorem dX8_goOn_133 : decode cX8_goOn 133 = .ok (.iinc 3 1, 3) := by decide +kernel
theorem dX8_goOn_136 : decode cX8_goOn 136 = .ok (.goto (-46), 3) := by decide +kernel
theorem dX8_goOn_139 : decode cX8_goOn 139 = .ok (.aload_n 0, 1) := by decide +kernel
theorem dX8_goOn_140 : decode cX8_goOn 140 = .ok (.getfield 115, 3) := by decide +kernel
theorem dX8_goOn_143 : decode cX8_goOn 143 = .ok (.iload_n 1, 1) := by decide +kernel
theorem dX8_goOn_144 : decode cX8_goOn 144 = .ok (.dup2, 1) := by decide +kernel
theorem dX8_goOn_145 : decode cX8_goOn 145 = .ok (.iaload, 1) := by decide +kernel
theorem dX8_goOn_146 : decode cX8_goOn 146 = .ok (.iconst 1, 1) := by decide +kernel
theorem dX8_goOn_147 : decode cX8_goOn 147 = .ok (.iadd, 1) := by decide +kernel
theorem dX8_goOn_148 : decode cX8_goOn 148 = .ok (.iastore, 1) := by decide +kernel
theorem dX8_goOn_149 : decode cX8_goOn 149 = .ok (.return_, 1) := by decide +kernel
theorem dX8_fails_0 : decode cX8_fails 0 = .ok (.aload_n 0, 1) := by decide +kernel
theorem dX8_fails_1 : decode cX8_fails 1 = .ok (.iload_n 1, 1) := by decide +kernel
theorem dX8_fails_2 : decode cX8_fails 2 = .ok (.putfield 163, 3) := by decide +kernel
theorem dX8_fails_5 : decode cX8_fails 5 = .ok (.iconst 0, 1) := by decide +kernel
theorem dX8_fails_6 : decode cX8_fails 6 = .ok (.ireturn, 1) := by decide +kernel
theorem dX8_stripe_0 : decode cX8_stripe 0 = .ok (.aload_n 0, 1) := by decide +kernel
theorem dX8_stripe_1 : decode cX8_stripe 1 = .ok (.iconst 0, 1) := by decide +kernel
theorem dX8_stripe_2 : decode cX8_stripe 2 = .ok (.putfield 163, 3) := by decide +kernel
theorem dX8_stripe_5 : decode cX8_stripe 5 = .ok (.aload_n 0, 1) := by decide +kernel
theorem dX8_stripe_6 : decode cX8_stripe 6 = .ok (.iload_n 1, 1) := by decide +kernel
theorem dX8_stripe_7 : decode cX8_stripe 7 = .ok (.invokevirtual 456, 3) := by decide +kernel
theorem dX8_stripe_10 : decode cX8_stripe 10 = .ok (.ifCond .ne 9, 3) := by decide +kernel
theorem dX8_stripe_13 : decode cX8_stripe 13 = .ok (.aload_n 0, 1) := by decide +kernel
theorem dX8_stripe_14 : decode cX8_stripe 14 = .ok (.iconst 1, 1) := by decide +kernel
theorem dX8_stripe_15 : decode cX8_stripe 15 = .ok (.invokevirtual 459, 3) := by decide +kernel
theorem dX8_stripe_18 : decode cX8_stripe 18 = .ok (.ireturn, 1) := by decide +kernel
theorem dX8_stripe_19 : decode cX8_stripe 19 = .ok (.iload_n 2, 1) := by decide +kernel
theorem dX8_stripe_20 : decode cX8_stripe 20 = .ok (.ifCond .ne 12, 3) := by decide +kernel
theorem dX8_stripe_23 : decode cX8_stripe 23 = .ok (.aload_n 0, 1) := by decide +kernel
theorem dX8_stripe_24 : decode cX8_stripe 24 = .ok (.getfield 85, 3) := by decide +kernel
theorem dX8_stripe_27 : decode cX8_stripe 27 = .ok (.iload_n 1, 1) := by decide +kernel
theorem dX8_stripe_28 : decode cX8_stripe 28 = .ok (.iaload, 1) := by decide +kernel
theorem dX8_stripe_29 : decode cX8_stripe 29 = .ok (.goto 22, 3) := by decide +kernel
theorem dX8_stripe_32 : decode cX8_stripe 32 = .ok (.iload_n 2, 1) := by decide +kernel
theorem dX8_stripe_33 : decode cX8_stripe 33 = .ok (.iconst 1, 1) := by decide +kernel
theorem dX8_stripe_34 : decode cX8_stripe 34 = .ok (.if_icmp .ne 12, 3) := by decide +kernel
theorem dX8_stripe_37 : decode cX8_stripe 37 = .ok (.aload_n 0, 1) := by decide +kernel
theorem dX8_stripe_38 : decode cX8_stripe 38 = .ok (.getfield 88, 3) := by decide +kernel
theorem dX8_stripe_41 : decode cX8_stripe 41 = .ok (.iload_n 1, 1) := by decide +kernel
theorem dX8_stripe_42 : decode cX8_stripe 42 = .ok (.iaload, 1) := by decide +kernel
theorem dX8_stripe_43 : decode cX8_stripe 43 = .ok (.goto 8, 3) := by decide +kernel
theorem dX8_stripe_46 : decode cX8_stripe 46 = .ok (.aload_n 0, 1) := by decide +kernel
theorem dX8_stripe_47 : decode cX8_stripe 47 = .ok (.iconst 2, 1) := by decide +kernel
theorem dX8_stripe_48 : decode cX8_stripe 48 = .ok (.invokevirtual 459, 3) := by decide +kernel
theorem dX8_stripe_51 : decode cX8_stripe 51 = .ok (.ireturn, 1) := by decide +kernel
def f_X8_forks (N : Nat) (h : Hp) (p1 : Int32) (p2 : Int32) (p3 : Int32) : Option Hp :=
  (f_X8_sourceOf N h p1 p2 p3 true).bind fun v1 =>
  if ¬ v1 = (-2) then
    bd2 (f_X8_forkOf N h p1 p2 v1) fun v3 h2 =>
    grd (inb ((8 * p1) + v1) 16) <|
    jn (fun (v4 : Int32) =>
      (f_X8_lessAt h2 p1 v1 v4).bind fun h5 =>
      grd (inb p1 2) <|
      grd (inb p1 2) <| lt_ (sA h5 8 0 31 p1.toNatClampNeg ((gA h5 8 0 31 p1.toNatClampNeg) + v4)) fun h6 =>
      grd (inb ((4 * p1) + p2) 8) <|
      grd (inb ((4 * p1) + p2) 8) <| lt_ (sA h6 8 0 29 ((4 * p1) + p2).toNatClampNeg ((gA h6 8 0 29 ((4 * p1) + p2).toNatClampNeg) + v4)) fun h7 =>
      some h7) fun (j62 : Int32 → Option Hp) =>
    if v3 ≤ (gA h2 8 0 23 ((8 * p1) + v1).toNatClampNeg) then
      j62 v3
    else
    grd (inb ((8 * p1) + v1) 16) <|
    j62 (gA h2 8 0 23 ((8 * p1) + v1).toNatClampNeg)
  else
  some h
abbrev rmX8_forks : Room := { frames := 5, cells := 0, slots := 0, locals := 120 }
set_option maxRecDepth 100000 in
set_option maxHeartbeats 4000000 in
theorem w_X8_forks (X : Cx) (F : Fx X cX8_forks RX8 none rmX8_forks) (hA : xA X = Aw (xG X)) (hL : xL X = 6) (N : Nat) (h : Hp) (p1 : Int32) (p2 : Int32) (p3 : Int32) : Wm X (fun _ => none) (fun v => v) (fun _ => True) 0 [(0, .ref (adr (xG X) 8 0 0)), (1, .int p1), (2, .int p2), (3, .int p3)] [] h (f_X8_forks N h p1 p2 p3) := by
  have hS : ∀ i : Nat, i < 6 → i < xL X := fun i z => by rw [hL]; exact z
  unfold f_X8_forks
  refine r_aload_n F 0 rfl dX8_forks_0 rfl ?_
  refine r_iload_n F 1 rfl dX8_forks_1 rfl ?_
  refine r_iload_n F 2 rfl dX8_forks_2 rfl ?_
  refine r_iload_n F 3 rfl dX8_forks_3 rfl ?_
  refine r_iconst F (v := 1) dX8_forks_4 (by decide) ?_
  refine k_iP (run_V F cvX8_418 (by decide) (c_X8_sourceOf (xG X) _ N h p1 p2 p3 true) rfl rfl ⟨⟨rfl, rfl⟩, Nat.le_of_ble_eq_true rfl, Nat.le_of_ble_eq_true rfl⟩ (Nat.le_of_ble_eq_true rfl) dX8_forks_5) fun v1 _ => ?_
  refine r_istore F [(4, .int v1), (0, .ref (adr (xG X) 8 0 0)), (1, .int p1), (2, .int p2), (3, .int p3)] rfl dX8_forks_8 (hS _ (by decide)) ?_
  refine r_iload F 0 rfl dX8_forks_10 ?_
  refine r_bipush F (v := (-2)) dX8_forks_12 (by decide) ?_
  refine r_icmpne F (tgt := 18) dX8_forks_14 (by decide) ?_ ?_
  · skip
    refine r_aload_n F 1 rfl dX8_forks_18 rfl ?_
    refine r_iload_n F 2 rfl dX8_forks_19 rfl ?_
    refine r_iload_n F 3 rfl dX8_forks_20 rfl ?_
    refine r_iload F 0 rfl dX8_forks_21 ?_
    refine k_iH (run_V F cvX8_428 (by decide) (c_X8_forkOf (xG X) _ N h p1 p2 v1) rfl rfl ⟨⟨rfl, rfl⟩, Nat.le_of_ble_eq_true rfl, Nat.le_of_ble_eq_true rfl⟩ (Nat.le_of_ble_eq_true rfl) dX8_forks_23) fun v3 h2 => ?_
    refine r_istore F [(5, .int v3), (4, .int v1), (0, .ref (adr (xG X) 8 0 0)), (1, .int p1), (2, .int p2), (3, .int p3)] rfl dX8_forks_26 (hS _ (by decide)) ?_
    refine r_iload F 0 rfl dX8_forks_28 ?_
    refine r_aload_n F 2 rfl dX8_forks_30 rfl ?_
    refine r_getA F frX8_85 (by decide) dX8_forks_31 ?_
    refine r_bipush F (v := 8) dX8_forks_34 (by decide) ?_
    refine r_iload_n F 3 rfl dX8_forks_36 rfl ?_
    refine r_imul F dX8_forks_37 ?_
    refine r_iload F 1 rfl dX8_forks_38 ?_
    refine r_iadd F dX8_forks_40 ?_
    refine r_iaload F (ar_8_23 0 (by decide)) dX8_forks_41 ?_
    refine Wt_jn (fun (j62 : Int32 → Option Hp) => ∀ v4 : Int32, Wm X (fun _ => none) (fun v => v) (fun _ => True) 62 [(0, .ref (adr (xG X) 8 0 0)), (1, .int p1), (2, .int p2), (4, .int v1)] [.int v4] h2 (j62 v4)) ?_ fun j62 hj62 => ?_
    · intro v4
      refine r_istore F [(5, .int v4), (0, .ref (adr (xG X) 8 0 0)), (1, .int p1), (2, .int p2), (4, .int v1)] rfl dX8_forks_62 (hS _ (by decide)) ?_
      refine r_aload_n F 1 rfl dX8_forks_64 rfl ?_
      refine r_iload_n F 2 rfl dX8_forks_65 rfl ?_
      refine r_iload F 4 rfl dX8_forks_66 ?_
      refine r_iload F 0 rfl dX8_forks_68 ?_
      refine k_vH (run_V F cvX8_425 (by decide) (c_X8_lessAt (xG X) _ h2 p1 v1 v4) rfl rfl ⟨⟨rfl, rfl⟩, Nat.le_of_ble_eq_true rfl, Nat.le_of_ble_eq_true rfl⟩ (Nat.le_of_ble_eq_true rfl) dX8_forks_70) fun h5 => ?_
      refine r_aload_n F 1 rfl dX8_forks_73 rfl ?_
      refine r_getA F frX8_109 (by decide) dX8_forks_74 ?_
      refine r_iload_n F 2 rfl dX8_forks_77 rfl ?_
      refine r_dup2 F rfl rfl dX8_forks_78 ?_
      refine r_iaload F (ar_8_31 0 (by decide)) dX8_forks_79 ?_
      refine r_iload F 0 rfl dX8_forks_80 ?_
      refine r_iadd F dX8_forks_82 ?_
      refine r_iastore F (ar_8_31 0 (by decide)) dX8_forks_83 fun h6 => ?_
      refine r_aload_n F 1 rfl dX8_forks_84 rfl ?_
      refine r_getA F frX8_103 (by decide) dX8_forks_85 ?_
      refine r_iconst F (v := 4) dX8_forks_88 (by decide) ?_
      refine r_iload_n F 2 rfl dX8_forks_89 rfl ?_
      refine r_imul F dX8_forks_90 ?_
      refine r_iload_n F 3 rfl dX8_forks_91 rfl ?_
      refine r_iadd F dX8_forks_92 ?_
      refine r_dup2 F rfl rfl dX8_forks_93 ?_
      refine r_iaload F (ar_8_29 0 (by decide)) dX8_forks_94 ?_
      refine r_iload F 0 rfl dX8_forks_95 ?_
      refine r_iadd F dX8_forks_97 ?_
      refine r_iastore F (ar_8_29 0 (by decide)) dX8_forks_98 fun h7 => ?_
      exact r_vret F hA rfl rfl trivial dX8_forks_99
    refine r_icmple F (tgt := 60) dX8_forks_42 (by decide) ?_ ?_
    · skip
      refine r_iload F 0 rfl dX8_forks_60 ?_
      exact Wt_pick [2, 3, 4, 1] rfl (hj62 v3)
    refine r_aload_n F 2 rfl dX8_forks_45 rfl ?_
    refine r_getA F frX8_85 (by decide) dX8_forks_46 ?_
    refine r_bipush F (v := 8) dX8_forks_49 (by decide) ?_
    refine r_iload_n F 3 rfl dX8_forks_51 rfl ?_
    refine r_imul F dX8_forks_52 ?_
    refine r_iload F 1 rfl dX8_forks_53 ?_
    refine r_iadd F dX8_forks_55 ?_
    refine r_iaload F (ar_8_23 0 (by decide)) dX8_forks_56 ?_
    refine r_goto F (tgt := 62) dX8_forks_57 (by decide) ?_
    exact Wt_pick [2, 3, 4, 1] rfl (hj62 (gA h2 8 0 23 ((8 * p1) + v1).toNatClampNeg))
  exact r_vret F hA rfl rfl trivial dX8_forks_17
theorem c_X8_forks (G : Gx) (l : Launch) (N : Nat) (h : Hp) (p1 : Int32) (p2 : Int32) (p3 : Int32) : Ctr G l yX8_forks (.code yX8_forks cX8_forks 6 none :: GT) rmX8_forks [.ref (adr G 8 0 0), .int p1, .int p2, .int p3] h (f_X8_forks N h p1 p2 p3) (fun _ => none) (fun v => v) (fun _ => True) :=
  ctr_of (by decide) (Nat.le_of_ble_eq_true rfl) ⟨rfl, rfl⟩ fun X _ e2 hA hL F => by subst e2; exact w_X8_forks X F hA hL N h p1 p2 p3
def f_X8_allLies_4 (h : Hp) (p1 : Int32) (r4 : Int32 → Int32 → Option Int32) (v1 : Int32) (v2 : Int32) : Option Int32 :=
  if (gI h 8 0 12) ≤ v2 then
    some v1
  else
  grd (inb ((8 * p1) + v2) 16) <|
  lt_ ((v1 + (gA h 8 0 23 ((8 * p1) + v2).toNatClampNeg))) fun v3 =>
  lt_ (v2 + 1) fun v4 =>
  r4 v3 v4
def f_X8_allLies (N : Nat) (h : Hp) (p1 : Int32) : Option Int32 :=
  iter (fun _ _ => none) (f_X8_allLies_4 h p1) N 0 0
abbrev rmX8_allLies : Room := { frames := 0, cells := 0, slots := 0, locals := 0 }
set_option maxRecDepth 100000 in
set_option maxHeartbeats 4000000 in
theorem w_X8_allLies (X : Cx) (F : Fx X cX8_allLies RX8 (some .int) rmX8_allLies) (hA : xA X = Aw (xG X)) (hL : xL X = 4) (N : Nat) (h : Hp) (p1 : Int32) : Wm X (fun v => some (.int v)) (fun _ => h) (fun _ => True) 0 [(0, .ref (adr (xG X) 8 0 0)), (1, .int p1)] [] h (f_X8_allLies N h p1) := by
  have hS : ∀ i : Nat, i < 4 → i < xL X := fun i z => by rw [hL]; exact z
  unfold f_X8_allLies
  refine r_iconst F (v := 0) dX8_allLies_0 (by decide) ?_
  refine r_istore_n F [(2, .int 0), (0, .ref (adr (xG X) 8 0 0)), (1, .int p1)] rfl dX8_allLies_1 rfl (hS _ (by decide)) ?_
  refine r_iconst F (v := 0) dX8_allLies_2 (by decide) ?_
  refine r_istore_n F [(3, .int 0), (2, .int 0), (0, .ref (adr (xG X) 8 0 0)), (1, .int p1)] rfl dX8_allLies_3 rfl (hS _ (by decide)) ?_
  have hl4 : ∀ n : Nat, ∀ v1 : Int32, ∀ v2 : Int32, Wm X (fun v => some (.int v)) (fun _ => h) (fun _ => True) 4 [(0, .ref (adr (xG X) 8 0 0)), (1, .int p1), (2, .int v1), (3, .int v2)] [] h (iter (fun _ _ => none) (f_X8_allLies_4 h p1) n v1 v2) := by
    intro n
    induction n with
    | zero => intro v1 v2; exact Wt_none
    | succ n ih =>
      revert ih
      show (∀ v1 : Int32, ∀ v2 : Int32, Wm X (fun v => some (.int v)) (fun _ => h) (fun _ => True) 4 [(0, .ref (adr (xG X) 8 0 0)), (1, .int p1), (2, .int v1), (3, .int v2)] [] h (iter (fun _ _ => none) (f_X8_allLies_4 h p1) n v1 v2)) → _
      intro ih4 v1 v2
      show Wm X (fun v => some (.int v)) (fun _ => h) (fun _ => True) 4 [(0, .ref (adr (xG X) 8 0 0)), (1, .int p1), (2, .int v1), (3, .int v2)] [] h (f_X8_allLies_4 h p1 (iter (fun _ _ => none) (f_X8_allLies_4 h p1) n) v1 v2)
      revert ih4
      generalize iter (fun _ _ => none) (f_X8_allLies_4 h p1) n = r4
      intro ih4
      unfold f_X8_allLies_4
      refine r_iload_n F 3 rfl dX8_allLies_4 rfl ?_
      refine r_aload_n F 0 rfl dX8_allLies_5 rfl ?_
      refine r_getI F frX8_243 (by decide) dX8_allLies_6 ?_
      refine r_icmpge F (tgt := 32) dX8_allLies_9 (by decide) ?_ ?_
      · skip
        refine r_iload_n F 2 rfl dX8_allLies_32 rfl ?_
        exact r_iret F hA rfl rfl trivial dX8_allLies_33
      refine r_iload_n F 2 rfl dX8_allLies_12 rfl ?_
      refine r_aload_n F 0 rfl dX8_allLies_13 rfl ?_
      refine r_getA F frX8_85 (by decide) dX8_allLies_14 ?_
      refine r_bipush F (v := 8) dX8_allLies_17 (by decide) ?_
      refine r_iload_n F 1 rfl dX8_allLies_19 rfl ?_
      refine r_imul F dX8_allLies_20 ?_
      refine r_iload_n F 3 rfl dX8_allLies_21 rfl ?_
      refine r_iadd F dX8_allLies_22 ?_
      refine r_iaload F (ar_8_23 0 (by decide)) dX8_allLies_23 ?_
      refine r_iadd F dX8_allLies_24 ?_
      refine r_nmI fun v3 => ?_
      refine r_istore_n F [(2, .int v3), (0, .ref (adr (xG X) 8 0 0)), (1, .int p1), (3, .int v2)] rfl dX8_allLies_25 rfl (hS _ (by decide)) ?_
      refine r_iinc F (v := 1) 3 rfl (by decide) (fun v4 => [(3, .int v4), (2, .int v3), (0, .ref (adr (xG X) 8 0 0)), (1, .int p1)]) (fun _ => rfl) dX8_allLies_26 (hS _ (by decide)) fun v4 => ?_
      refine r_goto F (tgt := 4) dX8_allLies_29 (by decide) ?_
      exact Wt_pick [2, 3, 1, 0] rfl (ih4 v3 v4)
  exact Wt_pick [2, 3, 1, 0] rfl (hl4 N 0 0)
theorem c_X8_allLies (G : Gx) (l : Launch) (N : Nat) (h : Hp) (p1 : Int32) : Ctr G l yX8_allLies (.code yX8_allLies cX8_allLies 4 (some .int) :: GT) rmX8_allLies [.ref (adr G 8 0 0), .int p1] h (f_X8_allLies N h p1) (fun v => some (.int v)) (fun _ => h) (fun _ => True) :=
  ctr_of (by decide) (Nat.le_of_ble_eq_true rfl) ⟨rfl, rfl⟩ fun X _ e2 hA hL F => by subst e2; exact w_X8_allLies X F hA hL N h p1
def f_X8_number1 (h : Hp) (p1 : Int32) : Option (Int32 × Hp) :=
  lt_ (sL h 8 0 62 ((((gL h 8 0 62) * (1103515245 : Int64)) + (12345 : Int64)) &&& (2147483647 : Int64))) fun h1 =>
  grd (¬ (65536 : Int64) = 0) <|
  grd (¬ (p1).toInt64 = 0) <|
  some (((((gL h1 8 0 62) / (65536 : Int64)) - ((gL h1 8 0 62) / (65536 : Int64)) / (p1).toInt64 * (p1).toInt64)).toInt32, h1)
abbrev rmX8_number1 : Room := { frames := 0, cells := 0, slots := 0, locals := 0 }
set_option maxRecDepth 100000 in
set_option maxHeartbeats 4000000 in
theorem w_X8_number1 (X : Cx) (F : Fx X cX8_number1 RX8 (some .int) rmX8_number1) (hA : xA X = Aw (xG X)) (hL : xL X = 2) (h : Hp) (p1 : Int32) : Wm X (fun v => some (.int v.1)) (fun v => v.2) (fun _ => True) 0 [(0, .ref (adr (xG X) 8 0 0)), (1, .int p1)] [] h (f_X8_number1 h p1) := by
  have hS : ∀ i : Nat, i < 2 → i < xL X := fun i z => by rw [hL]; exact z
  unfold f_X8_number1
  refine r_aload_n F 0 rfl dX8_number1_0 rfl ?_
  refine r_aload_n F 0 rfl dX8_number1_1 rfl ?_
  refine r_getL F frX8_366 (by decide) dX8_number1_2 ?_
  refine r_ldc2 F wd_1813 dX8_number1_5 ?_
  refine r_lmul F dX8_number1_8 ?_
  refine r_ldc2 F wd_1814 dX8_number1_9 ?_
  refine r_ladd F dX8_number1_12 ?_
  refine r_ldc2 F wd_1815 dX8_number1_13 ?_
  refine r_land F dX8_number1_16 ?_
  refine r_putL F frX8_366 (by decide) rfl rfl dX8_number1_17 fun h1 => ?_
  refine r_aload_n F 0 rfl dX8_number1_20 rfl ?_
  refine r_getL F frX8_366 (by decide) dX8_number1_21 ?_
  refine r_ldc2 F wd_1816 dX8_number1_24 ?_
  refine r_ldiv F dX8_number1_27 ?_
  refine r_iload_n F 1 rfl dX8_number1_28 rfl ?_
  refine r_i2l F dX8_number1_29 ?_
  refine r_lrem F dX8_number1_30 ?_
  refine r_l2i F dX8_number1_31 ?_
  exact r_iret F hA rfl rfl trivial dX8_number1_32
theorem c_X8_number1 (G : Gx) (l : Launch) (h : Hp) (p1 : Int32) : Ctr G l yX8_number1 (.code yX8_number1 cX8_number1 2 (some .int) :: GT) rmX8_number1 [.ref (adr G 8 0 0), .int p1] h (f_X8_number1 h p1) (fun v => some (.int v.1)) (fun v => v.2) (fun _ => True) :=
  ctr_of (by decide) (Nat.le_of_ble_eq_true rfl) ⟨rfl, rfl⟩ fun X _ e2 hA hL F => by subst e2; exact w_X8_number1 X F hA hL h p1
def f_X8_gale_27 (p1 : Int32) (r27 : Int32 → Hp → Option Hp) (v4 : Int32) (h5 : Hp) : Option Hp :=
  if (gI h5 8 0 12) ≤ v4 then
    some h5
  else
  grd (inb ((8 * p1) + v4) 16) <|
  grd (inb 3 10) <|
  lt_ (((gA h5 8 0 23 ((8 * p1) + v4).toNatClampNeg) + (gA h5 8 0 3 (3 : Int32).toNatClampNeg))) fun v6 =>
  jn (fun (v7 : Int32) =>
    grd (inb ((8 * p1) + v4) 16) <| lt_ (sA h5 8 0 23 ((8 * p1) + v4).toNatClampNeg v7) fun h8 =>
    lt_ (v4 + 1) fun v9 =>
    r27 v9 h8) fun (j78 : Int32 → Option Hp) =>
  if v6 ≤ 9999 then
    j78 v6
  else
  j78 9999
def f_X8_gale (N : Nat) (h : Hp) (p1 : Int32) : Option Hp :=
  grd (inb 2 10) <|
  jn (fun (h1 : Hp) =>
    some h1) fun (j24 : Hp → Option Hp) =>
  if (gA h 8 0 3 (2 : Int32).toNatClampNeg) = 0 then
    j24 h
  else
  bd2 (f_X8_number1 h 100) fun v3 h2 =>
  grd (inb 2 10) <|
  if v3 < (gA h2 8 0 3 (2 : Int32).toNatClampNeg) then
    iter (fun _ _ => none) (f_X8_gale_27 p1) N 0 h2
  else
  j24 h2
abbrev rmX8_gale : Room := { frames := 1, cells := 0, slots := 0, locals := 21 }
set_option maxRecDepth 100000 in
set_option maxHeartbeats 4000000 in
theorem w_X8_gale (X : Cx) (F : Fx X cX8_gale RX8 none rmX8_gale) (hA : xA X = Aw (xG X)) (hL : xL X = 4) (N : Nat) (h : Hp) (p1 : Int32) : Wm X (fun _ => none) (fun v => v) (fun _ => True) 0 [(0, .ref (adr (xG X) 8 0 0)), (1, .int p1)] [] h (f_X8_gale N h p1) := by
  have hS : ∀ i : Nat, i < 4 → i < xL X := fun i z => by rw [hL]; exact z
  unfold f_X8_gale
  refine r_aload_n F 0 rfl dX8_gale_0 rfl ?_
  refine r_getA F frX8_24 (by decide) dX8_gale_1 ?_
  refine r_iconst F (v := 2) dX8_gale_4 (by decide) ?_
  refine r_iaload F (ar_8_3 0 (by decide)) dX8_gale_5 ?_
  refine Wt_jn (fun (j24 : Hp → Option Hp) => ∀ h1 : Hp, Wm X (fun _ => none) (fun v => v) (fun _ => True) 24 [] [] h1 (j24 h1)) ?_ fun j24 hj24 => ?_
  · intro h1
    exact r_vret F hA rfl rfl trivial dX8_gale_24
  refine r_ifeq F (tgt := 24) dX8_gale_6 (by decide) ?_ ?_
  · skip
    exact Wt_pick [] rfl (hj24 h)
  refine r_aload_n F 0 rfl dX8_gale_9 rfl ?_
  refine r_bipush F (v := 100) dX8_gale_10 (by decide) ?_
  refine k_iH (run_V F cvX8_439 (by decide) (c_X8_number1 (xG X) _ h 100) rfl rfl ⟨⟨rfl, rfl⟩, Nat.le_of_ble_eq_true rfl, Nat.le_of_ble_eq_true rfl⟩ (Nat.le_of_ble_eq_true rfl) dX8_gale_12) fun v3 h2 => ?_
  refine r_aload_n F 0 rfl dX8_gale_15 rfl ?_
  refine r_getA F frX8_24 (by decide) dX8_gale_16 ?_
  refine r_iconst F (v := 2) dX8_gale_19 (by decide) ?_
  refine r_iaload F (ar_8_3 0 (by decide)) dX8_gale_20 ?_
  refine r_icmplt F (tgt := 25) dX8_gale_21 (by decide) ?_ ?_
  · skip
    refine r_iconst F (v := 0) dX8_gale_25 (by decide) ?_
    refine r_istore_n F [(2, .int 0), (0, .ref (adr (xG X) 8 0 0)), (1, .int p1)] rfl dX8_gale_26 rfl (hS _ (by decide)) ?_
    have hl27 : ∀ n : Nat, ∀ v4 : Int32, ∀ h5 : Hp, Wm X (fun _ => none) (fun v => v) (fun _ => True) 27 [(0, .ref (adr (xG X) 8 0 0)), (1, .int p1), (2, .int v4)] [] h5 (iter (fun _ _ => none) (f_X8_gale_27 p1) n v4 h5) := by
      intro n
      induction n with
      | zero => intro v4 h5; exact Wt_none
      | succ n ih =>
        revert ih
        show (∀ v4 : Int32, ∀ h5 : Hp, Wm X (fun _ => none) (fun v => v) (fun _ => True) 27 [(0, .ref (adr (xG X) 8 0 0)), (1, .int p1), (2, .int v4)] [] h5 (iter (fun _ _ => none) (f_X8_gale_27 p1) n v4 h5)) → _
        intro ih27 v4 h5
        show Wm X (fun _ => none) (fun v => v) (fun _ => True) 27 [(0, .ref (adr (xG X) 8 0 0)), (1, .int p1), (2, .int v4)] [] h5 (f_X8_gale_27 p1 (iter (fun _ _ => none) (f_X8_gale_27 p1) n) v4 h5)
        revert ih27
        generalize iter (fun _ _ => none) (f_X8_gale_27 p1) n = r27
        intro ih27
        unfold f_X8_gale_27
        refine r_iload_n F 2 rfl dX8_gale_27 rfl ?_
        refine r_aload_n F 0 rfl dX8_gale_28 rfl ?_
        refine r_getI F frX8_243 (by decide) dX8_gale_29 ?_
        refine r_icmpge F (tgt := 85) dX8_gale_32 (by decide) ?_ ?_
        · skip
          exact r_vret F hA rfl rfl trivial dX8_gale_85
        refine r_aload_n F 0 rfl dX8_gale_35 rfl ?_
        refine r_getA F frX8_85 (by decide) dX8_gale_36 ?_
        refine r_bipush F (v := 8) dX8_gale_39 (by decide) ?_
        refine r_iload_n F 1 rfl dX8_gale_41 rfl ?_
        refine r_imul F dX8_gale_42 ?_
        refine r_iload_n F 2 rfl dX8_gale_43 rfl ?_
        refine r_iadd F dX8_gale_44 ?_
        refine r_iaload F (ar_8_23 0 (by decide)) dX8_gale_45 ?_
        refine r_aload_n F 0 rfl dX8_gale_46 rfl ?_
        refine r_getA F frX8_24 (by decide) dX8_gale_47 ?_
        refine r_iconst F (v := 3) dX8_gale_50 (by decide) ?_
        refine r_iaload F (ar_8_3 0 (by decide)) dX8_gale_51 ?_
        refine r_iadd F dX8_gale_52 ?_
        refine r_nmI fun v6 => ?_
        refine r_istore_n F [(3, .int v6), (0, .ref (adr (xG X) 8 0 0)), (1, .int p1), (2, .int v4)] rfl dX8_gale_53 rfl (hS _ (by decide)) ?_
        refine r_aload_n F 1 rfl dX8_gale_54 rfl ?_
        refine r_getA F frX8_85 (by decide) dX8_gale_55 ?_
        refine r_bipush F (v := 8) dX8_gale_58 (by decide) ?_
        refine r_iload_n F 2 rfl dX8_gale_60 rfl ?_
        refine r_imul F dX8_gale_61 ?_
        refine r_iload_n F 3 rfl dX8_gale_62 rfl ?_
        refine r_iadd F dX8_gale_63 ?_
        refine r_iload_n F 0 rfl dX8_gale_64 rfl ?_
        refine r_sipush F (v := 9999) dX8_gale_65 (by decide) ?_
        refine Wt_jn (fun (j78 : Int32 → Option Hp) => ∀ v7 : Int32, Wm X (fun _ => none) (fun v => v) (fun _ => True) 78 [(0, .ref (adr (xG X) 8 0 0)), (1, .int p1), (2, .int v4)] [.int v7, .int ((8 * p1) + v4), .ref (adr (xG X) 8 0 24)] h5 (j78 v7)) ?_ fun j78 hj78 => ?_
        · intro v7
          refine r_iastore F (ar_8_23 0 (by decide)) dX8_gale_78 fun h8 => ?_
          refine r_iinc F (v := 1) 2 rfl (by decide) (fun v9 => [(2, .int v9), (0, .ref (adr (xG X) 8 0 0)), (1, .int p1)]) (fun _ => rfl) dX8_gale_79 (hS _ (by decide)) fun v9 => ?_
          refine r_goto F (tgt := 27) dX8_gale_82 (by decide) ?_
          exact Wt_pick [1, 2, 0] rfl (ih27 v9 h8)
        refine r_icmple F (tgt := 77) dX8_gale_68 (by decide) ?_ ?_
        · skip
          refine r_iload_n F 0 rfl dX8_gale_77 rfl ?_
          exact Wt_pick [1, 2, 3] rfl (hj78 v6)
        refine r_sipush F (v := 9999) dX8_gale_71 (by decide) ?_
        refine r_goto F (tgt := 78) dX8_gale_74 (by decide) ?_
        exact Wt_pick [1, 2, 3] rfl (hj78 9999)
    exact Wt_pick [1, 2, 0] rfl (hl27 N 0 h2)
  exact Wt_pick [] rfl (hj24 h2)
theorem c_X8_gale (G : Gx) (l : Launch) (N : Nat) (h : Hp) (p1 : Int32) : Ctr G l yX8_gale (.code yX8_gale cX8_gale 4 none :: GT) rmX8_gale [.ref (adr G 8 0 0), .int p1] h (f_X8_gale N h p1) (fun _ => none) (fun v => v) (fun _ => True) :=
  ctr_of (by decide) (Nat.le_of_ble_eq_true rfl) ⟨rfl, rfl⟩ fun X _ e2 hA hL F => by subst e2; exact w_X8_gale X F hA hL N h p1
def f_X8_acts (N : Nat) (h : Hp) (p1 : Int32) (p2 : Int32) (p3 : Int32) : Option Hp :=
  grd (inb ((4 * p1) + p2) 8) <|
  lt_ ((gA h 8 0 27 ((4 * p1) + p2).toNatClampNeg)) fun v1 =>
  if ¬ v1 = 3 then
    jn (fun (h2 : Hp) =>
      some h2) fun (j60 : Hp → Option Hp) =>
    jn (
      (f_X8_forks N h p1 p2 p3).bind fun h3 =>
      j60 h3) fun (j43 : Option Hp) =>
    if v1 = 2 then
      j43
    else
    jn (
      (f_X8_carts N h p1 p2 p3).bind fun h4 =>
      j60 h4) fun (j53 : Option Hp) =>
    if ¬ v1 = 0 then
      j53
    else
    if ¬ p3 = 2 then
      j53
    else
    (f_X8_allLies N h p1).bind fun v5 =>
    if v5 ≤ 0 then
      j53
    else
    j43
  else
  some h
abbrev rmX8_acts : Room := { frames := 7, cells := 0, slots := 0, locals := 171 }
set_option maxRecDepth 100000 in
set_option maxHeartbeats 4000000 in
theorem w_X8_acts (X : Cx) (F : Fx X cX8_acts RX8 none rmX8_acts) (hA : xA X = Aw (xG X)) (hL : xL X = 5) (N : Nat) (h : Hp) (p1 : Int32) (p2 : Int32) (p3 : Int32) : Wm X (fun _ => none) (fun v => v) (fun _ => True) 0 [(0, .ref (adr (xG X) 8 0 0)), (1, .int p1), (2, .int p2), (3, .int p3)] [] h (f_X8_acts N h p1 p2 p3) := by
  have hS : ∀ i : Nat, i < 5 → i < xL X := fun i z => by rw [hL]; exact z
  unfold f_X8_acts
  refine r_aload_n F 0 rfl dX8_acts_0 rfl ?_
  refine r_getA F frX8_97 (by decide) dX8_acts_1 ?_
  refine r_iconst F (v := 4) dX8_acts_4 (by decide) ?_
  refine r_iload_n F 1 rfl dX8_acts_5 rfl ?_
  refine r_imul F dX8_acts_6 ?_
  refine r_iload_n F 2 rfl dX8_acts_7 rfl ?_
  refine r_iadd F dX8_acts_8 ?_
  refine r_iaload F (ar_8_27 0 (by decide)) dX8_acts_9 ?_
  refine r_nmI fun v1 => ?_
  refine r_istore F [(4, .int v1), (0, .ref (adr (xG X) 8 0 0)), (1, .int p1), (2, .int p2), (3, .int p3)] rfl dX8_acts_10 (hS _ (by decide)) ?_
  refine r_iload F 0 rfl dX8_acts_12 ?_
  refine r_iconst F (v := 3) dX8_acts_14 (by decide) ?_
  refine r_icmpne F (tgt := 19) dX8_acts_15 (by decide) ?_ ?_
  · skip
    refine r_iload F 0 rfl dX8_acts_19 ?_
    refine r_iconst F (v := 2) dX8_acts_21 (by decide) ?_
    refine Wt_jn (fun (j60 : Hp → Option Hp) => ∀ h2 : Hp, Wm X (fun _ => none) (fun v => v) (fun _ => True) 60 [] [] h2 (j60 h2)) ?_ fun j60 hj60 => ?_
    · intro h2
      exact r_vret F hA rfl rfl trivial dX8_acts_60
    refine Wt_jn (fun (j43 : Option Hp) => Wm X (fun _ => none) (fun v => v) (fun _ => True) 43 [(0, .ref (adr (xG X) 8 0 0)), (1, .int p1), (2, .int p2), (3, .int p3)] [] h (j43)) ?_ fun j43 hj43 => ?_
    · skip
      refine r_aload_n F 0 rfl dX8_acts_43 rfl ?_
      refine r_iload_n F 1 rfl dX8_acts_44 rfl ?_
      refine r_iload_n F 2 rfl dX8_acts_45 rfl ?_
      refine r_iload_n F 3 rfl dX8_acts_46 rfl ?_
      refine k_vH (run_V F cvX8_445 (by decide) (c_X8_forks (xG X) _ N h p1 p2 p3) rfl rfl ⟨⟨rfl, rfl⟩, Nat.le_of_ble_eq_true rfl, Nat.le_of_ble_eq_true rfl⟩ (Nat.le_of_ble_eq_true rfl) dX8_acts_47) fun h3 => ?_
      refine r_goto F (tgt := 60) dX8_acts_50 (by decide) ?_
      exact Wt_pick [] rfl (hj60 h3)
    refine r_icmpeq F (tgt := 43) dX8_acts_22 (by decide) ?_ ?_
    · skip
      exact Wt_pick [1, 2, 3, 4] rfl (hj43)
    refine r_iload F 0 rfl dX8_acts_25 ?_
    refine Wt_jn (fun (j53 : Option Hp) => Wm X (fun _ => none) (fun v => v) (fun _ => True) 53 [(0, .ref (adr (xG X) 8 0 0)), (1, .int p1), (2, .int p2), (3, .int p3)] [] h (j53)) ?_ fun j53 hj53 => ?_
    · skip
      refine r_aload_n F 0 rfl dX8_acts_53 rfl ?_
      refine r_iload_n F 1 rfl dX8_acts_54 rfl ?_
      refine r_iload_n F 2 rfl dX8_acts_55 rfl ?_
      refine r_iload_n F 3 rfl dX8_acts_56 rfl ?_
      refine k_vH (run_V F cvX8_448 (by decide) (c_X8_carts (xG X) _ N h p1 p2 p3) rfl rfl ⟨⟨rfl, rfl⟩, Nat.le_of_ble_eq_true rfl, Nat.le_of_ble_eq_true rfl⟩ (Nat.le_of_ble_eq_true rfl) dX8_acts_57) fun h4 => ?_
      exact Wt_pick [] rfl (hj60 h4)
    refine r_ifne F (tgt := 53) dX8_acts_27 (by decide) ?_ ?_
    · skip
      exact Wt_pick [1, 2, 3, 4] rfl (hj53)
    refine r_iload_n F 4 rfl dX8_acts_30 rfl ?_
    refine r_iconst F (v := 2) dX8_acts_31 (by decide) ?_
    refine r_icmpne F (tgt := 53) dX8_acts_32 (by decide) ?_ ?_
    · skip
      exact Wt_pick [1, 2, 3, 4] rfl (hj53)
    refine r_aload_n F 1 rfl dX8_acts_35 rfl ?_
    refine r_iload_n F 2 rfl dX8_acts_36 rfl ?_
    refine k_iP (run_V F cvX8_442 (by decide) (c_X8_allLies (xG X) _ N h p1) rfl rfl ⟨⟨rfl, rfl⟩, Nat.le_of_ble_eq_true rfl, Nat.le_of_ble_eq_true rfl⟩ (Nat.le_of_ble_eq_true rfl) dX8_acts_37) fun v5 _ => ?_
    refine r_ifle F (tgt := 53) dX8_acts_40 (by decide) ?_ ?_
    · skip
      exact Wt_pick [1, 2, 3, 4] rfl (hj53)
    exact Wt_pick [1, 2, 3, 4] rfl (hj43)
  exact r_vret F hA rfl rfl trivial dX8_acts_18
theorem c_X8_acts (G : Gx) (l : Launch) (N : Nat) (h : Hp) (p1 : Int32) (p2 : Int32) (p3 : Int32) : Ctr G l yX8_acts (.code yX8_acts cX8_acts 5 none :: GT) rmX8_acts [.ref (adr G 8 0 0), .int p1, .int p2, .int p3] h (f_X8_acts N h p1 p2 p3) (fun _ => none) (fun v => v) (fun _ => True) :=
  ctr_of (by decide) (Nat.le_of_ble_eq_true rfl) ⟨rfl, rfl⟩ fun X _ e2 hA hL F => by subst e2; exact w_X8_acts X F hA hL N h p1 p2 p3
def f_X8_goOn_90 (N : Nat) (p1 : Int32) (j139 : Hp → Option Hp) (r90 : Int32 → Hp → Option Hp) (v6 : Int32) (h7 : Hp) : Option Hp :=
  if (gI h7 8 0 12) ≤ v6 then
    j139 h7
  else
  bd2 (f_X8_ebbOf N h7 p1 v6) fun v9 h8 =>
  grd (inb ((8 * p1) + v6) 16) <|
  grd (inb ((8 * p1) + v6) 16) <| lt_ (sA h8 8 0 23 ((8 * p1) + v6).toNatClampNeg ((gA h8 8 0 23 ((8 * p1) + v6).toNatClampNeg) - v9)) fun h10 =>
  grd (inb p1 2) <|
  grd (inb p1 2) <| lt_ (sA h10 8 0 32 p1.toNatClampNeg ((gA h10 8 0 32 p1.toNatClampNeg) + v9)) fun h11 =>
  lt_ (v6 + 1) fun v12 =>
  r90 v12 h11
def f_X8_goOn_2 (N : Nat) (p1 : Int32) (p2 : Int32) (r2 : Int32 → Hp → Option Hp) (v1 : Int32) (h2 : Hp) : Option Hp :=
  if (gI h2 8 0 13) ≤ v1 then
    jn (fun (h3 : Hp) =>
      grd (inb p1 2) <|
      grd (inb p1 2) <| lt_ (sA h3 8 0 33 p1.toNatClampNeg ((gA h3 8 0 33 p1.toNatClampNeg) + 1)) fun h4 =>
      some h4) fun (j139 : Hp → Option Hp) =>
    if ¬ (b2i (gZ h2 8 0 63)) = 0 then
      j139 h2
    else
    grd (inb p1 2) <|
    (f_X8_find N h2 8 0 12 0 (gI h2 8 0 15) ((gA h2 8 0 33 p1.toNatClampNeg) - (gA h2 8 0 33 p1.toNatClampNeg) / 24 * 24)).bind fun v5 =>
    if v5 < 0 then
      j139 h2
    else
    iter (fun _ _ => none) (f_X8_goOn_90 N p1 j139) N 0 h2
  else
  jn (fun (h13 : Hp) =>
    lt_ (v1 + 1) fun v14 =>
    r2 v14 h13) fun (j51 : Hp → Option Hp) =>
  jn (
    if v1 = (gI h2 8 0 66) then
      j51 h2
    else
    (f_X8_acts N h2 p1 v1 p2).bind fun h15 =>
    j51 h15) fun (j36 : Option Hp) =>
  if ¬ (b2i (gZ h2 8 0 65)) = 0 then
    j36
  else
  grd (inb ((4 * p1) + v1) 8) <|
  grd (inb p1 2) <|
  if (gA h2 8 0 33 p1.toNatClampNeg) < (gA h2 8 0 26 ((4 * p1) + v1).toNatClampNeg) then
    j51 h2
  else
  j36
def f_X8_goOn (N : Nat) (h : Hp) (p1 : Int32) (p2 : Int32) : Option Hp :=
  iter (fun _ _ => none) (f_X8_goOn_2 N p1 p2) N 0 h
abbrev rmX8_goOn : Room := { frames := 8, cells := 0, slots := 0, locals := 195 }
set_option maxRecDepth 100000 in
set_option maxHeartbeats 4000000 in
theorem w_X8_goOn (X : Cx) (F : Fx X cX8_goOn RX8 none rmX8_goOn) (hA : xA X = Aw (xG X)) (hL : xL X = 5) (N : Nat) (h : Hp) (p1 : Int32) (p2 : Int32) : Wm X (fun _ => none) (fun v => v) (fun _ => True) 0 [(0, .ref (adr (xG X) 8 0 0)), (1, .int p1), (2, .int p2)] [] h (f_X8_goOn N h p1 p2) := by
  have hS : ∀ i : Nat, i < 5 → i < xL X := fun i z => by rw [hL]; exact z
  unfold f_X8_goOn
  refine r_iconst F (v := 0) dX8_goOn_0 (by decide) ?_
  refine r_istore_n F [(3, .int 0), (0, .ref (adr (xG X) 8 0 0)), (1, .int p1), (2, .int p2)] rfl dX8_goOn_1 rfl (hS _ (by decide)) ?_
  have hl2 : ∀ n : Nat, ∀ v1 : Int32, ∀ h2 : Hp, Wm X (fun _ => none) (fun v => v) (fun _ => True) 2 [(0, .ref (adr (xG X) 8 0 0)), (1, .int p1), (2, .int p2), (3, .int v1)] [] h2 (iter (fun _ _ => none) (f_X8_goOn_2 N p1 p2) n v1 h2) := by
    intro n
    induction n with
    | zero => intro v1 h2; exact Wt_none
    | succ n ih =>
      revert ih
      show (∀ v1 : Int32, ∀ h2 : Hp, Wm X (fun _ => none) (fun v => v) (fun _ => True) 2 [(0, .ref (adr (xG X) 8 0 0)), (1, .int p1), (2, .int p2), (3, .int v1)] [] h2 (iter (fun _ _ => none) (f_X8_goOn_2 N p1 p2) n v1 h2)) → _
      intro ih2 v1 h2
      show Wm X (fun _ => none) (fun v => v) (fun _ => True) 2 [(0, .ref (adr (xG X) 8 0 0)), (1, .int p1), (2, .int p2), (3, .int v1)] [] h2 (f_X8_goOn_2 N p1 p2 (iter (fun _ _ => none) (f_X8_goOn_2 N p1 p2) n) v1 h2)
      revert ih2
      generalize iter (fun _ _ => none) (f_X8_goOn_2 N p1 p2) n = r2
      intro ih2
      unfold f_X8_goOn_2
      refine r_iload_n F 3 rfl dX8_goOn_2 rfl ?_
      refine r_aload_n F 0 rfl dX8_goOn_3 rfl ?_
      refine r_getI F frX8_246 (by decide) dX8_goOn_4 ?_
      refine r_icmpge F (tgt := 57) dX8_goOn_7 (by decide) ?_ ?_
      · skip
        refine r_aload_n F 0 rfl dX8_goOn_57 rfl ?_
        refine r_getZ F frX8_382 (by decide) dX8_goOn_58 ?_
        refine Wt_jn (fun (j139 : Hp → Option Hp) => ∀ h3 : Hp, Wm X (fun _ => none) (fun v => v) (fun _ => True) 139 [(0, .ref (adr (xG X) 8 0 0)), (1, .int p1)] [] h3 (j139 h3)) ?_ fun j139 hj139 => ?_
        · intro h3
          refine r_aload_n F 0 rfl dX8_goOn_139 rfl ?_
          refine r_getA F frX8_115 (by decide) dX8_goOn_140 ?_
          refine r_iload_n F 1 rfl dX8_goOn_143 rfl ?_
          refine r_dup2 F rfl rfl dX8_goOn_144 ?_
          refine r_iaload F (ar_8_33 0 (by decide)) dX8_goOn_145 ?_
          refine r_iconst F (v := 1) dX8_goOn_146 (by decide) ?_
          refine r_iadd F dX8_goOn_147 ?_
          refine r_iastore F (ar_8_33 0 (by decide)) dX8_goOn_148 fun h4 => ?_
          exact r_vret F hA rfl rfl trivial dX8_goOn_149
        refine r_ifne F (tgt := 139) dX8_goOn_61 (by decide) ?_ ?_
        · skip
          exact Wt_pick [0, 1] rfl (hj139 h2)
        refine r_aload_n F 0 rfl dX8_goOn_64 rfl ?_
        refine r_getA F frX8_51 (by decide) dX8_goOn_65 ?_
        refine r_iconst F (v := 0) dX8_goOn_68 (by decide) ?_
        refine r_aload_n F 0 rfl dX8_goOn_69 rfl ?_
        refine r_getI F frX8_252 (by decide) dX8_goOn_70 ?_
        refine r_aload_n F 0 rfl dX8_goOn_73 rfl ?_
        refine r_getA F frX8_115 (by decide) dX8_goOn_74 ?_
        refine r_iload_n F 1 rfl dX8_goOn_77 rfl ?_
        refine r_iaload F (ar_8_33 0 (by decide)) dX8_goOn_78 ?_
        refine r_bipush F (v := 24) dX8_goOn_79 (by decide) ?_
        refine r_iremc F (by decide) dX8_goOn_81 ?_
        refine k_iP (run_S F csX8_265 (c_X8_find (xG X) _ N h2 8 0 12 (ar_8_12 0 (by decide)) 0 (gI h2 8 0 15) ((gA h2 8 0 33 p1.toNatClampNeg) - (gA h2 8 0 33 p1.toNatClampNeg) / 24 * 24)) rfl rfl ⟨⟨rfl, rfl⟩, Nat.le_of_ble_eq_true rfl, Nat.le_of_ble_eq_true rfl⟩ (Nat.le_of_ble_eq_true rfl) dX8_goOn_82) fun v5 _ => ?_
        refine r_iflt F (tgt := 139) dX8_goOn_85 (by decide) ?_ ?_
        · skip
          exact Wt_pick [0, 1] rfl (hj139 h2)
        refine r_iconst F (v := 0) dX8_goOn_88 (by decide) ?_
        refine r_istore_n F [(3, .int 0), (0, .ref (adr (xG X) 8 0 0)), (1, .int p1), (2, .int p2)] rfl dX8_goOn_89 rfl (hS _ (by decide)) ?_
        have hl90 : ∀ n : Nat, ∀ v6 : Int32, ∀ h7 : Hp, Wm X (fun _ => none) (fun v => v) (fun _ => True) 90 [(0, .ref (adr (xG X) 8 0 0)), (1, .int p1), (3, .int v6)] [] h7 (iter (fun _ _ => none) (f_X8_goOn_90 N p1 j139) n v6 h7) := by
          intro n
          induction n with
          | zero => intro v6 h7; exact Wt_none
          | succ n ih =>
            revert ih
            show (∀ v6 : Int32, ∀ h7 : Hp, Wm X (fun _ => none) (fun v => v) (fun _ => True) 90 [(0, .ref (adr (xG X) 8 0 0)), (1, .int p1), (3, .int v6)] [] h7 (iter (fun _ _ => none) (f_X8_goOn_90 N p1 j139) n v6 h7)) → _
            intro ih90 v6 h7
            show Wm X (fun _ => none) (fun v => v) (fun _ => True) 90 [(0, .ref (adr (xG X) 8 0 0)), (1, .int p1), (3, .int v6)] [] h7 (f_X8_goOn_90 N p1 j139 (iter (fun _ _ => none) (f_X8_goOn_90 N p1 j139) n) v6 h7)
            revert ih90
            generalize iter (fun _ _ => none) (f_X8_goOn_90 N p1 j139) n = r90
            intro ih90
            unfold f_X8_goOn_90
            refine r_iload_n F 2 rfl dX8_goOn_90 rfl ?_
            refine r_aload_n F 0 rfl dX8_goOn_91 rfl ?_
            refine r_getI F frX8_243 (by decide) dX8_goOn_92 ?_
            refine r_icmpge F (tgt := 139) dX8_goOn_95 (by decide) ?_ ?_
            · skip
              exact Wt_pick [0, 1] rfl (hj139 h7)
            refine r_aload_n F 0 rfl dX8_goOn_98 rfl ?_
            refine r_iload_n F 1 rfl dX8_goOn_99 rfl ?_
            refine r_iload_n F 2 rfl dX8_goOn_100 rfl ?_
            refine k_iH (run_V F cvX8_453 (by decide) (c_X8_ebbOf (xG X) _ N h7 p1 v6) rfl rfl ⟨⟨rfl, rfl⟩, Nat.le_of_ble_eq_true rfl, Nat.le_of_ble_eq_true rfl⟩ (Nat.le_of_ble_eq_true rfl) dX8_goOn_101) fun v9 h8 => ?_
            refine r_istore F [(4, .int v9), (0, .ref (adr (xG X) 8 0 0)), (1, .int p1), (3, .int v6)] rfl dX8_goOn_104 (hS _ (by decide)) ?_
            refine r_aload_n F 1 rfl dX8_goOn_106 rfl ?_
            refine r_getA F frX8_85 (by decide) dX8_goOn_107 ?_
            refine r_bipush F (v := 8) dX8_goOn_110 (by decide) ?_
            refine r_iload_n F 2 rfl dX8_goOn_112 rfl ?_
            refine r_imul F dX8_goOn_113 ?_
            refine r_iload_n F 3 rfl dX8_goOn_114 rfl ?_
            refine r_iadd F dX8_goOn_115 ?_
            refine r_dup2 F rfl rfl dX8_goOn_116 ?_
            refine r_iaload F (ar_8_23 0 (by decide)) dX8_goOn_117 ?_
            refine r_iload F 0 rfl dX8_goOn_118 ?_
            refine r_isub F dX8_goOn_120 ?_
            refine r_iastore F (ar_8_23 0 (by decide)) dX8_goOn_121 fun h10 => ?_
            refine r_aload_n F 1 rfl dX8_goOn_122 rfl ?_
            refine r_getA F frX8_112 (by decide) dX8_goOn_123 ?_
            refine r_iload_n F 2 rfl dX8_goOn_126 rfl ?_
            refine r_dup2 F rfl rfl dX8_goOn_127 ?_
            refine r_iaload F (ar_8_32 0 (by decide)) dX8_goOn_128 ?_
            refine r_iload F 0 rfl dX8_goOn_129 ?_
            refine r_iadd F dX8_goOn_131 ?_
            refine r_iastore F (ar_8_32 0 (by decide)) dX8_goOn_132 fun h11 => ?_
            refine r_iinc F (v := 1) 3 rfl (by decide) (fun v12 => [(3, .int v12), (4, .int v9), (0, .ref (adr (xG X) 8 0 0)), (1, .int p1)]) (fun _ => rfl) dX8_goOn_133 (hS _ (by decide)) fun v12 => ?_
            refine r_goto F (tgt := 90) dX8_goOn_136 (by decide) ?_
            exact Wt_pick [2, 3, 0] rfl (ih90 v12 h11)
        exact Wt_pick [1, 2, 0] rfl (hl90 N 0 h2)
      refine r_aload_n F 0 rfl dX8_goOn_10 rfl ?_
      refine r_getZ F frX8_388 (by decide) dX8_goOn_11 ?_
      refine Wt_jn (fun (j51 : Hp → Option Hp) => ∀ h13 : Hp, Wm X (fun _ => none) (fun v => v) (fun _ => True) 51 [(0, .ref (adr (xG X) 8 0 0)), (1, .int p1), (2, .int p2), (3, .int v1)] [] h13 (j51 h13)) ?_ fun j51 hj51 => ?_
      · intro h13
        refine r_iinc F (v := 1) 3 rfl (by decide) (fun v14 => [(3, .int v14), (0, .ref (adr (xG X) 8 0 0)), (1, .int p1), (2, .int p2)]) (fun _ => rfl) dX8_goOn_51 (hS _ (by decide)) fun v14 => ?_
        refine r_goto F (tgt := 2) dX8_goOn_54 (by decide) ?_
        exact Wt_pick [1, 2, 3, 0] rfl (ih2 v14 h13)
      refine Wt_jn (fun (j36 : Option Hp) => Wm X (fun _ => none) (fun v => v) (fun _ => True) 36 [(0, .ref (adr (xG X) 8 0 0)), (1, .int p1), (2, .int p2), (3, .int v1)] [] h2 (j36)) ?_ fun j36 hj36 => ?_
      · skip
        refine r_iload_n F 3 rfl dX8_goOn_36 rfl ?_
        refine r_aload_n F 0 rfl dX8_goOn_37 rfl ?_
        refine r_getI F frX8_118 (by decide) dX8_goOn_38 ?_
        refine r_icmpeq F (tgt := 51) dX8_goOn_41 (by decide) ?_ ?_
        · skip
          exact Wt_pick [0, 1, 2, 3] rfl (hj51 h2)
        refine r_aload_n F 0 rfl dX8_goOn_44 rfl ?_
        refine r_iload_n F 1 rfl dX8_goOn_45 rfl ?_
        refine r_iload_n F 3 rfl dX8_goOn_46 rfl ?_
        refine r_iload_n F 2 rfl dX8_goOn_47 rfl ?_
        refine k_vH (run_V F cvX8_450 (by decide) (c_X8_acts (xG X) _ N h2 p1 v1 p2) rfl rfl ⟨⟨rfl, rfl⟩, Nat.le_of_ble_eq_true rfl, Nat.le_of_ble_eq_true rfl⟩ (Nat.le_of_ble_eq_true rfl) dX8_goOn_48) fun h15 => ?_
        exact Wt_pick [0, 1, 2, 3] rfl (hj51 h15)
      refine r_ifne F (tgt := 36) dX8_goOn_14 (by decide) ?_ ?_
      · skip
        exact Wt_pick [0, 1, 2, 3] rfl (hj36)
      refine r_aload_n F 0 rfl dX8_goOn_17 rfl ?_
      refine r_getA F frX8_94 (by decide) dX8_goOn_18 ?_
      refine r_iconst F (v := 4) dX8_goOn_21 (by decide) ?_
      refine r_iload_n F 1 rfl dX8_goOn_22 rfl ?_
      refine r_imul F dX8_goOn_23 ?_
      refine r_iload_n F 3 rfl dX8_goOn_24 rfl ?_
      refine r_iadd F dX8_goOn_25 ?_
      refine r_iaload F (ar_8_26 0 (by decide)) dX8_goOn_26 ?_
      refine r_aload_n F 0 rfl dX8_goOn_27 rfl ?_
      refine r_getA F frX8_115 (by decide) dX8_goOn_28 ?_
      refine r_iload_n F 1 rfl dX8_goOn_31 rfl ?_
      refine r_iaload F (ar_8_33 0 (by decide)) dX8_goOn_32 ?_
      refine r_icmpgt F (tgt := 51) dX8_goOn_33 (by decide) ?_ ?_
      · skip
        exact Wt_pick [0, 1, 2, 3] rfl (hj51 h2)
      exact Wt_pick [0, 1, 2, 3] rfl (hj36)
  exact Wt_pick [1, 2, 3, 0] rfl (hl2 N 0 h)
theorem c_X8_goOn (G : Gx) (l : Launch) (N : Nat) (h : Hp) (p1 : Int32) (p2 : Int32) : Ctr G l yX8_goOn (.code yX8_goOn cX8_goOn 5 none :: GT) rmX8_goOn [.ref (adr G 8 0 0), .int p1, .int p2] h (f_X8_goOn N h p1 p2) (fun _ => none) (fun v => v) (fun _ => True) :=
  ctr_of (by decide) (Nat.le_of_ble_eq_true rfl) ⟨rfl, rfl⟩ fun X _ e2 hA hL F => by subst e2; exact w_X8_goOn X F hA hL N h p1 p2
def f_X8_fails (h : Hp) (p1 : Int32) : Option (Int32 × Hp) :=
  lt_ (sI h 8 0 2 p1) fun h1 =>
  some (0, h1)
abbrev rmX8_fails : Room := { frames := 0, cells := 0, slots := 0, locals := 0 }
set_option maxRecDepth 100000 in
set_option maxHeartbeats 4000000 in
theorem w_X8_fails (X : Cx) (F : Fx X cX8_fails RX8 (some .int) rmX8_fails) (hA : xA X = Aw (xG X)) (hL : xL X = 2) (h : Hp) (p1 : Int32) : Wm X (fun v => some (.int v.1)) (fun v => v.2) (fun _ => True) 0 [(0, .ref (adr (xG X) 8 0 0)), (1, .int p1)] [] h (f_X8_fails h p1) := by
  have hS : ∀ i : Nat, i < 2 → i < xL X := fun i z => by rw [hL]; exact z
  unfold f_X8_fails
  refine r_aload_n F 0 rfl dX8_fails_0 rfl ?_
  refine r_iload_n F 1 rfl dX8_fails_1 rfl ?_
  refine r_putI F frX8_163 (by decide) rfl rfl dX8_fails_2 fun h1 => ?_
  refine r_iconst F (v := 0) dX8_fails_5 (by decide) ?_
  exact r_iret F hA rfl rfl trivial dX8_fails_6
theorem c_X8_fails (G : Gx) (l : Launch) (h : Hp) (p1 : Int32) : Ctr G l yX8_fails (.code yX8_fails cX8_fails 2 (some .int) :: GT) rmX8_fails [.ref (adr G 8 0 0), .int p1] h (f_X8_fails h p1) (fun v => some (.int v.1)) (fun v => v.2) (fun _ => True) :=
  ctr_of (by decide) (Nat.le_of_ble_eq_true rfl) ⟨rfl, rfl⟩ fun X _ e2 hA hL F => by subst e2; exact w_X8_fails X F hA hL h p1
def f_X8_stripe (h : Hp) (p1 : Int32) (p2 : Int32) : Option (Int32 × Hp) :=
  lt_ (sI h 8 0 2 0) fun h1 =>
  (f_X8_isStripe h1 p1).bind fun v2 =>
  if ¬ (b2i v2) = 0 then
    jn (fun (v3 : Int32) (h4 : Hp) =>
      some (v3, h4)) fun (j51 : Int32 → Hp → Option (Int32 × Hp)) =>
    if ¬ p2 = 0 then
      if ¬ p2 = 1 then
        bd2 (f_X8_fails h1 2) fun v6 h5 =>
        j51 v6 h5
      else
      grd (inb p1 16) <|
      j51 (gA h1 8 0 24 p1.toNatClampNeg) h1
    else
    grd (inb p1 16) <|
    j51 (gA h1 8 0 23 p1.toNatClampNeg) h1
  else
  bd2 (f_X8_fails h1 1) fun v8 h7 =>
  some (v8, h7)
abbrev rmX8_stripe : Room := { frames := 1, cells := 0, slots := 0, locals := 21 }
set_option maxRecDepth 100000 in
set_option maxHeartbeats 4000000 in
theorem w_X8_stripe (X : Cx) (F : Fx X cX8_stripe RX8 (some .int) rmX8_stripe) (hA : xA X = Aw (xG X)) (hL : xL X = 3) (h : Hp) (p1 : Int32) (p2 : Int32) : Wm X (fun v => some (.int v.1)) (fun v => v.2) (fun _ => True) 0 [(0, .ref (adr (xG X) 8 0 0)), (1, .int p1), (2, .int p2)] [] h (f_X8_stripe h p1 p2) := by
  have hS : ∀ i : Nat, i < 3 → i < xL X := fun i z => by rw [hL]; exact z
  unfold f_X8_stripe
  refine r_aload_n F 0 rfl dX8_stripe_0 rfl ?_
  refine r_iconst F (v := 0) dX8_stripe_1 (by decide) ?_
  refine r_putI F frX8_163 (by decide) rfl rfl dX8_stripe_2 fun h1 => ?_
  refine r_aload_n F 0 rfl dX8_stripe_5 rfl ?_
  refine r_iload_n F 1 rfl dX8_stripe_6 rfl ?_
  refine k_zP (run_V F cvX8_456 (by decide) (c_X8_isStripe (xG X) _ h1 p1) rfl rfl ⟨⟨rfl, rfl⟩, Nat.le_of_ble_eq_true rfl, Nat.le_of_ble_eq_true rfl⟩ (Nat.le_of_ble_eq_true rfl) dX8_stripe_7) fun v2 _ => ?_
  refine r_ifne F (tgt := 19) dX8_stripe_10 (by decide) ?_ ?_
  · skip
    refine r_iload_n F 2 rfl dX8_stripe_19 rfl ?_
    refine Wt_jn (fun (j51 : Int32 → Hp → Option (Int32 × Hp)) => ∀ v3 : Int32, ∀ h4 : Hp, Wm X (fun v => some (.int v.1)) (fun v => v.2) (fun _ => True) 51 [] [.int v3] h4 (j51 v3 h4)) ?_ fun j51 hj51 => ?_
    · intro v3 h4
      exact r_iret F hA rfl rfl trivial dX8_stripe_51
    refine r_ifne F (tgt := 32) dX8_stripe_20 (by decide) ?_ ?_
    · skip
      refine r_iload_n F 2 rfl dX8_stripe_32 rfl ?_
      refine r_iconst F (v := 1) dX8_stripe_33 (by decide) ?_
      refine r_icmpne F (tgt := 46) dX8_stripe_34 (by decide) ?_ ?_
      · skip
        refine r_aload_n F 0 rfl dX8_stripe_46 rfl ?_
        refine r_iconst F (v := 2) dX8_stripe_47 (by decide) ?_
        refine k_iH (run_V F cvX8_459 (by decide) (c_X8_fails (xG X) _ h1 2) rfl rfl ⟨⟨rfl, rfl⟩, Nat.le_of_ble_eq_true rfl, Nat.le_of_ble_eq_true rfl⟩ (Nat.le_of_ble_eq_true rfl) dX8_stripe_48) fun v6 h5 => ?_
        exact Wt_pick [] rfl (hj51 v6 h5)
      refine r_aload_n F 0 rfl dX8_stripe_37 rfl ?_
      refine r_getA F frX8_88 (by decide) dX8_stripe_38 ?_
      refine r_iload_n F 1 rfl dX8_stripe_41 rfl ?_
      refine r_iaload F (ar_8_24 0 (by decide)) dX8_stripe_42 ?_
      refine r_goto F (tgt := 51) dX8_stripe_43 (by decide) ?_
      exact Wt_pick [] rfl (hj51 (gA h1 8 0 24 p1.toNatClampNeg) h1)
    refine r_aload_n F 0 rfl dX8_stripe_23 rfl ?_
    refine r_getA F frX8_85 (by decide) dX8_stripe_24 ?_
    refine r_iload_n F 1 rfl dX8_stripe_27 rfl ?_
    refine r_iaload F (ar_8_23 0 (by decide)) dX8_stripe_28 ?_
    refine r_goto F (tgt := 51) dX8_stripe_29 (by decide) ?_
    exact Wt_pick [] rfl (hj51 (gA h1 8 0 23 p1.toNatClampNeg) h1)
  refine r_aload_n F 0 rfl dX8_stripe_13 rfl ?_
  refine r_iconst F (v := 1) dX8_stripe_14 (by decide) ?_
  refine k_iH (run_V F cvX8_459 (by decide) (c_X8_fails (xG X) _ h1 1) rfl rfl ⟨⟨rfl, rfl⟩, Nat.le_of_ble_eq_true rfl, Nat.le_of_ble_eq_true rfl⟩ (Nat.le_of_ble_eq_true rfl) dX8_stripe_15) fun v8 h7 => ?_
  exact r_iret F hA rfl rfl trivial dX8_stripe_18
theorem c_X8_stripe (G : Gx) (l : Launch) (h : Hp) (p1 : Int32) (p2 : Int32) : Ctr G l yX8_stripe (.code yX8_stripe cX8_stripe 3 (some .int) :: GT) rmX8_stripe [.ref (adr G 8 0 0), .int p1, .int p2] h (f_X8_stripe h p1 p2) (fun v => some (.int v.1)) (fun v => v.2) (fun _ => True) :=
  ctr_of (by decide) (Nat.le_of_ble_eq_true rfl) ⟨rfl, rfl⟩ fun X _ e2 hA hL F => by subst e2; exact w_X8_stripe X F hA hL h p1 p2
