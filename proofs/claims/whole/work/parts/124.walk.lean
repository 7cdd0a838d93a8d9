theorem dX8_lotsOf_0 : decode cX8_lotsOf 0 = .ok (.iconst 0, 1) := by decide +kernel
theorem dX8_lotsOf_1 : decode cX8_lotsOf 1 = .ok (.istore_n 2, 1) := by decide +kernel
theorem dX8_lotsOf_2 : decode cX8_lotsOf 2 = .ok (.iconst 0, 1) := by decide +kernel
theorem dX8_lotsOf_3 : decode cX8_lotsOf 3 = .ok (.istore_n 3, 1) := by decide +kernel
theorem dX8_lotsOf_4 : decode cX8_lotsOf 4 = .ok (.iload_n 3, 1) := by decide +kernel
theorem dX8_lotsOf_5 : decode cX8_lotsOf 5 = .ok (.aload_n 0, 1) := by decide +kernel
theorem dX8_lotsOf_6 : decode cX8_lotsOf 6 = .ok (.getfield 243, 3) := by decide +kernel
theorem dX8_lotsOf_9 : decode cX8_lotsOf 9 = .ok (.if_icmp .ge 32, 3) := by decide +kernel
theorem dX8_lotsOf_12 : decode cX8_lotsOf 12 = .ok (.iload_n 2, 1) := by decide +kernel
theorem dX8_lotsOf_13 : decode cX8_lotsOf 13 = .ok (.aload_n 0, 1) := by decide +kernel
theorem dX8_lotsOf_14 : decode cX8_lotsOf 14 = .ok (.getfield 88, 3) := by decide +kernel
theorem dX8_lotsOf_17 : decode cX8_lotsOf 17 = .ok (.iload_n 3, 1) := by decide +kernel
theorem dX8_lotsOf_18 : decode cX8_lotsOf 18 = .ok (.iaload, 1) := by decide +kernel
theorem dX8_lotsOf_19 : decode cX8_lotsOf 19 = .ok (.iload_n 1, 1) := by decide +kernel
theorem dX8_lotsOf_20 : decode cX8_lotsOf 20 = .ok (.if_icmp .ne 12, 3) := by decide +kernel
theorem dX8_lotsOf_23 : decode cX8_lotsOf 23 = .ok (.aload_n 0, 1) := by decide +kernel
theorem dX8_lotsOf_24 : decode cX8_lotsOf 24 = .ok (.getfield 85, 3) := by decide +kernel
theorem dX8_lotsOf_27 : decode cX8_lotsOf 27 = .ok (.iload_n 3, 1) := by decide +kernel
theorem dX8_lotsOf_28 : decode cX8_lotsOf 28 = .ok (.iaload, 1) := by decide +kernel
theorem dX8_lotsOf_29 : decode cX8_lotsOf 29 = .ok (.goto 4, 3) := by decide +kernel
theorem dX8_lotsOf_32 : decode cX8_lotsOf 32 = .ok (.iconst 0, 1) := by decide +kernel
theorem dX8_lotsOf_33 : decode cX8_lotsOf 33 = .ok (.iadd, 1) := by decide +kernel
theorem dX8_lotsOf_34 : decode cX8_lotsOf 34 = .ok (.istore_n 2, 1) := by decide +kernel
theorem dX8_lotsOf_35 : decode cX8_lotsOf 35 = .ok (.iinc 3 1, 3) := by decide +kernel
theorem dX8_lotsOf_38 : decode cX8_lotsOf 38 = .ok (.goto (-34), 3) := by decide +kernel
theorem dX8_lotsOf_41 : decode cX8_lotsOf 41 = .ok (.iload_n 2, 1) := by decide +kernel
theorem dX8_lotsOf_42 : decode cX8_lotsOf 42 = .ok (.ireturn, 1) := by decide +kernel
theorem dX8_croft_0 : decode cX8_croft 0 = .ok (.aload_n 0, 1) := by decide +kernel
theorem dX8_croft_1 : decode cX8_croft 1 = .ok (.iconst 0, 1) := by decide +kernel
theorem dX8_croft_2 : decode cX8_croft 2 = .ok (.putfield 163, 3) := by decide +kernel
theorem dX8_croft_5 : decode cX8_croft 5 = .ok (.aload_n 0, 1) := by decide +kernel
theorem dX8_croft_6 : decode cX8_croft 6 = .ok (.iload_n 1, 1) := by decide +kernel
theorem dX8_croft_7 : decode cX8_croft 7 = .ok (.invokevirtual 462, 3) := by decide +kernel
theorem dX8_croft_10 : decode cX8_croft 10 = .ok (.ifCond .ne 5, 3) := by decide +kernel
theorem dX8_croft_13 : decode cX8_croft 13 = .ok (.iconst (-1), 1) := by decide +kernel
theorem dX8_croft_14 : decode cX8_croft 14 = .ok (.ireturn, 1) := by decide +kernel
theorem dX8_croft_15 : decode cX8_croft 15 = .ok (.iload_n 2, 1) := by decide +kernel
theorem dX8_croft_16 : decode cX8_croft 16 = .ok (.tableswitch 92 0 6 #[44, 51, 58, 65, 72, 79, 86], 44) := by decide +kernel
theorem dX8_croft_60 : decode cX8_croft 60 = .ok (.aload_n 0, 1) := by decide +kernel
theorem dX8_croft_61 : decode cX8_croft 61 = .ok (.getfield 91, 3) := by decide +kernel
theorem dX8_croft_64 : decode cX8_croft 64 = .ok (.iload_n 1, 1) := by decide +kernel
theorem dX8_croft_65 : decode cX8_croft 65 = .ok (.iaload, 1) := by decide +kernel
theorem dX8_croft_66 : decode cX8_croft 66 = .ok (.ireturn, 1) := by decide +kernel
theorem dX8_croft_67 : decode cX8_croft 67 = .ok (.aload_n 0, 1) := by decide +kernel
theorem dX8_croft_68 : decode cX8_croft 68 = .ok (.getfield 36, 3) := by decide +kernel
theorem dX8_croft_71 : decode cX8_croft 71 = .ok (.iload_n 1, 1) := by decide +kernel
theorem dX8_croft_72 : decode cX8_croft 72 = .ok (.iaload, 1) := by decide +kernel
theorem dX8_croft_73 : decode cX8_croft 73 = .ok (.ireturn, 1) := by decide +kernel
theorem dX8_croft_74 : decode cX8_croft 74 = .ok (.aload_n 0, 1) := by decide +kernel
theorem dX8_croft_75 : decode cX8_croft 75 = .ok (.getfield 94, 3) := by decide +kernel
theorem dX8_croft_78 : decode cX8_croft 78 = .ok (.iload_n 1, 1) := by decide +kernel
theorem dX8_croft_79 : decode cX8_croft 79 = .ok (.iaload, 1) := by decide +kernel
theorem dX8_croft_80 : decode cX8_croft 80 = .ok (.ireturn, 1) := by decide +kernel
theorem dX8_croft_81 : decode cX8_croft 81 = .ok (.aload_n 0, 1) := by decide +kernel
theorem dX8_croft_82 : decode cX8_croft 82 = .ok (.getfield 97, 3) := by decide +kernel
theorem dX8_croft_85 : decode cX8_croft 85 = .ok (.iload_n 1, 1) := by decide +kernel
theorem dX8_croft_86 : decode cX8_croft 86 = .ok (.iaload, 1) := by decide +kernel
theorem dX8_croft_87 : decode cX8_croft 87 = .ok (.ireturn, 1) := by decide +kernel
theorem dX8_croft_88 : decode cX8_croft 88 = .ok (.aload_n 0, 1) := by decide +kernel
theorem dX8_croft_89 : decode cX8_croft 89 = .ok (.getfield 100, 3) := by decide +kernel
theorem dX8_croft_92 : decode cX8_croft 92 = .ok (.iload_n 1, 1) := by decide +kernel
theorem dX8_croft_93 : decode cX8_croft 93 = .ok (.iaload, 1) := by decide +kernel
theorem dX8_croft_94 : decode cX8_croft 94 = .ok (.ireturn, 1) := by decide +kernel
theorem dX8_croft_95 : decode cX8_croft 95 = .ok (.aload_n 0, 1) := by decide +kernel
theorem dX8_croft_96 : decode cX8_croft 96 = .ok (.getfield 103, 3) := by decide +kernel
theorem dX8_croft_99 : decode cX8_croft 99 = .ok (.iload_n 1, 1) := by decide +kernel
theorem dX8_croft_100 : decode cX8_croft 100 = .ok (.iaload, 1) := by decide +kernel
theorem dX8_croft_101 : decode cX8_croft 101 = .ok (.ireturn, 1) := by decide +kernel
theorem dX8_croft_102 : decode cX8_croft 102 = .ok (.aload_n 0, 1) := by decide +kernel
theorem dX8_croft_103 : decode cX8_croft 103 = .ok (.iload_n 1, 1) := by decide +kernel
theorem dX8_croft_104 : decode cX8_croft 104 = .ok (.invokevirtual 465, 3) := by decide +kernel
theorem dX8_croft_107 : decode cX8_croft 107 = .ok (.ireturn, 1) := by decide +kernel
theorem dX8_croft_108 : decode cX8_croft 108 = .ok (.iconst (-1), 1) := by decide +kernel
theorem dX8_croft_109 : decode cX8_croft 109 = .ok (.ireturn, 1) := by decide +kernel
theorem dX8_field_0 : decode cX8_field 0 = .ok (.aload_n 0, 1) := by decide +kernel
theorem dX8_field_1 : decode cX8_field 1 = .ok (.iconst 0, 1) := by decide +kernel
theorem dX8_field_2 : decode cX8_field 2 = .ok (.putfield 163, 3) := by decide +kernel
theorem dX8_field_5 : decode cX8_field 5 = .ok (.aload_n 0, 1) := by decide +kernel
theorem dX8_field_6 : decode cX8_field 6 = .ok (.iload_n 1, 1) := by decide +kernel
theorem dX8_field_7 : decode cX8_field 7 = .ok (.invokevirtual 468, 3) := by decide +kernel
theorem dX8_field_10 : decode cX8_field 10 = .ok (.ifCond .ne 5, 3) := by decide +kernel
theorem dX8_field_13 : decode cX8_field 13 = .ok (.iconst (-1), 1) := by decide +kernel
theorem dX8_field_14 : decode cX8_field 14 = .ok (.ireturn, 1) := by decide +kernel
theorem dX8_field_15 : decode cX8_field 15 = .ok (.iload_n 2, 1) := by decide +kernel
theorem dX8_field_16 : decode cX8_field 16 = .ok (.tableswitch 71 0 4 #[36, 43, 50, 57, 64], 36) := by decide +kernel
theorem dX8_field_52 : decode cX8_field 52 = .ok (.aload_n 0, 1) := by decide +kernel
theorem dX8_field_53 : decode cX8_field 53 = .ok (.getfield 42, 3) := by decide +kernel
theorem dX8_field_56 : decode cX8_field 56 = .ok (.iload_n 1, 1) := by decide +kernel
theorem dX8_field_57 : decode cX8_field 57 = .ok (.iaload, 1) := by decide +kernel
theorem dX8_field_58 : decode cX8_field 58 = .ok (.ireturn, 1) := by decide +kernel
theorem dX8_field_59 : decode cX8_field 59 = .ok (.aload_n 0, 1) := by decide +kernel
theorem dX8_field_60 : decode cX8_field 60 = .ok (.getfield 45, 3) := by decide +kernel
theorem dX8_field_63 : decode cX8_field 63 = .ok (.iload_n 1, 1) := by decide +kernel
theorem dX8_field_64 : decode cX8_field 64 = .ok (.iaload, 1) := by decide +kernel
theorem dX8_field_65 : decode cX8_field 65 = .ok (.ireturn, 1) := by decide +kernel
theorem dX8_field_66 : decode cX8_field 66 = .ok (.aload_n 0, 1) := by decide +kernel
theorem dX8_field_67 : decode cX8_field 67 = .ok (.getfield 48, 3) := by decide +kernel
theorem dX8_field_70 : decode cX8_field 70 = .ok (.iload_n 1, 1) := by decide +kernel
theorem dX8_field_71 : decode cX8_field 71 = .ok (.iaload, 1) := by decide +kernel
theorem dX8_field_72 : decode cX8_field 72 = .ok (.ireturn, 1) := by decide +kernel
theorem dX8_field_73 : decode cX8_field 73 = .ok (.aload_n 0, 1) := by decide +kernel
theorem dX8_field_74 : decode cX8_field 74 = .ok (.getfield 106, 3) := by decide +kernel
theorem dX8_field_77 : decode cX8_field 77 = .ok (.iload_n 1, 1) := by decide +kernel
theorem dX8_field_78 : decode cX8_field 78 = .ok (.iaload, 1) := by decide +kernel
theorem dX8_field_79 : decode cX8_field 79 = .ok (.ireturn, 1) := by decide +kernel
theorem dX8_field_80 : decode cX8_field 80 = .ok (.aload_n 0, 1) := by decide +kernel
theorem dX8_field_81 : decode cX8_field 81 = .ok (.iconst 0, 1) := by decide +kernel
theorem dX8_field_82 : decode cX8_field 82 = .ok (.iload_n 1, 1) := by decide +kernel
theorem dX8_field_83 : decode cX8_field 83 = .ok (.invokevirtual 412, 3) := by decide +kernel
theorem dX8_field_86 : decode cX8_field 86 = .ok (.ireturn, 1) := by decide +kernel
theorem dX8_field_87 : decode cX8_field 87 = .ok (.iconst (-1), 1) := by decide +kernel
theorem dX8_field_88 : decode cX8_field 88 = .ok (.ireturn, 1) := by decide +kernel
theorem dX8_source_0 : decode cX8_source 0 = .ok (.aload_n 0, 1) := by decide +kernel
theorem dX8_source_1 : decode cX8_source 1 = .ok (.iconst 0, 1) := by decide +kernel
theorem dX8_source_2 : decode cX8_source 2 = .ok (.putfield 163, 3) := by decide +kernel
theorem dX8_source_5 : decode cX8_source 5 = .ok (.aload_n 0, 1) := by decide +kernel
theorem dX8_source_6 : decode cX8_source 6 = .ok (.iload_n 1, 1) := by decide +kernel
theorem dX8_source_7 : decode cX8_source 7 = .ok (.invokevirtual 462, 3) := by decide +kernel
theorem dX8_source_10 : decode cX8_source 10 = .ok (.ifCond .eq 35, 3) := by decide +kernel
theorem dX8_source_13 : decode cX8_source 13 = .ok (.iload_n 2, 1) := by decide +kernel
theorem dX8_source_14 : decode cX8_source 14 = .ok (.iconst 0, 1) := by decide +kernel
theorem dX8_source_15 : decode cX8_source 15 = .ok (.iconst 1, 1) := by decide +kernel
theorem dX8_source_16 : decode cX8_source 16 = .ok (.invokestatic 208, 3) := by decide +kernel
theorem dX8_source_19 : decode cX8_source 19 = .ok (.ifCond .eq 26, 3) := by decide +kernel
theorem dX8_source_22 : decode cX8_source 22 = .ok (.aload_n 0, 1) := by decide +kernel
theorem dX8_source_23 : decode cX8_source 23 = .ok (.iconst 0, 1) := by decide +kernel
theorem dX8_source_24 : decode cX8_source 24 = .ok (.iload_n 1, 1) := by decide +kernel
theorem dX8_source_25 : decode cX8_source 25 = .ok (.aload_n 0, 1) := by decide +kernel
theorem dX8_source_26 : decode cX8_source 26 = .ok (.getfield 363, 3) := by decide +kernel
theorem dX8_source_29 : decode cX8_source 29 = .ok (.iload_n 2, 1) := by decide +kernel
theorem dX8_source_30 : decode cX8_source 30 = .ok (.iconst 1, 1) := by decide +kernel
theorem dX8_source_31 : decode cX8_source 31 = .ok (.if_icmp .ne 7, 3) := by decide +kernel
theorem dX8_source_34 : decode cX8_source 34 = .ok (.iconst 1, 1) := by decide +kernel
theorem dX8_source_35 : decode cX8_source 35 = .ok (.goto 4, 3) := by decide +kernel
theorem dX8_source_38 : decode cX8_source 38 = .ok (.iconst 0, 1) := by decide +kernel
theorem dX8_source_39 : decode cX8_source 39 = .ok (.invokevirtual 418, 3) := by decide +kernel
theorem dX8_source_42 : decode cX8_source 42 = .ok (.goto 4, 3) := by decide +kernel
theorem dX8_source_45 : decode cX8_source 45 = .ok (.iconst (-1), 1) := by decide +kernel
theorem dX8_source_46 : decode cX8_source 46 = .ok (.ireturn, 1) := by decide +kernel
theorem dX8_law_0 : decode cX8_law 0 = .ok (.aload_n 0, 1) := by decide +kernel
theorem dX8_law_1 : decode cX8_law 1 = .ok (.iconst 0, 1) := by decide +kernel
theorem dX8_law_2 : decode cX8_law 2 = .ok (.putfield 163, 3) := by decide +kernel
theorem dX8_law_5 : decode cX8_law 5 = .ok (.iload_n 1, 1) := by decide +kernel
theorem dX8_law_6 : decode cX8_law 6 = .ok (.iconst 0, 1) := by decide +kernel
theorem dX8_law_7 : decode cX8_law 7 = .ok (.iconst 3, 1) := by decide +kernel
theorem dX8_law_8 : decode cX8_law 8 = .ok (.invokestatic 208, 3) := by decide +kernel
theorem dX8_law_11 : decode cX8_law 11 = .ok (.ifCond .eq 12, 3) := by decide +kernel
theorem dX8_law_14 : decode cX8_law 14 = .ok (.aload_n 0, 1) := by decide +kernel
theorem dX8_law_15 : decode cX8_law 15 = .ok (.getfield 54, 3) := by decide +kernel
theorem dX8_law_18 : decode cX8_law 18 = .ok (.iload_n 1, 1) := by decide +kernel
theorem dX8_law_19 : decode cX8_law 19 = .ok (.baload, 1) := by decide +kernel
theorem dX8_law_20 : decode cX8_law 20 = .ok (.ifCond .ne 7, 3) := by decide +kernel
theorem dX8_law_23 : decode cX8_law 23 = .ok (.ldc2_w 471, 3) := by decide +kernel
theorem dX8_law_26 : decode cX8_law 26 = .ok (.lreturn, 1) := by decide +kernel
theorem dX8_law_27 : decode cX8_law 27 = .ok (.iload_n 1, 1) := by decide +kernel
theorem dX8_law_28 : decode cX8_law 28 = .ok (.iconst 2, 1) := by decide +kernel
theorem dX8_law_29 : decode cX8_law 29 = .ok (.if_icmp .ge 33, 3) := by decide +kernel
theorem dX8_law_32 : decode cX8_law 32 = .ok (.aload_n 0, 1) := by decide +kernel
theorem dX8_law_33 : decode cX8_law 33 = .ok (.iload_n 2, 1) := by decide +kernel
theorem dX8_law_34 : decode cX8_law 34 = .ok (.invokevirtual 462, 3) := by decide +kernel
theorem dX8_law_37 : decode cX8_law 37 = .ok (.ifCond .eq 49, 3) := by decide +kernel
theorem dX8_law_40 : decode cX8_law 40 = .ok (.aload_n 0, 1) := by decide +kernel
theorem dX8_law_41 : decode cX8_law 41 = .ok (.iload_n 3, 1) := by decide +kernel
theorem dX8_law_42 : decode cX8_law 42 = .ok (.invokevirtual 456, 3) := by decide +kernel
theorem dX8_law_45 : decode cX8_law 45 = .ok (.ifCond .ne 45, 3) := by decide +kernel
theorem dX8_law_48 : decode cX8_law 48 = .ok (.iload_n 1, 1) := by decide +kernel
theorem dX8_law_49 : decode cX8_law 49 = .ok (.iconst 1, 1) := by decide +kernel
theorem dX8_law_50 : decode cX8_law 50 = .ok (.if_icmp .eq 36, 3) := by decide +kernel
theorem dX8_law_53 : decode cX8_law 53 = .ok (.iload_n 3, 1) := by decide +kernel
theorem dX8_law_54 : decode cX8_law 54 = .ok (.bipush (-3), 2) := by decide +kernel
theorem dX8_law_56 : decode cX8_law 56 = .ok (.if_icmp .eq 34, 3) := by decide +kernel
theorem dX8_law_59 : decode cX8_law 59 = .ok (.goto 27, 3) := by decide +kernel
theorem dX8_law_62 : decode cX8_law 62 = .ok (.iload_n 1, 1) := by decide +kernel
theorem dX8_law_63 : decode cX8_law 63 = .ok (.iconst 2, 1) := by decide +kernel
theorem dX8_law_64 : decode cX8_law 64 = .ok (.if_icmp .ne 14, 3) := by decide +kernel
theorem dX8_law_67 : decode cX8_law 67 = .ok (.aload_n 0, 1) := by decide +kernel
theorem dX8_law_68 : decode cX8_law 68 = .ok (.iload_n 2, 1) := by decide +kernel
theorem dX8_law_69 : decode cX8_law 69 = .ok (.invokevirtual 456, 3) := by decide +kernel
theorem dX8_law_72 : decode cX8_law 72 = .ok (.ifCond .ne 18, 3) := by decide +kernel
theorem dX8_law_75 : decode cX8_law 75 = .ok (.goto 11, 3) := by decide +kernel
theorem dX8_law_78 : decode cX8_law 78 = .ok (.aload_n 0, 1) := by decide +kernel
theorem dX8_law_79 : decode cX8_law 79 = .ok (.iload_n 2, 1) := by decide +kernel
theorem dX8_law_80 : decode cX8_law 80 = .ok (.invokevirtual 468, 3) := by decide +kernel
theorem dX8_law_83 : decode cX8_law 83 = .ok (.ifCond .ne 7, 3) := by decide +kernel
theorem dX8_law_86 : decode cX8_law 86 = .ok (.ldc2_w 471, 3) := by decide +kernel
theorem dX8_law_89 : decode cX8_law 89 = .ok (.lreturn, 1) := by decide +kernel
theorem dX8_law_90 : decode cX8_law 90 = .ok (.iload_n 1, 1) := by decide +kernel
theorem dX8_law_91 : decode cX8_law 91 = .ok (.iconst 2, 1) := by decide +kernel
theorem dX8_law_92 : decode cX8_law 92 = .ok (.if_icmp .ge 18, 3) := by decide +kernel
theorem dX8_law_95 : decode cX8_law 95 = .ok (.aload_n 0, 1) := by decide +kernel
theorem dX8_law_96 : decode cX8_law 96 = .ok (.iconst 0, 1) := by decide +kernel
theorem dX8_law_97 : decode cX8_law 97 = .ok (.aload_n 0, 1) := by decide +kernel
theorem dX8_law_98 : decode cX8_law 98 = .ok (.iconst 0, 1) := by decide +kernel
theorem dX8_law_99 : decode cX8_law 99 = .ok (.iload_n 3, 1) := by decide +kernel
theorem dX8_law_100 : decode cX8_law 100 = .ok (.invokevirtual 401, 3) := by decide +kernel
theorem dX8_law_103 : decode cX8_law 103 = .ok (.iload_n 2, 1) := by decide +kernel
theorem dX8_law_104 : decode cX8_law 104 = .ok (.invokevirtual 391, 3) := by decide +kernel
theorem dX8_law_107 : decode cX8_law 107 = .ok (.goto 29, 3) := by decide +kernel
theorem dX8_law_110 : decode cX8_law 110 = .ok (.iload_n 1, 1) := by decide +kernel
theorem dX8_law_111 : decode cX8_law 111 = .ok (.iconst 2, 1) := by decide +kernel
theorem dX8_law_112 : decode cX8_law 112 = .ok (.if_icmp .ne 18, 3) := by decide +kernel
theorem dX8_law_115 : decode cX8_law 115 = .ok (.aload_n 0, 1) := by decide +kernel
theorem dX8_law_116 : decode cX8_law 116 = .ok (.iconst 0, 1) := by decide +kernel
theorem dX8_law_117 : decode cX8_law 117 = .ok (.aload_n 0, 1) := by decide +kernel
theorem dX8_law_118 : decode cX8_law 118 = .ok (.getfield 85, 3) := by decide +kernel
theorem dX8_law_121 : decode cX8_law 121 = .ok (.iload_n 2, 1) := by decide +kernel
theorem dX8_law_122 : decode cX8_law 122 = .ok (.iaload, 1) := by decide +kernel
theorem dX8_law_123 : decode cX8_law 123 = .ok (.iconst (-1), 1) := by decide +kernel
theorem dX8_law_124 : decode cX8_law 124 = .ok (.invokevirtual 391, 3) := by decide +kernel
theorem dX8_law_127 : decode cX8_law 127 = .ok (.goto 9, 3) := by decide +kernel
theorem dX8_law_130 : decode cX8_law 130 = .ok (.aload_n 0, 1) := by decide +kernel
theorem dX8_law_131 : decode cX8_law 131 = .ok (.iconst 0, 1) := by decide +kernel
theorem dX8_law_132 : decode cX8_law 132 = .ok (.iload_n 2, 1) := by decide +kernel
theorem dX8_law_133 : decode cX8_law 133 = .ok (.invokevirtual 408, 3) := by decide +kernel
theorem dX8_law_136 : decode cX8_law 136 = .ok (.aload_n 0, 1) := by decide +kernel
theorem dX8_law_137 : decode cX8_law 137 = .ok (.iload_n 1, 1) := by decide +kernel
theorem dX8_law_138 : decode cX8_law 138 = .ok (.invokevirtual 398, 3) := by decide +kernel
theorem dX8_law_141 : decode cX8_law 141 = .ok (.lstore 4, 2) := by decide +kernel
theorem dX8_law_143 : decode cX8_law 143 = .ok (.aload_n 0, 1) := by decide +kernel
theorem dX8_law_144 : decode cX8_law 144 = .ok (.getfield 341, 3) := by decide +kernel
theorem dX8_law_147 : decode cX8_law 147 = .ok (.ifCond .eq 9, 3) := by decide +kernel
theorem dX8_law_150 : decode cX8_law 150 = .ok (.ldc2_w 471, 3) := by decide +kernel
theorem dX8_law_153 : decode cX8_law 153 = .ok (.goto 5, 3) := by decide +kernel
theorem dX8_law_156 : decode cX8_law 156 = .ok (.lload 4, 2) := by decide +kernel
theorem dX8_law_158 : decode cX8_law 158 = .ok (.lreturn, 1) := by decide +kernel
theorem dX8_put_0 : decode cX8_put 0 = .ok (.iconst 0, 1) := by decide +kernel
theorem dX8_put_1 : decode cX8_put 1 = .ok (.istore_n 3, 1) := by decide +kernel
theorem dX8_put_2 : decode cX8_put 2 = .ok (.iload_n 3, 1) := by decide +kernel
theorem dX8_put_3 : decode cX8_put 3 = .ok (.iconst 4, 1) := by decide +kernel
theorem dX8_put_4 : decode cX8_put 4 = .ok (.if_icmp .ge 33, 3) := by decide +kernel
theorem dX8_put_7 : decode cX8_put 7 = .ok (.aload_n 1, 1) := by decide +kernel
theorem dX8_put_8 : decode cX8_put 8 = .ok (.iload_n 2, 1) := by decide +kernel
theorem dX8_put_9 : decode cX8_put 9 = .ok (.iload_n 3, 1) := by decide +kernel
theorem dX8_put_10 : decode cX8_put 10 = .ok (.iadd, 1) := by decide +kernel
theorem dX8_put_11 : decode cX8_put 11 = .ok (.aload_n 0, 1) := by decide +kernel
theorem dX8_put_12 : decode cX8_put 12 = .ok (.getfield 97, 3) := by decide +kernel
theorem dX8_put_15 : decode cX8_put 15 = .ok (.iload_n 3, 1) := by decide +kernel
theorem dX8_put_16 : decode cX8_put 16 = .ok (.iaload, 1) := by decide +kernel
theorem dX8_put_17 : decode cX8_put 17 = .ok (.iastore, 1) := by decide +kernel
theorem dX8_put_18 : decode cX8_put 18 = .ok (.aload_n 1, 1) := by decide +kernel
theorem dX8_put_19 : decode cX8_put 19 = .ok (.iload_n 2, 1) := by decide +kernel
theorem dX8_put_20 : decode cX8_put 20 = .ok (.iconst 4, 1) := by decide +kernel
theorem dX8_put_21 : decode cX8_put 21 = .ok (.iadd, 1) := by decide +kernel
theorem dX8_put_22 : decode cX8_put 22 = .ok (.iload_n 3, 1) := by decide +kernel
theorem dX8_put_23 : decode cX8_put 23 = .ok (.iadd, 1) := by decide +kernel
theorem dX8_put_24 : decode cX8_put 24 = .ok (.aload_n 0, 1) := by decide +kernel
theorem dX8_put_25 : decode cX8_put 25 = .ok (.getfield 91, 3) := by decide +kernel
theorem dX8_put_28 : decode cX8_put 28 = .ok (.iload_n 3, 1) := by decide +kernel
theorem dX8_put_29 : decode cX8_put 29 = .ok (.iaload, 1) := by decide +kernel
theorem dX8_put_30 : decode cX8_put 30 = .ok (.iastore, 1) := by decide +kernel
theorem dX8_put_31 : decode cX8_put 31 = .ok (.iinc 3 1, 3) := by decide +kernel
theorem dX8_put_34 : decode cX8_put 34 = .ok (.goto (-32), 3) := by decide +kernel
theorem dX8_put_37 : decode cX8_put 37 = .ok (.iconst 0, 1) := by decide +kernel
theorem dX8_put_38 : decode cX8_put 38 = .ok (.istore_n 3, 1) := by decide +kernel
theorem dX8_put_39 : decode cX8_put 39 = .ok (.iload_n 3, 1) := by decide +kernel
theorem dX8_put_40 : decode cX8_put 40 = .ok (.bipush 8, 2) := by decide +kernel
theorem dX8_put_42 : decode cX8_put 42 = .ok (.if_icmp .ge 23, 3) := by decide +kernel
theorem dX8_put_45 : decode cX8_put 45 = .ok (.aload_n 1, 1) := by decide +kernel
theorem dX8_put_46 : decode cX8_put 46 = .ok (.iload_n 2, 1) := by decide +kernel
theorem dX8_put_47 : decode cX8_put 47 = .ok (.bipush 8, 2) := by decide +kernel
theorem dX8_put_49 : decode cX8_put 49 = .ok (.iadd, 1) := by decide +kernel
theorem dX8_put_50 : decode cX8_put 50 = .ok (.iload_n 3, 1) := by decide +kernel
theorem dX8_put_51 : decode cX8_put 51 = .ok (.iadd, 1) := by decide +kernel
theorem dX8_put_52 : decode cX8_put 52 = .ok (.aload_n 0, 1) := by decide +kernel
theorem dX8_put_53 : decode cX8_put 53 = .ok (.getfield 88, 3) := by decide +kernel
theorem dX8_put_56 : decode cX8_put 56 = .ok (.iload_n 3, 1) := by decide +kernel
theorem dX8_put_57 : decode cX8_put 57 = .ok (.iaload, 1) := by decide +kernel
theorem dX8_put_58 : decode cX8_put 58 = .ok (.iastore, 1) := by decide +kernel
theorem dX8_put_59 : decode cX8_put 59 = .ok (.iinc 3 1, 3) := by decide +kernel
theorem dX8_put_62 : decode cX8_put 62 = .ok (.goto (-23), 3) := by decide +kernel
theorem dX8_put_65 : decode cX8_put 65 = .ok (.aload_n 1, 1) := by decide +kernel
theorem dX8_put_66 : decode cX8_put 66 = .ok (.iload_n 2, 1) := by decide +kernel
theorem dX8_put_67 : decode cX8_put 67 = .ok (.bipush 16, 2) := by decide +kernel
theorem dX8_put_69 : decode cX8_put 69 = .ok (.iadd, 1) := by decide +kernel
theorem dX8_put_70 : decode cX8_put 70 = .ok (.aload_n 0, 1) := by decide +kernel
theorem dX8_put_71 : decode cX8_put 71 = .ok (.getfield 363, 3) := by decide +kernel
theorem dX8_put_74 : decode cX8_put 74 = .ok (.iastore, 1) := by decide +kernel
theorem dX8_put_75 : decode cX8_put 75 = .ok (.return_, 1) := by decide +kernel
theorem dX8_remember_0 : decode cX8_remember 0 = .ok (.aload_n 0, 1) := by decide +kernel
theorem dX8_remember_1 : decode cX8_remember 1 = .ok (.getfield 376, 3) := by decide +kernel
theorem dX8_remember_4 : decode cX8_remember 4 = .ok (.bipush 20, 2) := by decide +kernel
theorem dX8_remember_6 : decode cX8_remember 6 = .ok (.if_icmp .ne 43, 3) := by decide +kernel
theorem dX8_remember_9 : decode cX8_remember 9 = .ok (.iconst 0, 1) := by decide +kernel
theorem dX8_remember_10 : decode cX8_remember 10 = .ok (.istore_n 1, 1) := by decide +kernel
theorem dX8_remember_11 : decode cX8_remember 11 = .ok (.iload_n 1, 1) := by decide +kernel
theorem dX8_remember_12 : decode cX8_remember 12 = .ok (.sipush 323, 3) := by decide +kernel
theorem dX8_remember_15 : decode cX8_remember 15 = .ok (.if_icmp .ge 24, 3) := by decide +kernel
theorem dX8_remember_18 : decode cX8_remember 18 = .ok (.aload_n 0, 1) := by decide +kernel
theorem dX8_remember_19 : decode cX8_remember 19 = .ok (.getfield 139, 3) := by decide +kernel
theorem dX8_remember_22 : decode cX8_remember 22 = .ok (.iload_n 1, 1) := by decide +kernel
theorem dX8_remember_23 : decode cX8_remember 23 = .ok (.aload_n 0, 1) := by decide +kernel
theorem dX8_remember_24 : decode cX8_remember 24 = .ok (.getfield 139, 3) := by decide +kernel
theorem dX8_remember_27 : decode cX8_remember 27 = .ok (.iload_n 1, 1) := by decide +kernel
theorem dX8_remember_28 : decode cX8_remember 28 = .ok (.bipush 17, 2) := by decide +kernel
theorem dX8_remember_30 : decode cX8_remember 30 = .ok (.iadd, 1) := by decide +kernel
theorem dX8_remember_31 : decode cX8_remember 31 = .ok (.iaload, 1) := by decide +kernel
theorem dX8_remember_32 : decode cX8_remember 32 = .ok (.iastore, 1) := by decide +kernel
theorem dX8_remember_33 : decode cX8_remember 33 = .ok (.iinc 1 1, 3) := by decide +kernel
theorem dX8_remember_36 : decode cX8_remember 36 = .ok (.goto (-25), 3) := by decide +kernel
theorem dX8_remember_39 : decode cX8_remember 39 = .ok (.aload_n 0, 1) := by decide +kernel
theorem dX8_remember_40 : decode cX8_remember 40 = .ok (.dup, 1) := by decide +kernel
theorem dX8_remember_41 : decode cX8_remember 41 = .ok (.getfield 376, 3) := by decide +kernel
theorem dX8_remember_44 : decode cX8_remember 44 = .ok (.iconst 1, 1) := by decide +kernel
theorem dX8_remember_45 : decode cX8_remember 45 = .ok (.isub, 1) := by decide +kernel
theorem dX8_remember_46 : decode cX8_remember 46 = .ok (.putfield 376, 3) := by decide +kernel
theorem dX8_remember_49 : decode cX8_remember 49 = .ok (.aload_n 0, 1) := by decide +kernel
theorem dX8_remember_50 : decode cX8_remember 50 = .ok (.aload_n 0, 1) := by decide +kernel
theorem dX8_remember_51 : decode cX8_remember 51 = .ok (.getfield 139, 3) := by decide +kernel
theorem dX8_remember_54 : decode cX8_remember 54 = .ok (.bipush 17, 2) := by decide +kernel
theorem dX8_remember_56 : decode cX8_remember 56 = .ok (.aload_n 0, 1) := by decide +kernel
theorem dX8_remember_57 : decode cX8_remember 57 = .ok (.getfield 376, 3) := by decide +kernel
theorem dX8_remember_60 : decode cX8_remember 60 = .ok (.imul, 1) := by decide +kernel
theorem dX8_remember_61 : decode cX8_remember 61 = .ok (.invokevirtual 547, 3) := by decide +kernel
theorem dX8_remember_64 : decode cX8_remember 64 = .ok (.aload_n 0, 1) := by decide +kernel
theorem dX8_remember_65 : decode cX8_remember 65 = .ok (.dup, 1) := by decide +kernel
theorem dX8_remember_66 : decode cX8_remember 66 = .ok (.getfield 376, 3) := by decide +kernel
theorem dX8_remember_69 : decode cX8_remember 69 = .ok (.iconst 1, 1) := by decide +kernel
theorem dX8_remember_70 : decode cX8_remember 70 = .ok (.iadd, 1) := by decide +kernel
theorem dX8_remember_71 : decode cX8_remember 71 = .ok (.putfield 376, 3) := by decide +kernel
theorem dX8_remember_74 : decode cX8_remember 74 = .ok (.return_, 1) := by decide +kernel
def f_X8_lotsOf_4 (h : Hp) (p1 : Int32) (r4 : Int32 → Int32 → Option Int32) (v1 : Int32) (v2 : Int32) : Option Int32 :=
  if (gI h 8 0 12) ≤ v2 then
    some v1
  else
  grd (inb v2 16) <|
  jn (fun (v3 : Int32) =>
    lt_ ((v1 + v3)) fun v4 =>
    lt_ (v2 + 1) fun v5 =>
    r4 v4 v5) fun (j33 : Int32 → Option Int32) =>
  if ¬ (gA h 8 0 24 v2.toNatClampNeg) = p1 then
    j33 0
  else
  grd (inb v2 16) <|
  j33 (gA h 8 0 23 v2.toNatClampNeg)
def f_X8_lotsOf (N : Nat) (h : Hp) (p1 : Int32) : Option Int32 :=
  iter (fun _ _ => none) (f_X8_lotsOf_4 h p1) N 0 0
abbrev rmX8_lotsOf : Room := { frames := 0, cells := 0, slots := 0, locals := 0 }
set_option maxRecDepth 100000 in
set_option maxHeartbeats 4000000 in
theorem w_X8_lotsOf (X : Cx) (F : Fx X cX8_lotsOf RX8 (some .int) rmX8_lotsOf) (hA : xA X = Aw (xG X)) (hL : xL X = 4) (N : Nat) (h : Hp) (p1 : Int32) : Wm X (fun v => some (.int v)) (fun _ => h) (fun _ => True) 0 [(0, .ref (adr (xG X) 8 0 0)), (1, .int p1)] [] h (f_X8_lotsOf N h p1) := by
  have hS : ∀ i : Nat, i < 4 → i < xL X := fun i z => by rw [hL]; exact z
  unfold f_X8_lotsOf
  refine r_iconst F (v := 0) dX8_lotsOf_0 (by decide) ?_
  refine r_istore_n F [(2, .int 0), (0, .ref (adr (xG X) 8 0 0)), (1, .int p1)] rfl dX8_lotsOf_1 rfl (hS _ (by decide)) ?_
  refine r_iconst F (v := 0) dX8_lotsOf_2 (by decide) ?_
  refine r_istore_n F [(3, .int 0), (2, .int 0), (0, .ref (adr (xG X) 8 0 0)), (1, .int p1)] rfl dX8_lotsOf_3 rfl (hS _ (by decide)) ?_
  have hl4 : ∀ n : Nat, ∀ v1 : Int32, ∀ v2 : Int32, Wm X (fun v => some (.int v)) (fun _ => h) (fun _ => True) 4 [(0, .ref (adr (xG X) 8 0 0)), (1, .int p1), (2, .int v1), (3, .int v2)] [] h (iter (fun _ _ => none) (f_X8_lotsOf_4 h p1) n v1 v2) := by
    intro n
    induction n with
    | zero => intro v1 v2; exact Wt_none
    | succ n ih =>
      revert ih
      show (∀ v1 : Int32, ∀ v2 : Int32, Wm X (fun v => some (.int v)) (fun _ => h) (fun _ => True) 4 [(0, .ref (adr (xG X) 8 0 0)), (1, .int p1), (2, .int v1), (3, .int v2)] [] h (iter (fun _ _ => none) (f_X8_lotsOf_4 h p1) n v1 v2)) → _
      intro ih4 v1 v2
      show Wm X (fun v => some (.int v)) (fun _ => h) (fun _ => True) 4 [(0, .ref (adr (xG X) 8 0 0)), (1, .int p1), (2, .int v1), (3, .int v2)] [] h (f_X8_lotsOf_4 h p1 (iter (fun _ _ => none) (f_X8_lotsOf_4 h p1) n) v1 v2)
      revert ih4
      generalize iter (fun _ _ => none) (f_X8_lotsOf_4 h p1) n = r4
      intro ih4
      unfold f_X8_lotsOf_4
      refine r_iload_n F 3 rfl dX8_lotsOf_4 rfl ?_
      refine r_aload_n F 0 rfl dX8_lotsOf_5 rfl ?_
      refine r_getI F frX8_243 (by decide) dX8_lotsOf_6 ?_
      refine r_icmpge F (tgt := 41) dX8_lotsOf_9 (by decide) ?_ ?_
      · skip
        refine r_iload_n F 2 rfl dX8_lotsOf_41 rfl ?_
        exact r_iret F hA rfl rfl trivial dX8_lotsOf_42
      refine r_iload_n F 2 rfl dX8_lotsOf_12 rfl ?_
      refine r_aload_n F 0 rfl dX8_lotsOf_13 rfl ?_
      refine r_getA F frX8_88 (by decide) dX8_lotsOf_14 ?_
      refine r_iload_n F 3 rfl dX8_lotsOf_17 rfl ?_
      refine r_iaload F (ar_8_24 0 (by decide)) dX8_lotsOf_18 ?_
      refine r_iload_n F 1 rfl dX8_lotsOf_19 rfl ?_
      refine Wt_jn (fun (j33 : Int32 → Option Int32) => ∀ v3 : Int32, Wm X (fun v => some (.int v)) (fun _ => h) (fun _ => True) 33 [(0, .ref (adr (xG X) 8 0 0)), (1, .int p1), (3, .int v2)] [.int v3, .int v1] h (j33 v3)) ?_ fun j33 hj33 => ?_
      · intro v3
        refine r_iadd F dX8_lotsOf_33 ?_
        refine r_nmI fun v4 => ?_
        refine r_istore_n F [(2, .int v4), (0, .ref (adr (xG X) 8 0 0)), (1, .int p1), (3, .int v2)] rfl dX8_lotsOf_34 rfl (hS _ (by decide)) ?_
        refine r_iinc F (v := 1) 3 rfl (by decide) (fun v5 => [(3, .int v5), (2, .int v4), (0, .ref (adr (xG X) 8 0 0)), (1, .int p1)]) (fun _ => rfl) dX8_lotsOf_35 (hS _ (by decide)) fun v5 => ?_
        refine r_goto F (tgt := 4) dX8_lotsOf_38 (by decide) ?_
        exact Wt_pick [2, 3, 1, 0] rfl (ih4 v4 v5)
      refine r_icmpne F (tgt := 32) dX8_lotsOf_20 (by decide) ?_ ?_
      · skip
        refine r_iconst F (v := 0) dX8_lotsOf_32 (by decide) ?_
        exact Wt_pick [0, 1, 3] rfl (hj33 0)
      refine r_aload_n F 0 rfl dX8_lotsOf_23 rfl ?_
      refine r_getA F frX8_85 (by decide) dX8_lotsOf_24 ?_
      refine r_iload_n F 3 rfl dX8_lotsOf_27 rfl ?_
      refine r_iaload F (ar_8_23 0 (by decide)) dX8_lotsOf_28 ?_
      refine r_goto F (tgt := 33) dX8_lotsOf_29 (by decide) ?_
      exact Wt_pick [0, 1, 3] rfl (hj33 (gA h 8 0 23 v2.toNatClampNeg))
  exact Wt_pick [2, 3, 1, 0] rfl (hl4 N 0 0)
theorem c_X8_lotsOf (G : Gx) (l : Launch) (N : Nat) (h : Hp) (p1 : Int32) : Ctr G l yX8_lotsOf (.code yX8_lotsOf cX8_lotsOf 4 (some .int) :: GT) rmX8_lotsOf [.ref (adr G 8 0 0), .int p1] h (f_X8_lotsOf N h p1) (fun v => some (.int v)) (fun _ => h) (fun _ => True) :=
  ctr_of (by decide) (Nat.le_of_ble_eq_true rfl) ⟨rfl, rfl⟩ fun X _ e2 hA hL F => by subst e2; exact w_X8_lotsOf X F hA hL N h p1
def f_X8_croft (N : Nat) (h : Hp) (p1 : Int32) (p2 : Int32) : Option (Int32 × Hp) :=
  lt_ (sI h 8 0 2 0) fun h1 =>
  (f_X8_isCroft h1 p1).bind fun v2 =>
  if ¬ (b2i v2) = 0 then
    if p2 = 0 then
      grd (inb p1 8) <|
      some ((gA h1 8 0 25 p1.toNatClampNeg), h1)
    else
    if p2 = 1 then
      grd (inb p1 8) <|
      some ((gA h1 8 0 7 p1.toNatClampNeg), h1)
    else
    if p2 = 2 then
      grd (inb p1 8) <|
      some ((gA h1 8 0 26 p1.toNatClampNeg), h1)
    else
    if p2 = 3 then
      grd (inb p1 8) <|
      some ((gA h1 8 0 27 p1.toNatClampNeg), h1)
    else
    if p2 = 4 then
      grd (inb p1 8) <|
      some ((gA h1 8 0 28 p1.toNatClampNeg), h1)
    else
    if p2 = 5 then
      grd (inb p1 8) <|
      some ((gA h1 8 0 29 p1.toNatClampNeg), h1)
    else
    if p2 = 6 then
      (f_X8_lotsOf N h1 p1).bind fun v3 =>
      some (v3, h1)
    else
    some ((-1), h1)
  else
  some ((-1), h1)
abbrev rmX8_croft : Room := { frames := 1, cells := 0, slots := 0, locals := 23 }
set_option maxRecDepth 100000 in
set_option maxHeartbeats 4000000 in
theorem w_X8_croft (X : Cx) (F : Fx X cX8_croft RX8 (some .int) rmX8_croft) (hA : xA X = Aw (xG X)) (hL : xL X = 3) (N : Nat) (h : Hp) (p1 : Int32) (p2 : Int32) : Wm X (fun v => some (.int v.1)) (fun v => v.2) (fun _ => True) 0 [(0, .ref (adr (xG X) 8 0 0)), (1, .int p1), (2, .int p2)] [] h (f_X8_croft N h p1 p2) := by
  have hS : ∀ i : Nat, i < 3 → i < xL X := fun i z => by rw [hL]; exact z
  unfold f_X8_croft
  refine r_aload_n F 0 rfl dX8_croft_0 rfl ?_
  refine r_iconst F (v := 0) dX8_croft_1 (by decide) ?_
  refine r_putI F frX8_163 (by decide) rfl rfl dX8_croft_2 fun h1 => ?_
  refine r_aload_n F 0 rfl dX8_croft_5 rfl ?_
  refine r_iload_n F 1 rfl dX8_croft_6 rfl ?_
  refine k_zP (run_V F cvX8_462 (by decide) (c_X8_isCroft (xG X) _ h1 p1) rfl rfl ⟨⟨rfl, rfl⟩, Nat.le_of_ble_eq_true rfl, Nat.le_of_ble_eq_true rfl⟩ (Nat.le_of_ble_eq_true rfl) dX8_croft_7) fun v2 _ => ?_
  refine r_ifne F (tgt := 15) dX8_croft_10 (by decide) ?_ ?_
  · skip
    refine r_iload_n F 2 rfl dX8_croft_15 rfl ?_
    refine r_tsc F (tgt := 60) 0 0 dX8_croft_16 rfl (by decide) (by decide) (by decide) ?_ fun n0 => ?_
    · skip
      refine r_aload_n F 0 rfl dX8_croft_60 rfl ?_
      refine r_getA F frX8_91 (by decide) dX8_croft_61 ?_
      refine r_iload_n F 1 rfl dX8_croft_64 rfl ?_
      refine r_iaload F (ar_8_25 0 (by decide)) dX8_croft_65 ?_
      exact r_iret F hA rfl rfl trivial dX8_croft_66
    refine r_tsc F (tgt := 67) 1 1 dX8_croft_16 rfl (by decide) (by decide) (by decide) ?_ fun n1 => ?_
    · skip
      refine r_aload_n F 0 rfl dX8_croft_67 rfl ?_
      refine r_getA F frX8_36 (by decide) dX8_croft_68 ?_
      refine r_iload_n F 1 rfl dX8_croft_71 rfl ?_
      refine r_iaload F (ar_8_7 0 (by decide)) dX8_croft_72 ?_
      exact r_iret F hA rfl rfl trivial dX8_croft_73
    refine r_tsc F (tgt := 74) 2 2 dX8_croft_16 rfl (by decide) (by decide) (by decide) ?_ fun n2 => ?_
    · skip
      refine r_aload_n F 0 rfl dX8_croft_74 rfl ?_
      refine r_getA F frX8_94 (by decide) dX8_croft_75 ?_
      refine r_iload_n F 1 rfl dX8_croft_78 rfl ?_
      refine r_iaload F (ar_8_26 0 (by decide)) dX8_croft_79 ?_
      exact r_iret F hA rfl rfl trivial dX8_croft_80
    refine r_tsc F (tgt := 81) 3 3 dX8_croft_16 rfl (by decide) (by decide) (by decide) ?_ fun n3 => ?_
    · skip
      refine r_aload_n F 0 rfl dX8_croft_81 rfl ?_
      refine r_getA F frX8_97 (by decide) dX8_croft_82 ?_
      refine r_iload_n F 1 rfl dX8_croft_85 rfl ?_
      refine r_iaload F (ar_8_27 0 (by decide)) dX8_croft_86 ?_
      exact r_iret F hA rfl rfl trivial dX8_croft_87
    refine r_tsc F (tgt := 88) 4 4 dX8_croft_16 rfl (by decide) (by decide) (by decide) ?_ fun n4 => ?_
    · skip
      refine r_aload_n F 0 rfl dX8_croft_88 rfl ?_
      refine r_getA F frX8_100 (by decide) dX8_croft_89 ?_
      refine r_iload_n F 1 rfl dX8_croft_92 rfl ?_
      refine r_iaload F (ar_8_28 0 (by decide)) dX8_croft_93 ?_
      exact r_iret F hA rfl rfl trivial dX8_croft_94
    refine r_tsc F (tgt := 95) 5 5 dX8_croft_16 rfl (by decide) (by decide) (by decide) ?_ fun n5 => ?_
    · skip
      refine r_aload_n F 0 rfl dX8_croft_95 rfl ?_
      refine r_getA F frX8_103 (by decide) dX8_croft_96 ?_
      refine r_iload_n F 1 rfl dX8_croft_99 rfl ?_
      refine r_iaload F (ar_8_29 0 (by decide)) dX8_croft_100 ?_
      exact r_iret F hA rfl rfl trivial dX8_croft_101
    refine r_tsc F (tgt := 102) 6 6 dX8_croft_16 rfl (by decide) (by decide) (by decide) ?_ fun n6 => ?_
    · skip
      refine r_aload_n F 0 rfl dX8_croft_102 rfl ?_
      refine r_iload_n F 1 rfl dX8_croft_103 rfl ?_
      refine k_iP (run_V F cvX8_465 (by decide) (c_X8_lotsOf (xG X) _ N h1 p1) rfl rfl ⟨⟨rfl, rfl⟩, Nat.le_of_ble_eq_true rfl, Nat.le_of_ble_eq_true rfl⟩ (Nat.le_of_ble_eq_true rfl) dX8_croft_104) fun v3 _ => ?_
      exact r_iret F hA rfl rfl trivial dX8_croft_107
    refine r_tsd F (tgt := 108) dX8_croft_16 (by have e0 := lv_neT n0 (a := 0) (by decide); have e1 := lv_neT n1 (a := 1) (by decide); have e2 := lv_neT n2 (a := 2) (by decide); have e3 := lv_neT n3 (a := 3) (by decide); have e4 := lv_neT n4 (a := 4) (by decide); have e5 := lv_neT n5 (a := 5) (by decide); have e6 := lv_neT n6 (a := 6) (by decide); omega) (by decide) ?_
    refine r_iconst F (v := (-1)) dX8_croft_108 (by decide) ?_
    exact r_iret F hA rfl rfl trivial dX8_croft_109
  refine r_iconst F (v := (-1)) dX8_croft_13 (by decide) ?_
  exact r_iret F hA rfl rfl trivial dX8_croft_14
theorem c_X8_croft (G : Gx) (l : Launch) (N : Nat) (h : Hp) (p1 : Int32) (p2 : Int32) : Ctr G l yX8_croft (.code yX8_croft cX8_croft 3 (some .int) :: GT) rmX8_croft [.ref (adr G 8 0 0), .int p1, .int p2] h (f_X8_croft N h p1 p2) (fun v => some (.int v.1)) (fun v => v.2) (fun _ => True) :=
  ctr_of (by decide) (Nat.le_of_ble_eq_true rfl) ⟨rfl, rfl⟩ fun X _ e2 hA hL F => by subst e2; exact w_X8_croft X F hA hL N h p1 p2
def f_X8_field (N : Nat) (h : Hp) (p1 : Int32) (p2 : Int32) : Option (Int32 × Hp) :=
  lt_ (sI h 8 0 2 0) fun h1 =>
  (f_X8_isField h1 p1).bind fun v2 =>
  if ¬ (b2i v2) = 0 then
    if p2 = 0 then
      grd (inb p1 12) <|
      some ((gA h1 8 0 9 p1.toNatClampNeg), h1)
    else
    if p2 = 1 then
      grd (inb p1 12) <|
      some ((gA h1 8 0 10 p1.toNatClampNeg), h1)
    else
    if p2 = 2 then
      grd (inb p1 12) <|
      some ((gA h1 8 0 11 p1.toNatClampNeg), h1)
    else
    if p2 = 3 then
      grd (inb p1 12) <|
      some ((gA h1 8 0 30 p1.toNatClampNeg), h1)
    else
    if p2 = 4 then
      bd2 (f_X8_worthOf N h1 0 p1) fun v4 h3 =>
      some (v4, h3)
    else
    some ((-1), h1)
  else
  some ((-1), h1)
abbrev rmX8_field : Room := { frames := 5, cells := 0, slots := 0, locals := 120 }
set_option maxRecDepth 100000 in
set_option maxHeartbeats 4000000 in
theorem w_X8_field (X : Cx) (F : Fx X cX8_field RX8 (some .int) rmX8_field) (hA : xA X = Aw (xG X)) (hL : xL X = 3) (N : Nat) (h : Hp) (p1 : Int32) (p2 : Int32) : Wm X (fun v => some (.int v.1)) (fun v => v.2) (fun _ => True) 0 [(0, .ref (adr (xG X) 8 0 0)), (1, .int p1), (2, .int p2)] [] h (f_X8_field N h p1 p2) := by
  have hS : ∀ i : Nat, i < 3 → i < xL X := fun i z => by rw [hL]; exact z
  unfold f_X8_field
  refine r_aload_n F 0 rfl dX8_field_0 rfl ?_
  refine r_iconst F (v := 0) dX8_field_1 (by decide) ?_
  refine r_putI F frX8_163 (by decide) rfl rfl dX8_field_2 fun h1 => ?_
  refine r_aload_n F 0 rfl dX8_field_5 rfl ?_
  refine r_iload_n F 1 rfl dX8_field_6 rfl ?_
  refine k_zP (run_V F cvX8_468 (by decide) (c_X8_isField (xG X) _ h1 p1) rfl rfl ⟨⟨rfl, rfl⟩, Nat.le_of_ble_eq_true rfl, Nat.le_of_ble_eq_true rfl⟩ (Nat.le_of_ble_eq_true rfl) dX8_field_7) fun v2 _ => ?_
  refine r_ifne F (tgt := 15) dX8_field_10 (by decide) ?_ ?_
  · skip
    refine r_iload_n F 2 rfl dX8_field_15 rfl ?_
    refine r_tsc F (tgt := 52) 0 0 dX8_field_16 rfl (by decide) (by decide) (by decide) ?_ fun n0 => ?_
    · skip
      refine r_aload_n F 0 rfl dX8_field_52 rfl ?_
      refine r_getA F frX8_42 (by decide) dX8_field_53 ?_
      refine r_iload_n F 1 rfl dX8_field_56 rfl ?_
      refine r_iaload F (ar_8_9 0 (by decide)) dX8_field_57 ?_
      exact r_iret F hA rfl rfl trivial dX8_field_58
    refine r_tsc F (tgt := 59) 1 1 dX8_field_16 rfl (by decide) (by decide) (by decide) ?_ fun n1 => ?_
    · skip
      refine r_aload_n F 0 rfl dX8_field_59 rfl ?_
      refine r_getA F frX8_45 (by decide) dX8_field_60 ?_
      refine r_iload_n F 1 rfl dX8_field_63 rfl ?_
      refine r_iaload F (ar_8_10 0 (by decide)) dX8_field_64 ?_
      exact r_iret F hA rfl rfl trivial dX8_field_65
    refine r_tsc F (tgt := 66) 2 2 dX8_field_16 rfl (by decide) (by decide) (by decide) ?_ fun n2 => ?_
    · skip
      refine r_aload_n F 0 rfl dX8_field_66 rfl ?_
      refine r_getA F frX8_48 (by decide) dX8_field_67 ?_
      refine r_iload_n F 1 rfl dX8_field_70 rfl ?_
      refine r_iaload F (ar_8_11 0 (by decide)) dX8_field_71 ?_
      exact r_iret F hA rfl rfl trivial dX8_field_72
    refine r_tsc F (tgt := 73) 3 3 dX8_field_16 rfl (by decide) (by decide) (by decide) ?_ fun n3 => ?_
    · skip
      refine r_aload_n F 0 rfl dX8_field_73 rfl ?_
      refine r_getA F frX8_106 (by decide) dX8_field_74 ?_
      refine r_iload_n F 1 rfl dX8_field_77 rfl ?_
      refine r_iaload F (ar_8_30 0 (by decide)) dX8_field_78 ?_
      exact r_iret F hA rfl rfl trivial dX8_field_79
    refine r_tsc F (tgt := 80) 4 4 dX8_field_16 rfl (by decide) (by decide) (by decide) ?_ fun n4 => ?_
    · skip
      refine r_aload_n F 0 rfl dX8_field_80 rfl ?_
      refine r_iconst F (v := 0) dX8_field_81 (by decide) ?_
      refine r_iload_n F 1 rfl dX8_field_82 rfl ?_
      refine k_iH (run_V F cvX8_412 (by decide) (c_X8_worthOf (xG X) _ N h1 0 p1) rfl rfl ⟨⟨rfl, rfl⟩, Nat.le_of_ble_eq_true rfl, Nat.le_of_ble_eq_true rfl⟩ (Nat.le_of_ble_eq_true rfl) dX8_field_83) fun v4 h3 => ?_
      exact r_iret F hA rfl rfl trivial dX8_field_86
    refine r_tsd F (tgt := 87) dX8_field_16 (by have e0 := lv_neT n0 (a := 0) (by decide); have e1 := lv_neT n1 (a := 1) (by decide); have e2 := lv_neT n2 (a := 2) (by decide); have e3 := lv_neT n3 (a := 3) (by decide); have e4 := lv_neT n4 (a := 4) (by decide); omega) (by decide) ?_
    refine r_iconst F (v := (-1)) dX8_field_87 (by decide) ?_
    exact r_iret F hA rfl rfl trivial dX8_field_88
  refine r_iconst F (v := (-1)) dX8_field_13 (by decide) ?_
  exact r_iret F hA rfl rfl trivial dX8_field_14
theorem c_X8_field (G : Gx) (l : Launch) (N : Nat) (h : Hp) (p1 : Int32) (p2 : Int32) : Ctr G l yX8_field (.code yX8_field cX8_field 3 (some .int) :: GT) rmX8_field [.ref (adr G 8 0 0), .int p1, .int p2] h (f_X8_field N h p1 p2) (fun v => some (.int v.1)) (fun v => v.2) (fun _ => True) :=
  ctr_of (by decide) (Nat.le_of_ble_eq_true rfl) ⟨rfl, rfl⟩ fun X _ e2 hA hL F => by subst e2; exact w_X8_field X F hA hL N h p1 p2
def f_X8_source (N : Nat) (h : Hp) (p1 : Int32) (p2 : Int32) : Option (Int32 × Hp) :=
  lt_ (sI h 8 0 2 0) fun h1 =>
  (f_X8_isCroft h1 p1).bind fun v2 =>
  jn (fun (v3 : Int32) =>
    some (v3, h1)) fun (j46 : Int32 → Option (Int32 × Hp)) =>
  jn (
    j46 (-1)) fun (j45 : Option (Int32 × Hp)) =>
  if (b2i v2) = 0 then
    j45
  else
  (f_X8_isIn p2 0 1).bind fun v4 =>
  if (b2i v4) = 0 then
    j45
  else
  jn (fun (v5 : Bool) =>
    (f_X8_sourceOf N h1 0 p1 (gI h1 8 0 61) v5).bind fun v6 =>
    j46 v6) fun (j39 : Bool → Option (Int32 × Hp)) =>
  if ¬ p2 = 1 then
    j39 false
  else
  j39 true
abbrev rmX8_source : Room := { frames := 1, cells := 0, slots := 0, locals := 26 }
set_option maxRecDepth 100000 in
set_option maxHeartbeats 4000000 in
theorem w_X8_source (X : Cx) (F : Fx X cX8_source RX8 (some .int) rmX8_source) (hA : xA X = Aw (xG X)) (hL : xL X = 3) (N : Nat) (h : Hp) (p1 : Int32) (p2 : Int32) : Wm X (fun v => some (.int v.1)) (fun v => v.2) (fun _ => True) 0 [(0, .ref (adr (xG X) 8 0 0)), (1, .int p1), (2, .int p2)] [] h (f_X8_source N h p1 p2) := by
  have hS : ∀ i : Nat, i < 3 → i < xL X := fun i z => by rw [hL]; exact z
  unfold f_X8_source
  refine r_aload_n F 0 rfl dX8_source_0 rfl ?_
  refine r_iconst F (v := 0) dX8_source_1 (by decide) ?_
  refine r_putI F frX8_163 (by decide) rfl rfl dX8_source_2 fun h1 => ?_
  refine r_aload_n F 0 rfl dX8_source_5 rfl ?_
  refine r_iload_n F 1 rfl dX8_source_6 rfl ?_
  refine k_zP (run_V F cvX8_462 (by decide) (c_X8_isCroft (xG X) _ h1 p1) rfl rfl ⟨⟨rfl, rfl⟩, Nat.le_of_ble_eq_true rfl, Nat.le_of_ble_eq_true rfl⟩ (Nat.le_of_ble_eq_true rfl) dX8_source_7) fun v2 _ => ?_
  refine Wt_jn (fun (j46 : Int32 → Option (Int32 × Hp)) => ∀ v3 : Int32, Wm X (fun v => some (.int v.1)) (fun v => v.2) (fun _ => True) 46 [] [.int v3] h1 (j46 v3)) ?_ fun j46 hj46 => ?_
  · intro v3
    exact r_iret F hA rfl rfl trivial dX8_source_46
  refine Wt_jn (fun (j45 : Option (Int32 × Hp)) => Wm X (fun v => some (.int v.1)) (fun v => v.2) (fun _ => True) 45 [] [] h1 (j45)) ?_ fun j45 hj45 => ?_
  · skip
    refine r_iconst F (v := (-1)) dX8_source_45 (by decide) ?_
    exact Wt_pick [] rfl (hj46 (-1))
  refine r_ifeq F (tgt := 45) dX8_source_10 (by decide) ?_ ?_
  · skip
    exact Wt_pick [] rfl (hj45)
  refine r_iload_n F 2 rfl dX8_source_13 rfl ?_
  refine r_iconst F (v := 0) dX8_source_14 (by decide) ?_
  refine r_iconst F (v := 1) dX8_source_15 (by decide) ?_
  refine k_zP (run_S F csX8_208 (c_X8_isIn (xG X) _ h1 p2 0 1) rfl rfl ⟨⟨rfl, rfl⟩, Nat.le_of_ble_eq_true rfl, Nat.le_of_ble_eq_true rfl⟩ (Nat.le_of_ble_eq_true rfl) dX8_source_16) fun v4 _ => ?_
  refine r_ifeq F (tgt := 45) dX8_source_19 (by decide) ?_ ?_
  · skip
    exact Wt_pick [] rfl (hj45)
  refine r_aload_n F 0 rfl dX8_source_22 rfl ?_
  refine r_iconst F (v := 0) dX8_source_23 (by decide) ?_
  refine r_iload_n F 1 rfl dX8_source_24 rfl ?_
  refine r_aload_n F 0 rfl dX8_source_25 rfl ?_
  refine r_getI F frX8_363 (by decide) dX8_source_26 ?_
  refine r_iload_n F 2 rfl dX8_source_29 rfl ?_
  refine r_iconst F (v := 1) dX8_source_30 (by decide) ?_
  refine Wt_jn (fun (j39 : Bool → Option (Int32 × Hp)) => ∀ v5 : Bool, Wm X (fun v => some (.int v.1)) (fun v => v.2) (fun _ => True) 39 [] [.int (b2i v5), .int (gI h1 8 0 61), .int p1, .int 0, .ref (adr (xG X) 8 0 0)] h1 (j39 v5)) ?_ fun j39 hj39 => ?_
  · intro v5
    refine k_iP (run_V F cvX8_418 (by decide) (c_X8_sourceOf (xG X) _ N h1 0 p1 (gI h1 8 0 61) v5) rfl rfl ⟨⟨rfl, rfl⟩, Nat.le_of_ble_eq_true rfl, Nat.le_of_ble_eq_true rfl⟩ (Nat.le_of_ble_eq_true rfl) dX8_source_39) fun v6 _ => ?_
    refine r_goto F (tgt := 46) dX8_source_42 (by decide) ?_
    exact Wt_pick [] rfl (hj46 v6)
  refine r_icmpne F (tgt := 38) dX8_source_31 (by decide) ?_ ?_
  · skip
    refine r_iconst F (v := 0) dX8_source_38 (by decide) ?_
    exact Wt_pick [] rfl (hj39 false)
  refine r_iconst F (v := 1) dX8_source_34 (by decide) ?_
  refine r_goto F (tgt := 39) dX8_source_35 (by decide) ?_
  exact Wt_pick [] rfl (hj39 true)
theorem c_X8_source (G : Gx) (l : Launch) (N : Nat) (h : Hp) (p1 : Int32) (p2 : Int32) : Ctr G l yX8_source (.code yX8_source cX8_source 3 (some .int) :: GT) rmX8_source [.ref (adr G 8 0 0), .int p1, .int p2] h (f_X8_source N h p1 p2) (fun v => some (.int v.1)) (fun v => v.2) (fun _ => True) :=
  ctr_of (by decide) (Nat.le_of_ble_eq_true rfl) ⟨rfl, rfl⟩ fun X _ e2 hA hL F => by subst e2; exact w_X8_source X F hA hL N h p1 p2
def f_X8_law (N : Nat) (h : Hp) (p1 : Int32) (p2 : Int32) (p3 : Int32) : Option (Int64 × Hp) :=
  lt_ (sI h 8 0 2 0) fun h1 =>
  (f_X8_isIn p1 0 3).bind fun v2 =>
  jn (
    some ((-9223372036854775808 : Int64), h1)) fun (j23 : Option (Int64 × Hp)) =>
  if (b2i v2) = 0 then
    j23
  else
  grd (inb p1 8) <|
  if ¬ (b2i (gY h1 8 0 13 p1.toNatClampNeg)) = 0 then
    jn (
      some ((-9223372036854775808 : Int64), h1)) fun (j86 : Option (Int64 × Hp)) =>
    jn (
      jn (fun (h3 : Hp) =>
        bd2 (f_X8_lawOf N h3 p1) fun v5 h4 =>
        jn (fun (v6 : Int64) =>
          some (v6, h4)) fun (j158 : Int64 → Option (Int64 × Hp)) =>
        if (b2i (gZ h4 8 0 49)) = 0 then
          j158 v5
        else
        j158 ((-9223372036854775808 : Int64))) fun (j136 : Hp → Option (Int64 × Hp)) =>
      if 2 ≤ p1 then
        if ¬ p1 = 2 then
          (f_X8_layField h1 0 p2).bind fun h7 =>
          j136 h7
        else
        grd (inb p2 16) <|
        (f_X8_layNames h1 0 (gA h1 8 0 23 p2.toNatClampNeg) (-1)).bind fun h8 =>
        j136 h8
      else
      (f_X8_liesAt h1 0 p3).bind fun v9 =>
      (f_X8_layNames h1 0 v9 p2).bind fun h10 =>
      j136 h10) fun (j90 : Option (Int64 × Hp)) =>
    if 2 ≤ p1 then
      if ¬ p1 = 2 then
        (f_X8_isField h1 p2).bind fun v11 =>
        if ¬ (b2i v11) = 0 then
          j90
        else
        j86
      else
      (f_X8_isStripe h1 p2).bind fun v12 =>
      if ¬ (b2i v12) = 0 then
        j90
      else
      j86
    else
    (f_X8_isCroft h1 p2).bind fun v13 =>
    if (b2i v13) = 0 then
      j86
    else
    (f_X8_isStripe h1 p3).bind fun v14 =>
    if ¬ (b2i v14) = 0 then
      j90
    else
    if p1 = 1 then
      j86
    else
    if p3 = (-3) then
      j90
    else
    j86
  else
  j23
abbrev rmX8_law : Room := { frames := 3, cells := 0, slots := 0, locals := 72 }
set_option maxRecDepth 100000 in
set_option maxHeartbeats 4000000 in
theorem w_X8_law (X : Cx) (F : Fx X cX8_law RX8 (some .long) rmX8_law) (hA : xA X = Aw (xG X)) (hL : xL X = 6) (N : Nat) (h : Hp) (p1 : Int32) (p2 : Int32) (p3 : Int32) : Wm X (fun v => some (.long v.1)) (fun v => v.2) (fun _ => True) 0 [(0, .ref (adr (xG X) 8 0 0)), (1, .int p1), (2, .int p2), (3, .int p3)] [] h (f_X8_law N h p1 p2 p3) := by
  have hS : ∀ i : Nat, i < 6 → i < xL X := fun i z => by rw [hL]; exact z
  unfold f_X8_law
  refine r_aload_n F 0 rfl dX8_law_0 rfl ?_
  refine r_iconst F (v := 0) dX8_law_1 (by decide) ?_
  refine r_putI F frX8_163 (by decide) rfl rfl dX8_law_2 fun h1 => ?_
  refine r_iload_n F 1 rfl dX8_law_5 rfl ?_
  refine r_iconst F (v := 0) dX8_law_6 (by decide) ?_
  refine r_iconst F (v := 3) dX8_law_7 (by decide) ?_
  refine k_zP (run_S F csX8_208 (c_X8_isIn (xG X) _ h1 p1 0 3) rfl rfl ⟨⟨rfl, rfl⟩, Nat.le_of_ble_eq_true rfl, Nat.le_of_ble_eq_true rfl⟩ (Nat.le_of_ble_eq_true rfl) dX8_law_8) fun v2 _ => ?_
  refine Wt_jn (fun (j23 : Option (Int64 × Hp)) => Wm X (fun v => some (.long v.1)) (fun v => v.2) (fun _ => True) 23 [] [] h1 (j23)) ?_ fun j23 hj23 => ?_
  · skip
    refine r_ldc2 F wd_1768 dX8_law_23 ?_
    exact r_lret F hA rfl rfl trivial dX8_law_26
  refine r_ifeq F (tgt := 23) dX8_law_11 (by decide) ?_ ?_
  · skip
    exact Wt_pick [] rfl (hj23)
  refine r_aload_n F 0 rfl dX8_law_14 rfl ?_
  refine r_getA F frX8_54 (by decide) dX8_law_15 ?_
  refine r_iload_n F 1 rfl dX8_law_18 rfl ?_
  refine r_baload F (ar_8_13 0 (by decide)) dX8_law_19 ?_
  refine r_ifne F (tgt := 27) dX8_law_20 (by decide) ?_ ?_
  · skip
    refine r_iload_n F 1 rfl dX8_law_27 rfl ?_
    refine r_iconst F (v := 2) dX8_law_28 (by decide) ?_
    refine Wt_jn (fun (j86 : Option (Int64 × Hp)) => Wm X (fun v => some (.long v.1)) (fun v => v.2) (fun _ => True) 86 [] [] h1 (j86)) ?_ fun j86 hj86 => ?_
    · skip
      refine r_ldc2 F wd_1768 dX8_law_86 ?_
      exact r_lret F hA rfl rfl trivial dX8_law_89
    refine Wt_jn (fun (j90 : Option (Int64 × Hp)) => Wm X (fun v => some (.long v.1)) (fun v => v.2) (fun _ => True) 90 [(0, .ref (adr (xG X) 8 0 0)), (1, .int p1), (2, .int p2), (3, .int p3)] [] h1 (j90)) ?_ fun j90 hj90 => ?_
    · skip
      refine r_iload_n F 1 rfl dX8_law_90 rfl ?_
      refine r_iconst F (v := 2) dX8_law_91 (by decide) ?_
      refine Wt_jn (fun (j136 : Hp → Option (Int64 × Hp)) => ∀ h3 : Hp, Wm X (fun v => some (.long v.1)) (fun v => v.2) (fun _ => True) 136 [(0, .ref (adr (xG X) 8 0 0)), (1, .int p1)] [] h3 (j136 h3)) ?_ fun j136 hj136 => ?_
      · intro h3
        refine r_aload_n F 0 rfl dX8_law_136 rfl ?_
        refine r_iload_n F 1 rfl dX8_law_137 rfl ?_
        refine k_lH (run_V F cvX8_398 (by decide) (c_X8_lawOf (xG X) _ N h3 p1) rfl rfl ⟨⟨rfl, rfl⟩, Nat.le_of_ble_eq_true rfl, Nat.le_of_ble_eq_true rfl⟩ (Nat.le_of_ble_eq_true rfl) dX8_law_138) fun v5 h4 => ?_
        refine r_lstore F [(4, .long v5), (0, .ref (adr (xG X) 8 0 0)), (1, .int p1)] rfl dX8_law_141 (hS _ (by decide)) ?_
        refine r_aload_n F 1 rfl dX8_law_143 rfl ?_
        refine r_getZ F frX8_341 (by decide) dX8_law_144 ?_
        refine Wt_jn (fun (j158 : Int64 → Option (Int64 × Hp)) => ∀ v6 : Int64, Wm X (fun v => some (.long v.1)) (fun v => v.2) (fun _ => True) 158 [] [.long v6] h4 (j158 v6)) ?_ fun j158 hj158 => ?_
        · intro v6
          exact r_lret F hA rfl rfl trivial dX8_law_158
        refine r_ifeq F (tgt := 156) dX8_law_147 (by decide) ?_ ?_
        · skip
          refine r_lload F 0 rfl dX8_law_156 ?_
          exact Wt_pick [] rfl (hj158 v5)
        refine r_ldc2 F wd_1768 dX8_law_150 ?_
        refine r_goto F (tgt := 158) dX8_law_153 (by decide) ?_
        exact Wt_pick [] rfl (hj158 ((-9223372036854775808 : Int64)))
      refine r_icmpge F (tgt := 110) dX8_law_92 (by decide) ?_ ?_
      · skip
        refine r_iload_n F 1 rfl dX8_law_110 rfl ?_
        refine r_iconst F (v := 2) dX8_law_111 (by decide) ?_
        refine r_icmpne F (tgt := 130) dX8_law_112 (by decide) ?_ ?_
        · skip
          refine r_aload_n F 0 rfl dX8_law_130 rfl ?_
          refine r_iconst F (v := 0) dX8_law_131 (by decide) ?_
          refine r_iload_n F 2 rfl dX8_law_132 rfl ?_
          refine k_vH (run_V F cvX8_408 (by decide) (c_X8_layField (xG X) _ h1 0 p2) rfl rfl ⟨⟨rfl, rfl⟩, Nat.le_of_ble_eq_true rfl, Nat.le_of_ble_eq_true rfl⟩ (Nat.le_of_ble_eq_true rfl) dX8_law_133) fun h7 => ?_
          exact Wt_pick [0, 1] rfl (hj136 h7)
        refine r_aload_n F 0 rfl dX8_law_115 rfl ?_
        refine r_iconst F (v := 0) dX8_law_116 (by decide) ?_
        refine r_aload_n F 0 rfl dX8_law_117 rfl ?_
        refine r_getA F frX8_85 (by decide) dX8_law_118 ?_
        refine r_iload_n F 2 rfl dX8_law_121 rfl ?_
        refine r_iaload F (ar_8_23 0 (by decide)) dX8_law_122 ?_
        refine r_iconst F (v := (-1)) dX8_law_123 (by decide) ?_
        refine k_vH (run_V F cvX8_391 (by decide) (c_X8_layNames (xG X) _ h1 0 (gA h1 8 0 23 p2.toNatClampNeg) (-1)) rfl rfl ⟨⟨rfl, rfl⟩, Nat.le_of_ble_eq_true rfl, Nat.le_of_ble_eq_true rfl⟩ (Nat.le_of_ble_eq_true rfl) dX8_law_124) fun h8 => ?_
        refine r_goto F (tgt := 136) dX8_law_127 (by decide) ?_
        exact Wt_pick [0, 1] rfl (hj136 h8)
      refine r_aload_n F 0 rfl dX8_law_95 rfl ?_
      refine r_iconst F (v := 0) dX8_law_96 (by decide) ?_
      refine r_aload_n F 0 rfl dX8_law_97 rfl ?_
      refine r_iconst F (v := 0) dX8_law_98 (by decide) ?_
      refine r_iload_n F 3 rfl dX8_law_99 rfl ?_
      refine k_iP (run_V F cvX8_401 (by decide) (c_X8_liesAt (xG X) _ h1 0 p3) rfl rfl ⟨⟨rfl, rfl⟩, Nat.le_of_ble_eq_true rfl, Nat.le_of_ble_eq_true rfl⟩ (Nat.le_of_ble_eq_true rfl) dX8_law_100) fun v9 _ => ?_
      refine r_iload_n F 2 rfl dX8_law_103 rfl ?_
      refine k_vH (run_V F cvX8_391 (by decide) (c_X8_layNames (xG X) _ h1 0 v9 p2) rfl rfl ⟨⟨rfl, rfl⟩, Nat.le_of_ble_eq_true rfl, Nat.le_of_ble_eq_true rfl⟩ (Nat.le_of_ble_eq_true rfl) dX8_law_104) fun h10 => ?_
      refine r_goto F (tgt := 136) dX8_law_107 (by decide) ?_
      exact Wt_pick [0, 1] rfl (hj136 h10)
    refine r_icmpge F (tgt := 62) dX8_law_29 (by decide) ?_ ?_
    · skip
      refine r_iload_n F 1 rfl dX8_law_62 rfl ?_
      refine r_iconst F (v := 2) dX8_law_63 (by decide) ?_
      refine r_icmpne F (tgt := 78) dX8_law_64 (by decide) ?_ ?_
      · skip
        refine r_aload_n F 0 rfl dX8_law_78 rfl ?_
        refine r_iload_n F 2 rfl dX8_law_79 rfl ?_
        refine k_zP (run_V F cvX8_468 (by decide) (c_X8_isField (xG X) _ h1 p2) rfl rfl ⟨⟨rfl, rfl⟩, Nat.le_of_ble_eq_true rfl, Nat.le_of_ble_eq_true rfl⟩ (Nat.le_of_ble_eq_true rfl) dX8_law_80) fun v11 _ => ?_
        refine r_ifne F (tgt := 90) dX8_law_83 (by decide) ?_ ?_
        · skip
          exact Wt_pick [0, 1, 2, 3] rfl (hj90)
        exact Wt_pick [] rfl (hj86)
      refine r_aload_n F 0 rfl dX8_law_67 rfl ?_
      refine r_iload_n F 2 rfl dX8_law_68 rfl ?_
      refine k_zP (run_V F cvX8_456 (by decide) (c_X8_isStripe (xG X) _ h1 p2) rfl rfl ⟨⟨rfl, rfl⟩, Nat.le_of_ble_eq_true rfl, Nat.le_of_ble_eq_true rfl⟩ (Nat.le_of_ble_eq_true rfl) dX8_law_69) fun v12 _ => ?_
      refine r_ifne F (tgt := 90) dX8_law_72 (by decide) ?_ ?_
      · skip
        exact Wt_pick [0, 1, 2, 3] rfl (hj90)
      refine r_goto F (tgt := 86) dX8_law_75 (by decide) ?_
      exact Wt_pick [] rfl (hj86)
    refine r_aload_n F 0 rfl dX8_law_32 rfl ?_
    refine r_iload_n F 2 rfl dX8_law_33 rfl ?_
    refine k_zP (run_V F cvX8_462 (by decide) (c_X8_isCroft (xG X) _ h1 p2) rfl rfl ⟨⟨rfl, rfl⟩, Nat.le_of_ble_eq_true rfl, Nat.le_of_ble_eq_true rfl⟩ (Nat.le_of_ble_eq_true rfl) dX8_law_34) fun v13 _ => ?_
    refine r_ifeq F (tgt := 86) dX8_law_37 (by decide) ?_ ?_
    · skip
      exact Wt_pick [] rfl (hj86)
    refine r_aload_n F 0 rfl dX8_law_40 rfl ?_
    refine r_iload_n F 3 rfl dX8_law_41 rfl ?_
    refine k_zP (run_V F cvX8_456 (by decide) (c_X8_isStripe (xG X) _ h1 p3) rfl rfl ⟨⟨rfl, rfl⟩, Nat.le_of_ble_eq_true rfl, Nat.le_of_ble_eq_true rfl⟩ (Nat.le_of_ble_eq_true rfl) dX8_law_42) fun v14 _ => ?_
    refine r_ifne F (tgt := 90) dX8_law_45 (by decide) ?_ ?_
    · skip
      exact Wt_pick [0, 1, 2, 3] rfl (hj90)
    refine r_iload_n F 1 rfl dX8_law_48 rfl ?_
    refine r_iconst F (v := 1) dX8_law_49 (by decide) ?_
    refine r_icmpeq F (tgt := 86) dX8_law_50 (by decide) ?_ ?_
    · skip
      exact Wt_pick [] rfl (hj86)
    refine r_iload_n F 3 rfl dX8_law_53 rfl ?_
    refine r_bipush F (v := (-3)) dX8_law_54 (by decide) ?_
    refine r_icmpeq F (tgt := 90) dX8_law_56 (by decide) ?_ ?_
    · skip
      exact Wt_pick [0, 1, 2, 3] rfl (hj90)
    refine r_goto F (tgt := 86) dX8_law_59 (by decide) ?_
    exact Wt_pick [] rfl (hj86)
  exact Wt_pick [] rfl (hj23)
theorem c_X8_law (G : Gx) (l : Launch) (N : Nat) (h : Hp) (p1 : Int32) (p2 : Int32) (p3 : Int32) : Ctr G l yX8_law (.code yX8_law cX8_law 6 (some .long) :: GT) rmX8_law [.ref (adr G 8 0 0), .int p1, .int p2, .int p3] h (f_X8_law N h p1 p2 p3) (fun v => some (.long v.1)) (fun v => v.2) (fun _ => True) :=
  ctr_of (by decide) (Nat.le_of_ble_eq_true rfl) ⟨rfl, rfl⟩ fun X _ e2 hA hL F => by subst e2; exact w_X8_law X F hA hL N h p1 p2 p3
def f_X8_put_39 (p1c : Nat) (p1o : Nat) (p1a : Nat) (p2 : Int32) (r39 : Int32 → Hp → Option Hp) (v3 : Int32) (h4 : Hp) : Option Hp :=
  if 8 ≤ v3 then
    grd (inb (p2 + 16) (ak p1c p1a).2) <| lt_ (sA h4 p1c p1o p1a (p2 + 16).toNatClampNeg (gI h4 8 0 61)) fun h5 =>
    some h5
  else
  grd (inb v3 16) <|
  grd (inb ((p2 + 8) + v3) (ak p1c p1a).2) <| lt_ (sA h4 p1c p1o p1a ((p2 + 8) + v3).toNatClampNeg (gA h4 8 0 24 v3.toNatClampNeg)) fun h6 =>
  lt_ (v3 + 1) fun v7 =>
  r39 v7 h6
def f_X8_put_2 (N : Nat) (p1c : Nat) (p1o : Nat) (p1a : Nat) (p2 : Int32) (r2 : Int32 → Hp → Option Hp) (v1 : Int32) (h2 : Hp) : Option Hp :=
  if 4 ≤ v1 then
    iter (fun _ _ => none) (f_X8_put_39 p1c p1o p1a p2) N 0 h2
  else
  grd (inb v1 8) <|
  grd (inb (p2 + v1) (ak p1c p1a).2) <| lt_ (sA h2 p1c p1o p1a (p2 + v1).toNatClampNeg (gA h2 8 0 27 v1.toNatClampNeg)) fun h8 =>
  grd (inb v1 8) <|
  grd (inb ((p2 + 4) + v1) (ak p1c p1a).2) <| lt_ (sA h8 p1c p1o p1a ((p2 + 4) + v1).toNatClampNeg (gA h8 8 0 25 v1.toNatClampNeg)) fun h9 =>
  lt_ (v1 + 1) fun v10 =>
  r2 v10 h9
def f_X8_put (N : Nat) (h : Hp) (p1c p1o p1a : Nat) (p2 : Int32) : Option Hp :=
  iter (fun _ _ => none) (f_X8_put_2 N p1c p1o p1a p2) N 0 h
abbrev rmX8_put : Room := { frames := 0, cells := 0, slots := 0, locals := 0 }
set_option maxRecDepth 100000 in
set_option maxHeartbeats 4000000 in
theorem w_X8_put (X : Cx) (F : Fx X cX8_put RX8 none rmX8_put) (hA : xA X = Aw (xG X)) (hL : xL X = 4) (N : Nat) (h : Hp) (p1c p1o p1a : Nat) (h_p1 : AR p1c p1o p1a 0 (ak p1c p1a).2) (p2 : Int32) : Wm X (fun _ => none) (fun v => v) (fun _ => True) 0 [(0, .ref (adr (xG X) 8 0 0)), (1, .ref (adr (xG X) p1c p1o (p1a + 1))), (2, .int p2)] [] h (f_X8_put N h p1c p1o p1a p2) := by
  have hS : ∀ i : Nat, i < 4 → i < xL X := fun i z => by rw [hL]; exact z
  unfold f_X8_put
  refine r_iconst F (v := 0) dX8_put_0 (by decide) ?_
  refine r_istore_n F [(3, .int 0), (0, .ref (adr (xG X) 8 0 0)), (1, .ref (adr (xG X) p1c p1o (p1a + 1))), (2, .int p2)] rfl dX8_put_1 rfl (hS _ (by decide)) ?_
  have hl2 : ∀ n : Nat, ∀ v1 : Int32, ∀ h2 : Hp, Wm X (fun _ => none) (fun v => v) (fun _ => True) 2 [(0, .ref (adr (xG X) 8 0 0)), (1, .ref (adr (xG X) p1c p1o (p1a + 1))), (2, .int p2), (3, .int v1)] [] h2 (iter (fun _ _ => none) (f_X8_put_2 N p1c p1o p1a p2) n v1 h2) := by
    intro n
    induction n with
    | zero => intro v1 h2; exact Wt_none
    | succ n ih =>
      revert ih
      show (∀ v1 : Int32, ∀ h2 : Hp, Wm X (fun _ => none) (fun v => v) (fun _ => True) 2 [(0, .ref (adr (xG X) 8 0 0)), (1, .ref (adr (xG X) p1c p1o (p1a + 1))), (2, .int p2), (3, .int v1)] [] h2 (iter (fun _ _ => none) (f_X8_put_2 N p1c p1o p1a p2) n v1 h2)) → _
      intro ih2 v1 h2
      show Wm X (fun _ => none) (fun v => v) (fun _ => True) 2 [(0, .ref (adr (xG X) 8 0 0)), (1, .ref (adr (xG X) p1c p1o (p1a + 1))), (2, .int p2), (3, .int v1)] [] h2 (f_X8_put_2 N p1c p1o p1a p2 (iter (fun _ _ => none) (f_X8_put_2 N p1c p1o p1a p2) n) v1 h2)
      revert ih2
      generalize iter (fun _ _ => none) (f_X8_put_2 N p1c p1o p1a p2) n = r2
      intro ih2
      unfold f_X8_put_2
      refine r_iload_n F 3 rfl dX8_put_2 rfl ?_
      refine r_iconst F (v := 4) dX8_put_3 (by decide) ?_
      refine r_icmpge F (tgt := 37) dX8_put_4 (by decide) ?_ ?_
      · skip
        refine r_iconst F (v := 0) dX8_put_37 (by decide) ?_
        refine r_istore_n F [(3, .int 0), (0, .ref (adr (xG X) 8 0 0)), (1, .ref (adr (xG X) p1c p1o (p1a + 1))), (2, .int p2)] rfl dX8_put_38 rfl (hS _ (by decide)) ?_
        have hl39 : ∀ n : Nat, ∀ v3 : Int32, ∀ h4 : Hp, Wm X (fun _ => none) (fun v => v) (fun _ => True) 39 [(0, .ref (adr (xG X) 8 0 0)), (1, .ref (adr (xG X) p1c p1o (p1a + 1))), (2, .int p2), (3, .int v3)] [] h4 (iter (fun _ _ => none) (f_X8_put_39 p1c p1o p1a p2) n v3 h4) := by
          intro n
          induction n with
          | zero => intro v3 h4; exact Wt_none
          | succ n ih =>
            revert ih
            show (∀ v3 : Int32, ∀ h4 : Hp, Wm X (fun _ => none) (fun v => v) (fun _ => True) 39 [(0, .ref (adr (xG X) 8 0 0)), (1, .ref (adr (xG X) p1c p1o (p1a + 1))), (2, .int p2), (3, .int v3)] [] h4 (iter (fun _ _ => none) (f_X8_put_39 p1c p1o p1a p2) n v3 h4)) → _
            intro ih39 v3 h4
            show Wm X (fun _ => none) (fun v => v) (fun _ => True) 39 [(0, .ref (adr (xG X) 8 0 0)), (1, .ref (adr (xG X) p1c p1o (p1a + 1))), (2, .int p2), (3, .int v3)] [] h4 (f_X8_put_39 p1c p1o p1a p2 (iter (fun _ _ => none) (f_X8_put_39 p1c p1o p1a p2) n) v3 h4)
            revert ih39
            generalize iter (fun _ _ => none) (f_X8_put_39 p1c p1o p1a p2) n = r39
            intro ih39
            unfold f_X8_put_39
            refine r_iload_n F 3 rfl dX8_put_39 rfl ?_
            refine r_bipush F (v := 8) dX8_put_40 (by decide) ?_
            refine r_icmpge F (tgt := 65) dX8_put_42 (by decide) ?_ ?_
            · skip
              refine r_aload_n F 1 rfl dX8_put_65 rfl ?_
              refine r_iload_n F 2 rfl dX8_put_66 rfl ?_
              refine r_bipush F (v := 16) dX8_put_67 (by decide) ?_
              refine r_iadd F dX8_put_69 ?_
              refine r_aload_n F 0 rfl dX8_put_70 rfl ?_
              refine r_getI F frX8_363 (by decide) dX8_put_71 ?_
              refine r_iastore F h_p1 dX8_put_74 fun h5 => ?_
              exact r_vret F hA rfl rfl trivial dX8_put_75
            refine r_aload_n F 1 rfl dX8_put_45 rfl ?_
            refine r_iload_n F 2 rfl dX8_put_46 rfl ?_
            refine r_bipush F (v := 8) dX8_put_47 (by decide) ?_
            refine r_iadd F dX8_put_49 ?_
            refine r_iload_n F 3 rfl dX8_put_50 rfl ?_
            refine r_iadd F dX8_put_51 ?_
            refine r_aload_n F 0 rfl dX8_put_52 rfl ?_
            refine r_getA F frX8_88 (by decide) dX8_put_53 ?_
            refine r_iload_n F 3 rfl dX8_put_56 rfl ?_
            refine r_iaload F (ar_8_24 0 (by decide)) dX8_put_57 ?_
            refine r_iastore F h_p1 dX8_put_58 fun h6 => ?_
            refine r_iinc F (v := 1) 3 rfl (by decide) (fun v7 => [(3, .int v7), (0, .ref (adr (xG X) 8 0 0)), (1, .ref (adr (xG X) p1c p1o (p1a + 1))), (2, .int p2)]) (fun _ => rfl) dX8_put_59 (hS _ (by decide)) fun v7 => ?_
            refine r_goto F (tgt := 39) dX8_put_62 (by decide) ?_
            exact Wt_pick [1, 2, 3, 0] rfl (ih39 v7 h6)
        exact Wt_pick [1, 2, 3, 0] rfl (hl39 N 0 h2)
      refine r_aload_n F 1 rfl dX8_put_7 rfl ?_
      refine r_iload_n F 2 rfl dX8_put_8 rfl ?_
      refine r_iload_n F 3 rfl dX8_put_9 rfl ?_
      refine r_iadd F dX8_put_10 ?_
      refine r_aload_n F 0 rfl dX8_put_11 rfl ?_
      refine r_getA F frX8_97 (by decide) dX8_put_12 ?_
      refine r_iload_n F 3 rfl dX8_put_15 rfl ?_
      refine r_iaload F (ar_8_27 0 (by decide)) dX8_put_16 ?_
      refine r_iastore F h_p1 dX8_put_17 fun h8 => ?_
      refine r_aload_n F 1 rfl dX8_put_18 rfl ?_
      refine r_iload_n F 2 rfl dX8_put_19 rfl ?_
      refine r_iconst F (v := 4) dX8_put_20 (by decide) ?_
      refine r_iadd F dX8_put_21 ?_
      refine r_iload_n F 3 rfl dX8_put_22 rfl ?_
      refine r_iadd F dX8_put_23 ?_
      refine r_aload_n F 0 rfl dX8_put_24 rfl ?_
      refine r_getA F frX8_91 (by decide) dX8_put_25 ?_
      refine r_iload_n F 3 rfl dX8_put_28 rfl ?_
      refine r_iaload F (ar_8_25 0 (by decide)) dX8_put_29 ?_
      refine r_iastore F h_p1 dX8_put_30 fun h9 => ?_
      refine r_iinc F (v := 1) 3 rfl (by decide) (fun v10 => [(3, .int v10), (0, .ref (adr (xG X) 8 0 0)), (1, .ref (adr (xG X) p1c p1o (p1a + 1))), (2, .int p2)]) (fun _ => rfl) dX8_put_31 (hS _ (by decide)) fun v10 => ?_
      refine r_goto F (tgt := 2) dX8_put_34 (by decide) ?_
      exact Wt_pick [1, 2, 3, 0] rfl (ih2 v10 h9)
  exact Wt_pick [1, 2, 3, 0] rfl (hl2 N 0 h)
theorem c_X8_put (G : Gx) (l : Launch) (N : Nat) (h : Hp) (p1c p1o p1a : Nat) (h_p1 : AR p1c p1o p1a 0 (ak p1c p1a).2) (p2 : Int32) : Ctr G l yX8_put (.code yX8_put cX8_put 4 none :: GT) rmX8_put [.ref (adr G 8 0 0), .ref (adr G p1c p1o (p1a + 1)), .int p2] h (f_X8_put N h p1c p1o p1a p2) (fun _ => none) (fun v => v) (fun _ => True) :=
  ctr_of (by decide) (Nat.le_of_ble_eq_true rfl) ⟨rfl, rfl⟩ fun X _ e2 hA hL F => by subst e2; exact w_X8_put X F hA hL N h p1c p1o p1a h_p1 p2
def f_X8_remember_11 (j49 : Hp → Option Hp) (r11 : Int32 → Hp → Option Hp) (v4 : Int32) (h5 : Hp) : Option Hp :=
  if 323 ≤ v4 then
    lt_ (sI h5 8 0 76 ((gI h5 8 0 76) - 1)) fun h6 =>
    j49 h6
  else
  grd (inb (v4 + 17) 340) <|
  grd (inb v4 340) <| lt_ (sA h5 8 0 39 v4.toNatClampNeg (gA h5 8 0 39 (v4 + 17).toNatClampNeg)) fun h7 =>
  lt_ (v4 + 1) fun v8 =>
  r11 v8 h7
def f_X8_remember (N : Nat) (h : Hp) : Option Hp :=
  jn (fun (h1 : Hp) =>
    (f_X8_put N h1 8 0 39 (17 * (gI h1 8 0 76))).bind fun h2 =>
    lt_ (sI h2 8 0 76 ((gI h2 8 0 76) + 1)) fun h3 =>
    some h3) fun (j49 : Hp → Option Hp) =>
  if ¬ (gI h 8 0 76) = 20 then
    j49 h
  else
  iter (fun _ _ => none) (f_X8_remember_11 j49) N 0 h
abbrev rmX8_remember : Room := { frames := 1, cells := 0, slots := 0, locals := 23 }
set_option maxRecDepth 100000 in
set_option maxHeartbeats 4000000 in
theorem w_X8_remember (X : Cx) (F : Fx X cX8_remember RX8 none rmX8_remember) (hA : xA X = Aw (xG X)) (hL : xL X = 2) (N : Nat) (h : Hp) : Wm X (fun _ => none) (fun v => v) (fun _ => True) 0 [(0, .ref (adr (xG X) 8 0 0))] [] h (f_X8_remember N h) := by
  have hS : ∀ i : Nat, i < 2 → i < xL X := fun i z => by rw [hL]; exact z
  unfold f_X8_remember
  refine r_aload_n F 0 rfl dX8_remember_0 rfl ?_
  refine r_getI F frX8_376 (by decide) dX8_remember_1 ?_
  refine r_bipush F (v := 20) dX8_remember_4 (by decide) ?_
  refine Wt_jn (fun (j49 : Hp → Option Hp) => ∀ h1 : Hp, Wm X (fun _ => none) (fun v => v) (fun _ => True) 49 [(0, .ref (adr (xG X) 8 0 0))] [] h1 (j49 h1)) ?_ fun j49 hj49 => ?_
  · intro h1
    refine r_aload_n F 0 rfl dX8_remember_49 rfl ?_
    refine r_aload_n F 0 rfl dX8_remember_50 rfl ?_
    refine r_getA F frX8_139 (by decide) dX8_remember_51 ?_
    refine r_bipush F (v := 17) dX8_remember_54 (by decide) ?_
    refine r_aload_n F 0 rfl dX8_remember_56 rfl ?_
    refine r_getI F frX8_376 (by decide) dX8_remember_57 ?_
    refine r_imul F dX8_remember_60 ?_
    refine k_vH (run_V F cvX8_547 (by decide) (c_X8_put (xG X) _ N h1 8 0 39 (ar_8_39 0 (by decide)) (17 * (gI h1 8 0 76))) rfl rfl ⟨⟨rfl, rfl⟩, Nat.le_of_ble_eq_true rfl, Nat.le_of_ble_eq_true rfl⟩ (Nat.le_of_ble_eq_true rfl) dX8_remember_61) fun h2 => ?_
    refine r_aload_n F 0 rfl dX8_remember_64 rfl ?_
    refine r_dup F rfl dX8_remember_65 ?_
    refine r_getI F frX8_376 (by decide) dX8_remember_66 ?_
    refine r_iconst F (v := 1) dX8_remember_69 (by decide) ?_
    refine r_iadd F dX8_remember_70 ?_
    refine r_putI F frX8_376 (by decide) rfl rfl dX8_remember_71 fun h3 => ?_
    exact r_vret F hA rfl rfl trivial dX8_remember_74
  refine r_icmpne F (tgt := 49) dX8_remember_6 (by decide) ?_ ?_
  · skip
    exact Wt_pick [0] rfl (hj49 h)
  refine r_iconst F (v := 0) dX8_remember_9 (by decide) ?_
  refine r_istore_n F [(1, .int 0), (0, .ref (adr (xG X) 8 0 0))] rfl dX8_remember_10 rfl (hS _ (by decide)) ?_
  have hl11 : ∀ n : Nat, ∀ v4 : Int32, ∀ h5 : Hp, Wm X (fun _ => none) (fun v => v) (fun _ => True) 11 [(0, .ref (adr (xG X) 8 0 0)), (1, .int v4)] [] h5 (iter (fun _ _ => none) (f_X8_remember_11 j49) n v4 h5) := by
    intro n
    induction n with
    | zero => intro v4 h5; exact Wt_none
    | succ n ih =>
      revert ih
      show (∀ v4 : Int32, ∀ h5 : Hp, Wm X (fun _ => none) (fun v => v) (fun _ => True) 11 [(0, .ref (adr (xG X) 8 0 0)), (1, .int v4)] [] h5 (iter (fun _ _ => none) (f_X8_remember_11 j49) n v4 h5)) → _
      intro ih11 v4 h5
      show Wm X (fun _ => none) (fun v => v) (fun _ => True) 11 [(0, .ref (adr (xG X) 8 0 0)), (1, .int v4)] [] h5 (f_X8_remember_11 j49 (iter (fun _ _ => none) (f_X8_remember_11 j49) n) v4 h5)
      revert ih11
      generalize iter (fun _ _ => none) (f_X8_remember_11 j49) n = r11
      intro ih11
      unfold f_X8_remember_11
      refine r_iload_n F 1 rfl dX8_remember_11 rfl ?_
      refine r_sipush F (v := 323) dX8_remember_12 (by decide) ?_
      refine r_icmpge F (tgt := 39) dX8_remember_15 (by decide) ?_ ?_
      · skip
        refine r_aload_n F 0 rfl dX8_remember_39 rfl ?_
        refine r_dup F rfl dX8_remember_40 ?_
        refine r_getI F frX8_376 (by decide) dX8_remember_41 ?_
        refine r_iconst F (v := 1) dX8_remember_44 (by decide) ?_
        refine r_isub F dX8_remember_45 ?_
        refine r_putI F frX8_376 (by decide) rfl rfl dX8_remember_46 fun h6 => ?_
        exact Wt_pick [0] rfl (hj49 h6)
      refine r_aload_n F 0 rfl dX8_remember_18 rfl ?_
      refine r_getA F frX8_139 (by decide) dX8_remember_19 ?_
      refine r_iload_n F 1 rfl dX8_remember_22 rfl ?_
      refine r_aload_n F 0 rfl dX8_remember_23 rfl ?_
      refine r_getA F frX8_139 (by decide) dX8_remember_24 ?_
      refine r_iload_n F 1 rfl dX8_remember_27 rfl ?_
      refine r_bipush F (v := 17) dX8_remember_28 (by decide) ?_
      refine r_iadd F dX8_remember_30 ?_
      refine r_iaload F (ar_8_39 0 (by decide)) dX8_remember_31 ?_
      refine r_iastore F (ar_8_39 0 (by decide)) dX8_remember_32 fun h7 => ?_
      refine r_iinc F (v := 1) 1 rfl (by decide) (fun v8 => [(1, .int v8), (0, .ref (adr (xG X) 8 0 0))]) (fun _ => rfl) dX8_remember_33 (hS _ (by decide)) fun v8 => ?_
      refine r_goto F (tgt := 11) dX8_remember_36 (by decide) ?_
      exact Wt_pick [1, 0] rfl (ih11 v8 h7)
  exact Wt_pick [1, 0] rfl (hl11 N 0 h)
theorem c_X8_remember (G : Gx) (l : Launch) (N : Nat) (h : Hp) : Ctr G l yX8_remember (.code yX8_remember cX8_remember 2 none :: GT) rmX8_remember [.ref (adr G 8 0 0)] h (f_X8_remember N h) (fun _ => none) (fun v => v) (fun _ => True) :=
  ctr_of (by decide) (Nat.le_of_ble_eq_true rfl) ⟨rfl, rfl⟩ fun X _ e2 hA hL F => by subst e2; exact w_X8_remember X F hA hL N h
