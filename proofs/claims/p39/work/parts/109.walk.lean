theorem dX7_feed_0 : decode cX7_feed 0 = .ok (.aload_n 0, 1) := by decide +kernel
theorem dX7_feed_1 : decode cX7_feed 1 = .ok (.getfield 10, 3) := by decide +kernel
theorem dX7_feed_4 : decode cX7_feed 4 = .ok (.getfield 86, 3) := by decide +kernel
theorem dX7_feed_7 : decode cX7_feed 7 = .ok (.bipush 20, 2) := by decide +kernel
theorem dX7_feed_9 : decode cX7_feed 9 = .ok (.iadd, 1) := by decide +kernel
theorem dX7_feed_10 : decode cX7_feed 10 = .ok (.sipush 700, 3) := by decide +kernel
theorem dX7_feed_13 : decode cX7_feed 13 = .ok (.if_icmp .le 5, 3) := by decide +kernel
theorem dX7_feed_16 : decode cX7_feed 16 = .ok (.iconst (-1), 1) := by decide +kernel
theorem dX7_feed_17 : decode cX7_feed 17 = .ok (.ireturn, 1) := by decide +kernel
theorem dX7_feed_18 : decode cX7_feed 18 = .ok (.aload_n 0, 1) := by decide +kernel
theorem dX7_feed_19 : decode cX7_feed 19 = .ok (.getfield 10, 3) := by decide +kernel
theorem dX7_feed_22 : decode cX7_feed 22 = .ok (.iload_n 1, 1) := by decide +kernel
theorem dX7_feed_23 : decode cX7_feed 23 = .ok (.invokevirtual 89, 3) := by decide +kernel
theorem dX7_feed_26 : decode cX7_feed 26 = .ok (.aload_n 0, 1) := by decide +kernel
theorem dX7_feed_27 : decode cX7_feed 27 = .ok (.getfield 10, 3) := by decide +kernel
theorem dX7_feed_30 : decode cX7_feed 30 = .ok (.iload_n 2, 1) := by decide +kernel
theorem dX7_feed_31 : decode cX7_feed 31 = .ok (.invokevirtual 89, 3) := by decide +kernel
theorem dX7_feed_34 : decode cX7_feed 34 = .ok (.aload_n 0, 1) := by decide +kernel
theorem dX7_feed_35 : decode cX7_feed 35 = .ok (.getfield 10, 3) := by decide +kernel
theorem dX7_feed_38 : decode cX7_feed 38 = .ok (.iload_n 3, 1) := by decide +kernel
theorem dX7_feed_39 : decode cX7_feed 39 = .ok (.invokevirtual 89, 3) := by decide +kernel
theorem dX7_feed_42 : decode cX7_feed 42 = .ok (.aload_n 0, 1) := by decide +kernel
theorem dX7_feed_43 : decode cX7_feed 43 = .ok (.getfield 10, 3) := by decide +kernel
theorem dX7_feed_46 : decode cX7_feed 46 = .ok (.iload 4, 2) := by decide +kernel
theorem dX7_feed_48 : decode cX7_feed 48 = .ok (.invokevirtual 89, 3) := by decide +kernel
theorem dX7_feed_51 : decode cX7_feed 51 = .ok (.aload_n 0, 1) := by decide +kernel
theorem dX7_feed_52 : decode cX7_feed 52 = .ok (.getfield 10, 3) := by decide +kernel
theorem dX7_feed_55 : decode cX7_feed 55 = .ok (.iload 5, 2) := by decide +kernel
theorem dX7_feed_57 : decode cX7_feed 57 = .ok (.invokevirtual 89, 3) := by decide +kernel
theorem dX7_feed_60 : decode cX7_feed 60 = .ok (.aload_n 0, 1) := by decide +kernel
theorem dX7_feed_61 : decode cX7_feed 61 = .ok (.getfield 10, 3) := by decide +kernel
theorem dX7_feed_64 : decode cX7_feed 64 = .ok (.getfield 86, 3) := by decide +kernel
theorem dX7_feed_67 : decode cX7_feed 67 = .ok (.ireturn, 1) := by decide +kernel
theorem dX7_text_0 : decode cX7_text 0 = .ok (.iload_n 1, 1) := by decide +kernel
theorem dX7_text_1 : decode cX7_text 1 = .ok (.ifCond .lt 14, 3) := by decide +kernel
theorem dX7_text_4 : decode cX7_text 4 = .ok (.iload_n 1, 1) := by decide +kernel
theorem dX7_text_5 : decode cX7_text 5 = .ok (.aload_n 0, 1) := by decide +kernel
theorem dX7_text_6 : decode cX7_text 6 = .ok (.getfield 10, 3) := by decide +kernel
theorem dX7_text_9 : decode cX7_text 9 = .ok (.getfield 86, 3) := by decide +kernel
theorem dX7_text_12 : decode cX7_text 12 = .ok (.if_icmp .le 6, 3) := by decide +kernel
theorem dX7_text_15 : decode cX7_text 15 = .ok (.bipush (-2), 2) := by decide +kernel
theorem dX7_text_17 : decode cX7_text 17 = .ok (.ireturn, 1) := by decide +kernel
theorem dX7_text_18 : decode cX7_text 18 = .ok (.aload_n 0, 1) := by decide +kernel
theorem dX7_text_19 : decode cX7_text 19 = .ok (.getfield 19, 3) := by decide +kernel
theorem dX7_text_22 : decode cX7_text 22 = .ok (.aload_n 0, 1) := by decide +kernel
theorem dX7_text_23 : decode cX7_text 23 = .ok (.getfield 10, 3) := by decide +kernel
theorem dX7_text_26 : decode cX7_text 26 = .ok (.iload_n 1, 1) := by decide +kernel
theorem dX7_text_27 : decode cX7_text 27 = .ok (.aload_n 0, 1) := by decide +kernel
theorem dX7_text_28 : decode cX7_text 28 = .ok (.getfield 60, 3) := by decide +kernel
theorem dX7_text_31 : decode cX7_text 31 = .ok (.invokevirtual 93, 3) := by decide +kernel
theorem dX7_text_34 : decode cX7_text 34 = .ok (.istore_n 2, 1) := by decide +kernel
theorem dX7_text_35 : decode cX7_text 35 = .ok (.aload_n 0, 1) := by decide +kernel
theorem dX7_text_36 : decode cX7_text 36 = .ok (.getfield 10, 3) := by decide +kernel
theorem dX7_text_39 : decode cX7_text 39 = .ok (.iconst 0, 1) := by decide +kernel
theorem dX7_text_40 : decode cX7_text 40 = .ok (.putfield 86, 3) := by decide +kernel
theorem dX7_text_43 : decode cX7_text 43 = .ok (.aload_n 0, 1) := by decide +kernel
theorem dX7_text_44 : decode cX7_text 44 = .ok (.aload_n 0, 1) := by decide +kernel
theorem dX7_text_45 : decode cX7_text 45 = .ok (.getfield 19, 3) := by decide +kernel
theorem dX7_text_48 : decode cX7_text 48 = .ok (.getfield 97, 3) := by decide +kernel
theorem dX7_text_51 : decode cX7_text 51 = .ok (.putfield 100, 3) := by decide +kernel
theorem dX7_text_54 : decode cX7_text 54 = .ok (.aload_n 0, 1) := by decide +kernel
theorem dX7_text_55 : decode cX7_text 55 = .ok (.aload_n 0, 1) := by decide +kernel
theorem dX7_text_56 : decode cX7_text 56 = .ok (.getfield 19, 3) := by decide +kernel
theorem dX7_text_59 : decode cX7_text 59 = .ok (.getfield 103, 3) := by decide +kernel
theorem dX7_text_62 : decode cX7_text 62 = .ok (.putfield 82, 3) := by decide +kernel
theorem dX7_text_65 : decode cX7_text 65 = .ok (.iload_n 2, 1) := by decide +kernel
theorem dX7_text_66 : decode cX7_text 66 = .ok (.ifCond .ne 5, 3) := by decide +kernel
theorem dX7_text_69 : decode cX7_text 69 = .ok (.iconst (-1), 1) := by decide +kernel
theorem dX7_text_70 : decode cX7_text 70 = .ok (.ireturn, 1) := by decide +kernel
theorem dX7_text_71 : decode cX7_text 71 = .ok (.aload_n 0, 1) := by decide +kernel
theorem dX7_text_72 : decode cX7_text 72 = .ok (.getfield 56, 3) := by decide +kernel
theorem dX7_text_75 : decode cX7_text 75 = .ok (.astore_n 3, 1) := by decide +kernel
theorem dX7_text_76 : decode cX7_text 76 = .ok (.aload_n 0, 1) := by decide +kernel
theorem dX7_text_77 : decode cX7_text 77 = .ok (.aload_n 0, 1) := by decide +kernel
theorem dX7_text_78 : decode cX7_text 78 = .ok (.getfield 60, 3) := by decide +kernel
theorem dX7_text_81 : decode cX7_text 81 = .ok (.putfield 56, 3) := by decide +kernel
theorem dX7_text_84 : decode cX7_text 84 = .ok (.aload_n 0, 1) := by decide +kernel
theorem dX7_text_85 : decode cX7_text 85 = .ok (.aload_n 3, 1) := by decide +kernel
theorem dX7_text_86 : decode cX7_text 86 = .ok (.putfield 60, 3) := by decide +kernel
theorem dX7_text_89 : decode cX7_text 89 = .ok (.aload_n 0, 1) := by decide +kernel
theorem dX7_text_90 : decode cX7_text 90 = .ok (.getfield 68, 3) := by decide +kernel
theorem dX7_text_93 : decode cX7_text 93 = .ok (.aload_n 0, 1) := by decide +kernel
theorem dX7_text_94 : decode cX7_text 94 = .ok (.getfield 56, 3) := by decide +kernel
theorem dX7_text_97 : decode cX7_text 97 = .ok (.invokevirtual 106, 3) := by decide +kernel
theorem dX7_text_100 : decode cX7_text 100 = .ok (.aload_n 0, 1) := by decide +kernel
theorem dX7_text_101 : decode cX7_text 101 = .ok (.getfield 72, 3) := by decide +kernel
theorem dX7_text_104 : decode cX7_text 104 = .ok (.aload_n 0, 1) := by decide +kernel
theorem dX7_text_105 : decode cX7_text 105 = .ok (.getfield 68, 3) := by decide +kernel
theorem dX7_text_108 : decode cX7_text 108 = .ok (.invokevirtual 109, 3) := by decide +kernel
theorem dX7_text_111 : decode cX7_text 111 = .ok (.aload_n 0, 1) := by decide +kernel
theorem dX7_text_112 : decode cX7_text 112 = .ok (.iconst 0, 1) := by decide +kernel
theorem dX7_text_113 : decode cX7_text 113 = .ok (.putfield 113, 3) := by decide +kernel
theorem dX7_text_116 : decode cX7_text 116 = .ok (.aload_n 0, 1) := by decide +kernel
theorem dX7_text_117 : decode cX7_text 117 = .ok (.getfield 33, 3) := by decide +kernel
theorem dX7_text_120 : decode cX7_text 120 = .ok (.iconst 0, 1) := by decide +kernel
theorem dX7_text_121 : decode cX7_text 121 = .ok (.putfield 117, 3) := by decide +kernel
theorem dX7_text_124 : decode cX7_text 124 = .ok (.aload_n 0, 1) := by decide +kernel
theorem dX7_text_125 : decode cX7_text 125 = .ok (.getfield 26, 3) := by decide +kernel
theorem dX7_text_128 : decode cX7_text 128 = .ok (.invokevirtual 120, 3) := by decide +kernel
theorem dX7_text_131 : decode cX7_text 131 = .ok (.aload_n 0, 1) := by decide +kernel
theorem dX7_text_132 : decode cX7_text 132 = .ok (.getfield 56, 3) := by decide +kernel
theorem dX7_text_135 : decode cX7_text 135 = .ok (.getfield 123, 3) := by decide +kernel
theorem dX7_text_138 : decode cX7_text 138 = .ok (.ireturn, 1) := by decide +kernel
theorem dX7_isCroft_0 : decode cX7_isCroft 0 = .ok (.iload_n 1, 1) := by decide +kernel
theorem dX7_isCroft_1 : decode cX7_isCroft 1 = .ok (.ifCond .lt 18, 3) := by decide +kernel
theorem dX7_isCroft_4 : decode cX7_isCroft 4 = .ok (.iload_n 1, 1) := by decide +kernel
theorem dX7_isCroft_5 : decode cX7_isCroft 5 = .ok (.aload_n 0, 1) := by decide +kernel
theorem dX7_isCroft_6 : decode cX7_isCroft 6 = .ok (.getfield 56, 3) := by decide +kernel
theorem dX7_isCroft_9 : decode cX7_isCroft 9 = .ok (.getfield 315, 3) := by decide +kernel
theorem dX7_isCroft_12 : decode cX7_isCroft 12 = .ok (.if_icmp .ge 7, 3) := by decide +kernel
theorem dX7_isCroft_15 : decode cX7_isCroft 15 = .ok (.iconst 1, 1) := by decide +kernel
theorem dX7_isCroft_16 : decode cX7_isCroft 16 = .ok (.goto 4, 3) := by decide +kernel
theorem dX7_isCroft_19 : decode cX7_isCroft 19 = .ok (.iconst 0, 1) := by decide +kernel
theorem dX7_isCroft_20 : decode cX7_isCroft 20 = .ok (.ireturn, 1) := by decide +kernel
theorem dX7_croft_0 : decode cX7_croft 0 = .ok (.aload_n 0, 1) := by decide +kernel
theorem dX7_croft_1 : decode cX7_croft 1 = .ok (.iload_n 1, 1) := by decide +kernel
theorem dX7_croft_2 : decode cX7_croft 2 = .ok (.invokevirtual 152, 3) := by decide +kernel
theorem dX7_croft_5 : decode cX7_croft 5 = .ok (.ifCond .ne 5, 3) := by decide +kernel
theorem dX7_croft_8 : decode cX7_croft 8 = .ok (.iconst (-1), 1) := by decide +kernel
theorem dX7_croft_9 : decode cX7_croft 9 = .ok (.ireturn, 1) := by decide +kernel
theorem dX7_croft_10 : decode cX7_croft 10 = .ok (.iload_n 2, 1) := by decide +kernel
theorem dX7_croft_11 : decode cX7_croft 11 = .ok (.tableswitch 110 0 6 #[41, 51, 61, 71, 81, 91, 101], 41) := by decide +kernel
theorem dX7_croft_52 : decode cX7_croft 52 = .ok (.aload_n 0, 1) := by decide +kernel
theorem dX7_croft_53 : decode cX7_croft 53 = .ok (.getfield 72, 3) := by decide +kernel
theorem dX7_croft_56 : decode cX7_croft 56 = .ok (.getfield 155, 3) := by decide +kernel
theorem dX7_croft_59 : decode cX7_croft 59 = .ok (.iload_n 1, 1) := by decide +kernel
theorem dX7_croft_60 : decode cX7_croft 60 = .ok (.iaload, 1) := by decide +kernel
theorem dX7_croft_61 : decode cX7_croft 61 = .ok (.ireturn, 1) := by decide +kernel
theorem dX7_croft_62 : decode cX7_croft 62 = .ok (.aload_n 0, 1) := by decide +kernel
theorem dX7_croft_63 : decode cX7_croft 63 = .ok (.getfield 72, 3) := by decide +kernel
theorem dX7_croft_66 : decode cX7_croft 66 = .ok (.getfield 158, 3) := by decide +kernel
theorem dX7_croft_69 : decode cX7_croft 69 = .ok (.iload_n 1, 1) := by decide +kernel
theorem dX7_croft_70 : decode cX7_croft 70 = .ok (.iaload, 1) := by decide +kernel
theorem dX7_croft_71 : decode cX7_croft 71 = .ok (.ireturn, 1) := by decide +kernel
theorem dX7_croft_72 : decode cX7_croft 72 = .ok (.aload_n 0, 1) := by decide +kernel
theorem dX7_croft_73 : decode cX7_croft 73 = .ok (.getfield 72, 3) := by decide +kernel
theorem dX7_croft_76 : decode cX7_croft 76 = .ok (.getfield 161, 3) := by decide +kernel
theorem dX7_croft_79 : decode cX7_croft 79 = .ok (.iload_n 1, 1) := by decide +kernel
theorem dX7_croft_80 : decode cX7_croft 80 = .ok (.iaload, 1) := by decide +kernel
theorem dX7_croft_81 : decode cX7_croft 81 = .ok (.ireturn, 1) := by decide +kernel
theorem dX7_croft_82 : decode cX7_croft 82 = .ok (.aload_n 0, 1) := by decide +kernel
theorem dX7_croft_83 : decode cX7_croft 83 = .ok (.getfield 72, 3) := by decide +kernel
theorem dX7_croft_86 : decode cX7_croft 86 = .ok (.getfield 164, 3) := by decide +kernel
theorem dX7_croft_89 : decode cX7_croft 89 = .ok (.iload_n 1, 1) := by decide +kernel
theorem dX7_croft_90 : decode cX7_croft 90 = .ok (.iaload, 1) := by decide +kernel
theorem dX7_croft_91 : decode cX7_croft 91 = .ok (.ireturn, 1) := by decide +kernel
theorem dX7_croft_92 : decode cX7_croft 92 = .ok (.aload_n 0, 1) := by decide +kernel
theorem dX7_croft_93 : decode cX7_croft 93 = .ok (.getfield 72, 3) := by decide +kernel
theorem dX7_croft_96 : decode cX7_croft 96 = .ok (.getfield 167, 3) := by decide +kernel
theorem dX7_croft_99 : decode cX7_croft 99 = .ok (.iload_n 1, 1) := by decide +kernel
theorem dX7_croft_100 : decode cX7_croft 100 = .ok (.iaload, 1) := by decide +kernel
theorem dX7_croft_101 : decode cX7_croft 101 = .ok (.ireturn, 1) := by decide +kernel
theorem dX7_croft_102 : decode cX7_croft 102 = .ok (.aload_n 0, 1) := by decide +kernel
theorem dX7_croft_103 : decode cX7_croft 103 = .ok (.getfield 72, 3) := by decide +kernel
theorem dX7_croft_106 : decode cX7_croft 106 = .ok (.getfield 170, 3) := by decide +kernel
theorem dX7_croft_109 : decode cX7_croft 109 = .ok (.iload_n 1, 1) := by decide +kernel
theorem dX7_croft_110 : decode cX7_croft 110 = .ok (.iaload, 1) := by decide +kernel
theorem dX7_croft_111 : decode cX7_croft 111 = .ok (.ireturn, 1) := by decide +kernel
theorem dX7_croft_112 : decode cX7_croft 112 = .ok (.aload_n 0, 1) := by decide +kernel
theorem dX7_croft_113 : decode cX7_croft 113 = .ok (.getfield 72, 3) := by decide +kernel
theorem dX7_croft_116 : decode cX7_croft 116 = .ok (.iload_n 1, 1) := by decide +kernel
theorem dX7_croft_117 : decode cX7_croft 117 = .ok (.invokevirtual 173, 3) := by decide +kernel
theorem dX7_croft_120 : decode cX7_croft 120 = .ok (.ireturn, 1) := by decide +kernel
theorem dX7_croft_121 : decode cX7_croft 121 = .ok (.iconst (-1), 1) := by decide +kernel
theorem dX7_croft_122 : decode cX7_croft 122 = .ok (.ireturn, 1) := by decide +kernel
theorem dX7_isField_0 : decode cX7_isField 0 = .ok (.iload_n 1, 1) := by decide +kernel
theorem dX7_isField_1 : decode cX7_isField 1 = .ok (.ifCond .lt 18, 3) := by decide +kernel
theorem dX7_isField_4 : decode cX7_isField 4 = .ok (.iload_n 1, 1) := by decide +kernel
theorem dX7_isField_5 : decode cX7_isField 5 = .ok (.aload_n 0, 1) := by decide +kernel
theorem dX7_isField_6 : decode cX7_isField 6 = .ok (.getfield 56, 3) := by decide +kernel
theorem dX7_isField_9 : decode cX7_isField 9 = .ok (.getfield 362, 3) := by decide +kernel
theorem dX7_isField_12 : decode cX7_isField 12 = .ok (.if_icmp .ge 7, 3) := by decide +kernel
theorem dX7_isField_15 : decode cX7_isField 15 = .ok (.iconst 1, 1) := by decide +kernel
theorem dX7_isField_16 : decode cX7_isField 16 = .ok (.goto 4, 3) := by decide +kernel
theorem dX7_isField_19 : decode cX7_isField 19 = .ok (.iconst 0, 1) := by decide +kernel
theorem dX7_isField_20 : decode cX7_isField 20 = .ok (.ireturn, 1) := by decide +kernel
theorem dX7_field_0 : decode cX7_field 0 = .ok (.aload_n 0, 1) := by decide +kernel
theorem dX7_field_1 : decode cX7_field 1 = .ok (.iload_n 1, 1) := by decide +kernel
theorem dX7_field_2 : decode cX7_field 2 = .ok (.invokevirtual 176, 3) := by decide +kernel
theorem dX7_field_5 : decode cX7_field 5 = .ok (.ifCond .ne 5, 3) := by decide +kernel
theorem dX7_field_8 : decode cX7_field 8 = .ok (.iconst (-1), 1) := by decide +kernel
theorem dX7_field_9 : decode cX7_field 9 = .ok (.ireturn, 1) := by decide +kernel
theorem dX7_field_10 : decode cX7_field 10 = .ok (.iload_n 2, 1) := by decide +kernel
theorem dX7_field_11 : decode cX7_field 11 = .ok (.tableswitch 82 0 4 #[33, 43, 53, 63, 73], 33) := by decide +kernel
theorem dX7_field_44 : decode cX7_field 44 = .ok (.aload_n 0, 1) := by decide +kernel
theorem dX7_field_45 : decode cX7_field 45 = .ok (.getfield 56, 3) := by decide +kernel
theorem dX7_field_48 : decode cX7_field 48 = .ok (.getfield 179, 3) := by decide +kernel
theorem dX7_field_51 : decode cX7_field 51 = .ok (.iload_n 1, 1) := by decide +kernel
theorem dX7_field_52 : decode cX7_field 52 = .ok (.iaload, 1) := by decide +kernel
theorem dX7_field_53 : decode cX7_field 53 = .ok (.ireturn, 1) := by decide +kernel
theorem dX7_field_54 : decode cX7_field 54 = .ok (.aload_n 0, 1) := by decide +kernel
theorem dX7_field_55 : decode cX7_field 55 = .ok (.getfield 56, 3) := by decide +kernel
theorem dX7_field_58 : decode cX7_field 58 = .ok (.getfield 182, 3) := by decide +kernel
theorem dX7_field_61 : decode cX7_field 61 = .ok (.iload_n 1, 1) := by decide +kernel
theorem dX7_field_62 : decode cX7_field 62 = .ok (.iaload, 1) := by decide +kernel
theorem dX7_field_63 : decode cX7_field 63 = .ok (.ireturn, 1) := by decide +kernel
theorem dX7_field_64 : decode cX7_field 64 = .ok (.aload_n 0, 1) := by decide +kernel
theorem dX7_field_65 : decode cX7_field 65 = .ok (.getfield 56, 3) := by decide +kernel
theorem dX7_field_68 : decode cX7_field 68 = .ok (.getfield 185, 3) := by decide +kernel
theorem dX7_field_71 : decode cX7_field 71 = .ok (.iload_n 1, 1) := by decide +kernel
theorem dX7_field_72 : decode cX7_field 72 = .ok (.iaload, 1) := by decide +kernel
theorem dX7_field_73 : decode cX7_field 73 = .ok (.ireturn, 1) := by decide +kernel
theorem dX7_field_74 : decode cX7_field 74 = .ok (.aload_n 0, 1) := by decide +kernel
theorem dX7_field_75 : decode cX7_field 75 = .ok (.getfield 72, 3) := by decide +kernel
theorem dX7_field_78 : decode cX7_field 78 = .ok (.getfield 188, 3) := by decide +kernel
theorem dX7_field_81 : decode cX7_field 81 = .ok (.iload_n 1, 1) := by decide +kernel
theorem dX7_field_82 : decode cX7_field 82 = .ok (.iaload, 1) := by decide +kernel
theorem dX7_field_83 : decode cX7_field 83 = .ok (.ireturn, 1) := by decide +kernel
theorem dX7_field_84 : decode cX7_field 84 = .ok (.aload_n 0, 1) := by decide +kernel
theorem dX7_field_85 : decode cX7_field 85 = .ok (.getfield 72, 3) := by decide +kernel
theorem dX7_field_88 : decode cX7_field 88 = .ok (.iload_n 1, 1) := by decide +kernel
theorem dX7_field_89 : decode cX7_field 89 = .ok (.invokevirtual 191, 3) := by decide +kernel
theorem dX7_field_92 : decode cX7_field 92 = .ok (.ireturn, 1) := by decide +kernel
theorem dX7_field_93 : decode cX7_field 93 = .ok (.iconst (-1), 1) := by decide +kernel
theorem dX7_field_94 : decode cX7_field 94 = .ok (.ireturn, 1) := by decide +kernel
theorem dX7_source_0 : decode cX7_source 0 = .ok (.aload_n 0, 1) := by decide +kernel
theorem dX7_source_1 : decode cX7_source 1 = .ok (.iload_n 1, 1) := by decide +kernel
theorem dX7_source_2 : decode cX7_source 2 = .ok (.invokevirtual 152, 3) := by decide +kernel
theorem dX7_source_5 : decode cX7_source 5 = .ok (.ifCond .eq 12, 3) := by decide +kernel
theorem dX7_source_8 : decode cX7_source 8 = .ok (.iload_n 2, 1) := by decide +kernel
theorem dX7_source_9 : decode cX7_source 9 = .ok (.ifCond .lt 8, 3) := by decide +kernel
theorem dX7_source_12 : decode cX7_source 12 = .ok (.iload_n 2, 1) := by decide +kernel
theorem dX7_source_13 : decode cX7_source 13 = .ok (.iconst 1, 1) := by decide +kernel
theorem dX7_source_14 : decode cX7_source 14 = .ok (.if_icmp .le 5, 3) := by decide +kernel
theorem dX7_source_17 : decode cX7_source 17 = .ok (.iconst (-1), 1) := by decide +kernel
theorem dX7_source_18 : decode cX7_source 18 = .ok (.ireturn, 1) := by decide +kernel
theorem dX7_source_19 : decode cX7_source 19 = .ok (.aload_n 0, 1) := by decide +kernel
theorem dX7_source_20 : decode cX7_source 20 = .ok (.getfield 72, 3) := by decide +kernel
theorem dX7_source_23 : decode cX7_source 23 = .ok (.iload_n 1, 1) := by decide +kernel
theorem dX7_source_24 : decode cX7_source 24 = .ok (.iload_n 2, 1) := by decide +kernel
theorem dX7_source_25 : decode cX7_source 25 = .ok (.iconst 1, 1) := by decide +kernel
theorem dX7_source_26 : decode cX7_source 26 = .ok (.if_icmp .ne 7, 3) := by decide +kernel
theorem dX7_source_29 : decode cX7_source 29 = .ok (.iconst 1, 1) := by decide +kernel
theorem dX7_source_30 : decode cX7_source 30 = .ok (.goto 4, 3) := by decide +kernel
theorem dX7_source_33 : decode cX7_source 33 = .ok (.iconst 0, 1) := by decide +kernel
theorem dX7_source_34 : decode cX7_source 34 = .ok (.invokevirtual 194, 3) := by decide +kernel
theorem dX7_source_37 : decode cX7_source 37 = .ok (.ireturn, 1) := by decide +kernel
theorem dX7_act_0 : decode cX7_act 0 = .ok (.aload_n 0, 1) := by decide +kernel
theorem dX7_act_1 : decode cX7_act 1 = .ok (.iload_n 1, 1) := by decide +kernel
theorem dX7_act_2 : decode cX7_act 2 = .ok (.invokevirtual 152, 3) := by decide +kernel
theorem dX7_act_5 : decode cX7_act 5 = .ok (.ifCond .eq 25, 3) := by decide +kernel
theorem dX7_act_8 : decode cX7_act 8 = .ok (.iload_n 2, 1) := by decide +kernel
theorem dX7_act_9 : decode cX7_act 9 = .ok (.ifCond .lt 21, 3) := by decide +kernel
theorem dX7_act_12 : decode cX7_act 12 = .ok (.iload_n 2, 1) := by decide +kernel
theorem dX7_act_13 : decode cX7_act 13 = .ok (.iconst 3, 1) := by decide +kernel
theorem dX7_act_14 : decode cX7_act 14 = .ok (.if_icmp .gt 16, 3) := by decide +kernel
theorem dX7_act_17 : decode cX7_act 17 = .ok (.aload_n 0, 1) := by decide +kernel
theorem dX7_act_18 : decode cX7_act 18 = .ok (.getfield 72, 3) := by decide +kernel
theorem dX7_act_21 : decode cX7_act 21 = .ok (.getfield 164, 3) := by decide +kernel
theorem dX7_act_24 : decode cX7_act 24 = .ok (.iload_n 1, 1) := by decide +kernel
theorem dX7_act_25 : decode cX7_act 25 = .ok (.iaload, 1) := by decide +kernel
theorem dX7_act_26 : decode cX7_act 26 = .ok (.iload_n 2, 1) := by decide +kernel
theorem dX7_act_27 : decode cX7_act 27 = .ok (.if_icmp .ne 5, 3) := by decide +kernel
theorem dX7_act_30 : decode cX7_act 30 = .ok (.iconst 0, 1) := by decide +kernel
theorem dX7_act_31 : decode cX7_act 31 = .ok (.ireturn, 1) := by decide +kernel
theorem dX7_act_32 : decode cX7_act 32 = .ok (.aload_n 0, 1) := by decide +kernel
theorem dX7_act_33 : decode cX7_act 33 = .ok (.getfield 33, 3) := by decide +kernel
theorem dX7_act_36 : decode cX7_act 36 = .ok (.iconst 0, 1) := by decide +kernel
theorem dX7_act_37 : decode cX7_act 37 = .ok (.iload_n 1, 1) := by decide +kernel
theorem dX7_act_38 : decode cX7_act 38 = .ok (.aload_n 0, 1) := by decide +kernel
theorem dX7_act_39 : decode cX7_act 39 = .ok (.getfield 72, 3) := by decide +kernel
theorem dX7_act_42 : decode cX7_act 42 = .ok (.getfield 164, 3) := by decide +kernel
theorem dX7_act_45 : decode cX7_act 45 = .ok (.iload_n 1, 1) := by decide +kernel
theorem dX7_act_46 : decode cX7_act 46 = .ok (.iaload, 1) := by decide +kernel
theorem dX7_act_47 : decode cX7_act 47 = .ok (.invokevirtual 224, 3) := by decide +kernel
theorem dX7_act_50 : decode cX7_act 50 = .ok (.aload_n 0, 1) := by decide +kernel
theorem dX7_act_51 : decode cX7_act 51 = .ok (.getfield 72, 3) := by decide +kernel
theorem dX7_act_54 : decode cX7_act 54 = .ok (.getfield 164, 3) := by decide +kernel
theorem dX7_act_57 : decode cX7_act 57 = .ok (.iload_n 1, 1) := by decide +kernel
theorem dX7_act_58 : decode cX7_act 58 = .ok (.iload_n 2, 1) := by decide +kernel
theorem dX7_act_59 : decode cX7_act 59 = .ok (.iastore, 1) := by decide +kernel
theorem dX7_act_60 : decode cX7_act 60 = .ok (.iconst 1, 1) := by decide +kernel
theorem dX7_act_61 : decode cX7_act 61 = .ok (.ireturn, 1) := by decide +kernel
theorem dX7_isRule_0 : decode cX7_isRule 0 = .ok (.iload_n 0, 1) := by decide +kernel
theorem dX7_isRule_1 : decode cX7_isRule 1 = .ok (.ifCond .lt 12, 3) := by decide +kernel
theorem dX7_isRule_4 : decode cX7_isRule 4 = .ok (.iload_n 0, 1) := by decide +kernel
theorem dX7_isRule_5 : decode cX7_isRule 5 = .ok (.iconst 2, 1) := by decide +kernel
theorem dX7_isRule_6 : decode cX7_isRule 6 = .ok (.if_icmp .gt 7, 3) := by decide +kernel
theorem dX7_isRule_9 : decode cX7_isRule 9 = .ok (.iconst 1, 1) := by decide +kernel
theorem dX7_isRule_10 : decode cX7_isRule 10 = .ok (.goto 4, 3) := by decide +kernel
theorem dX7_isRule_13 : decode cX7_isRule 13 = .ok (.iconst 0, 1) := by decide +kernel
theorem dX7_isRule_14 : decode cX7_isRule 14 = .ok (.ireturn, 1) := by decide +kernel
theorem dX7_rule_0 : decode cX7_rule 0 = .ok (.iload_n 1, 1) := by decide +kernel
theorem dX7_rule_1 : decode cX7_rule 1 = .ok (.invokestatic 228, 3) := by decide +kernel
theorem dX7_rule_4 : decode cX7_rule 4 = .ok (.ifCond .eq 14, 3) := by decide +kernel
theorem dX7_rule_7 : decode cX7_rule 7 = .ok (.aload_n 0, 1) := by decide +kernel
theorem dX7_rule_8 : decode cX7_rule 8 = .ok (.getfield 72, 3) := by decide +kernel
theorem dX7_rule_11 : decode cX7_rule 11 = .ok (.getfield 231, 3) := by decide +kernel
theorem dX7_rule_14 : decode cX7_rule 14 = .ok (.iload_n 1, 1) := by decide +kernel
theorem dX7_rule_15 : decode cX7_rule 15 = .ok (.if_icmp .ne 5, 3) := by decide +kernel
theorem dX7_rule_18 : decode cX7_rule 18 = .ok (.iconst 0, 1) := by decide +kernel
theorem dX7_rule_19 : decode cX7_rule 19 = .ok (.ireturn, 1) := by decide +kernel
theorem dX7_rule_20 : decode cX7_rule 20 = .ok (.aload_n 0, 1) := by decide +kernel
theorem dX7_rule_21 : decode cX7_rule 21 = .ok (.getfield 33, 3) := by decide +kernel
theorem dX7_rule_24 : decode cX7_rule 24 = .ok (.iconst 1, 1) := by decide +kernel
theorem dX7_rule_25 : decode cX7_rule 25 = .ok (.iconst 0, 1) := by decide +kernel
theorem dX7_rule_26 : decode cX7_rule 26 = .ok (.aload_n 0, 1) := by decide +kernel
theorem dX7_rule_27 : decode cX7_rule 27 = .ok (.getfield 72, 3) := by decide +kernel
theorem dX7_rule_30 : decode cX7_rule 30 = .ok (.getfield 231, 3) := by decide +kernel
theorem dX7_rule_33 : decode cX7_rule 33 = .ok (.invokevirtual 224, 3) := by decide +kernel
theorem dX7_rule_36 : decode cX7_rule 36 = .ok (.aload_n 0, 1) := by decide +kernel
theorem dX7_rule_37 : decode cX7_rule 37 = .ok (.getfield 72, 3) := by decide +kernel
theorem dX7_rule_40 : decode cX7_rule 40 = .ok (.iload_n 1, 1) := by decide +kernel
theorem dX7_rule_41 : decode cX7_rule 41 = .ok (.putfield 231, 3) := by decide +kernel
theorem dX7_rule_44 : decode cX7_rule 44 = .ok (.iconst 1, 1) := by decide +kernel
theorem dX7_rule_45 : decode cX7_rule 45 = .ok (.ireturn, 1) := by decide +kernel
def f_X7_feed (N : Nat) (h : Hp) (p1 : Int32) (p2 : Int32) (p3 : Int32) (p4 : Int32) (p5 : Int32) : Option (Int32 × Hp) :=
  if ((gI h 4 0 2) + 20) ≤ 700 then
    (f_X4_append N h p1).bind fun h1 =>
    (f_X4_append N h1 p2).bind fun h2 =>
    (f_X4_append N h2 p3).bind fun h3 =>
    (f_X4_append N h3 p4).bind fun h4 =>
    (f_X4_append N h4 p5).bind fun h5 =>
    some ((gI h5 4 0 2), h5)
  else
  some ((-1), h)
abbrev rmX7_feed : Room := { frames := 1, cells := 0, slots := 0, locals := 22 }
set_option maxRecDepth 100000 in
set_option maxHeartbeats 4000000 in
theorem w_X7_feed (X : Cx) (F : Fx X cX7_feed RX7 (some .int) rmX7_feed) (hA : xA X = Aw (xG X)) (hL : xL X = 6) (N : Nat) (h : Hp) (p1 : Int32) (p2 : Int32) (p3 : Int32) (p4 : Int32) (p5 : Int32) : Wm X (fun v => some (.int v.1)) (fun v => v.2) (fun _ => True) 0 [(0, .ref (adr (xG X) 7 0 0)), (1, .int p1), (2, .int p2), (3, .int p3), (4, .int p4), (5, .int p5)] [] h (f_X7_feed N h p1 p2 p3 p4 p5) := by
  have hS : ∀ i : Nat, i < 6 → i < xL X := fun i z => by rw [hL]; exact z
  unfold f_X7_feed
  refine r_aload_n F 0 rfl dX7_feed_0 rfl ?_
  refine r_getS F frX7_10 (by decide) 0 rfl dX7_feed_1 ?_
  refine r_getI F frX7_86 (by decide) dX7_feed_4 ?_
  refine r_bipush F (v := 20) dX7_feed_7 (by decide) ?_
  refine r_iadd F dX7_feed_9 ?_
  refine r_sipush F (v := 700) dX7_feed_10 (by decide) ?_
  refine r_icmple F (tgt := 18) dX7_feed_13 (by decide) ?_ ?_
  · skip
    refine r_aload_n F 0 rfl dX7_feed_18 rfl ?_
    refine r_getS F frX7_10 (by decide) 0 rfl dX7_feed_19 ?_
    refine r_iload_n F 1 rfl dX7_feed_22 rfl ?_
    refine k_vH (run_V F cvX7_89 (by decide) (c_X4_append (xG X) _ N h p1) rfl rfl ⟨⟨rfl, rfl⟩, Nat.le_of_ble_eq_true rfl, Nat.le_of_ble_eq_true rfl⟩ (Nat.le_of_ble_eq_true rfl) dX7_feed_23) fun h1 => ?_
    refine r_aload_n F 0 rfl dX7_feed_26 rfl ?_
    refine r_getS F frX7_10 (by decide) 0 rfl dX7_feed_27 ?_
    refine r_iload_n F 2 rfl dX7_feed_30 rfl ?_
    refine k_vH (run_V F cvX7_89 (by decide) (c_X4_append (xG X) _ N h1 p2) rfl rfl ⟨⟨rfl, rfl⟩, Nat.le_of_ble_eq_true rfl, Nat.le_of_ble_eq_true rfl⟩ (Nat.le_of_ble_eq_true rfl) dX7_feed_31) fun h2 => ?_
    refine r_aload_n F 0 rfl dX7_feed_34 rfl ?_
    refine r_getS F frX7_10 (by decide) 0 rfl dX7_feed_35 ?_
    refine r_iload_n F 3 rfl dX7_feed_38 rfl ?_
    refine k_vH (run_V F cvX7_89 (by decide) (c_X4_append (xG X) _ N h2 p3) rfl rfl ⟨⟨rfl, rfl⟩, Nat.le_of_ble_eq_true rfl, Nat.le_of_ble_eq_true rfl⟩ (Nat.le_of_ble_eq_true rfl) dX7_feed_39) fun h3 => ?_
    refine r_aload_n F 0 rfl dX7_feed_42 rfl ?_
    refine r_getS F frX7_10 (by decide) 0 rfl dX7_feed_43 ?_
    refine r_iload F 4 rfl dX7_feed_46 ?_
    refine k_vH (run_V F cvX7_89 (by decide) (c_X4_append (xG X) _ N h3 p4) rfl rfl ⟨⟨rfl, rfl⟩, Nat.le_of_ble_eq_true rfl, Nat.le_of_ble_eq_true rfl⟩ (Nat.le_of_ble_eq_true rfl) dX7_feed_48) fun h4 => ?_
    refine r_aload_n F 0 rfl dX7_feed_51 rfl ?_
    refine r_getS F frX7_10 (by decide) 0 rfl dX7_feed_52 ?_
    refine r_iload F 5 rfl dX7_feed_55 ?_
    refine k_vH (run_V F cvX7_89 (by decide) (c_X4_append (xG X) _ N h4 p5) rfl rfl ⟨⟨rfl, rfl⟩, Nat.le_of_ble_eq_true rfl, Nat.le_of_ble_eq_true rfl⟩ (Nat.le_of_ble_eq_true rfl) dX7_feed_57) fun h5 => ?_
    refine r_aload_n F 0 rfl dX7_feed_60 rfl ?_
    refine r_getS F frX7_10 (by decide) 0 rfl dX7_feed_61 ?_
    refine r_getI F frX7_86 (by decide) dX7_feed_64 ?_
    exact r_iret F hA rfl rfl trivial dX7_feed_67
  refine r_iconst F (v := (-1)) dX7_feed_16 (by decide) ?_
  exact r_iret F hA rfl rfl trivial dX7_feed_17
theorem c_X7_feed (G : Gx) (l : Launch) (N : Nat) (h : Hp) (p1 : Int32) (p2 : Int32) (p3 : Int32) (p4 : Int32) (p5 : Int32) : Ctr G l yX7_feed (.code yX7_feed cX7_feed 6 (some .int) :: GT) rmX7_feed [.ref (adr G 7 0 0), .int p1, .int p2, .int p3, .int p4, .int p5] h (f_X7_feed N h p1 p2 p3 p4 p5) (fun v => some (.int v.1)) (fun v => v.2) (fun _ => True) :=
  ctr_of (by decide) (Nat.le_of_ble_eq_true rfl) ⟨rfl, rfl⟩ fun X _ e2 hA hL F => by subst e2; exact w_X7_feed X F hA hL N h p1 p2 p3 p4 p5
def f_X7_text (N : Nat) (h : Hp) (p1 : Int32) : Option (Int32 × Hp) :=
  jn (
    some ((-2), h)) fun (j15 : Option (Int32 × Hp)) =>
  if p1 < 0 then
    j15
  else
  if p1 ≤ (gI h 4 0 2) then
    onO (gO h 7 0 14) fun o1 =>
    bd2 (f_X1_reads N h p1 o1) fun v3 h2 =>
    lt_ (sI h2 4 0 2 0) fun h4 =>
    lt_ (sI h4 7 0 16 (gI h4 1 0 4)) fun h5 =>
    lt_ (sI h5 7 0 17 (gI h5 1 0 5)) fun h6 =>
    if ¬ (b2i v3) = 0 then
      onO (gO h6 7 0 13) fun o7 =>
      onO (gO h6 7 0 14) fun o8 =>
      lt_ (sO h6 7 0 13 o8) fun h9 =>
      lt_ (sO h9 7 0 14 o7) fun h10 =>
      onO (gO h10 7 0 13) fun o11 =>
      (f_X3_begin N h10 0 o11).bind fun h12 =>
      (f_X3_copy h12 1 0).bind fun h13 =>
      lt_ (sZ h13 7 0 15 false) fun h14 =>
      lt_ (sI h14 6 0 3 0) fun h15 =>
      (f_X2_clear h15).bind fun h16 =>
      onO (gO h16 7 0 13) fun o17 =>
      some ((gI h16 5 o17 10), h16)
    else
    some ((-1), h6)
  else
  j15
abbrev rmX7_text : Room := { frames := 7, cells := 0, slots := 0, locals := 150 }
set_option maxRecDepth 100000 in
set_option maxHeartbeats 4000000 in
theorem w_X7_text (X : Cx) (F : Fx X cX7_text RX7 (some .int) rmX7_text) (hA : xA X = Aw (xG X)) (hL : xL X = 4) (N : Nat) (h : Hp) (p1 : Int32) : Wm X (fun v => some (.int v.1)) (fun v => v.2) (fun _ => True) 0 [(0, .ref (adr (xG X) 7 0 0)), (1, .int p1)] [] h (f_X7_text N h p1) := by
  have hS : ∀ i : Nat, i < 4 → i < xL X := fun i z => by rw [hL]; exact z
  unfold f_X7_text
  refine r_iload_n F 1 rfl dX7_text_0 rfl ?_
  refine Wt_jn (fun (j15 : Option (Int32 × Hp)) => Wm X (fun v => some (.int v.1)) (fun v => v.2) (fun _ => True) 15 [] [] h (j15)) ?_ fun j15 hj15 => ?_
  · skip
    refine r_bipush F (v := (-2)) dX7_text_15 (by decide) ?_
    exact r_iret F hA rfl rfl trivial dX7_text_17
  refine r_iflt F (tgt := 15) dX7_text_1 (by decide) ?_ ?_
  · skip
    exact Wt_pick [] rfl (hj15)
  refine r_iload_n F 1 rfl dX7_text_4 rfl ?_
  refine r_aload_n F 0 rfl dX7_text_5 rfl ?_
  refine r_getS F frX7_10 (by decide) 0 rfl dX7_text_6 ?_
  refine r_getI F frX7_86 (by decide) dX7_text_9 ?_
  refine r_icmple F (tgt := 18) dX7_text_12 (by decide) ?_ ?_
  · skip
    refine r_aload_n F 0 rfl dX7_text_18 rfl ?_
    refine r_getS F frX7_19 (by decide) 0 rfl dX7_text_19 ?_
    refine r_aload_n F 0 rfl dX7_text_22 rfl ?_
    refine r_getS F frX7_10 (by decide) 0 rfl dX7_text_23 ?_
    refine r_iload_n F 1 rfl dX7_text_26 rfl ?_
    refine r_aload_n F 0 rfl dX7_text_27 rfl ?_
    refine r_getO F frX7_60 (by decide) dX7_text_28 fun o1 hp_o1 => ?_
    refine k_zH (run_V F cvX7_93 (by decide) (c_X1_reads (xG X) _ N h p1 o1 hp_o1) rfl rfl ⟨⟨rfl, rfl⟩, Nat.le_of_ble_eq_true rfl, Nat.le_of_ble_eq_true rfl⟩ (Nat.le_of_ble_eq_true rfl) dX7_text_31) fun v3 h2 => ?_
    refine r_istore_n F [(2, .int (b2i v3)), (0, .ref (adr (xG X) 7 0 0)), (1, .int p1)] rfl dX7_text_34 rfl (hS _ (by decide)) ?_
    refine r_aload_n F 1 rfl dX7_text_35 rfl ?_
    refine r_getS F frX7_10 (by decide) 0 rfl dX7_text_36 ?_
    refine r_iconst F (v := 0) dX7_text_39 (by decide) ?_
    refine r_putI F frX7_86 (by decide) rfl rfl dX7_text_40 fun h4 => ?_
    refine r_aload_n F 1 rfl dX7_text_43 rfl ?_
    refine r_aload_n F 1 rfl dX7_text_44 rfl ?_
    refine r_getS F frX7_19 (by decide) 0 rfl dX7_text_45 ?_
    refine r_getI F frX7_97 (by decide) dX7_text_48 ?_
    refine r_putI F frX7_100 (by decide) rfl rfl dX7_text_51 fun h5 => ?_
    refine r_aload_n F 1 rfl dX7_text_54 rfl ?_
    refine r_aload_n F 1 rfl dX7_text_55 rfl ?_
    refine r_getS F frX7_19 (by decide) 0 rfl dX7_text_56 ?_
    refine r_getI F frX7_103 (by decide) dX7_text_59 ?_
    refine r_putI F frX7_82 (by decide) rfl rfl dX7_text_62 fun h6 => ?_
    refine r_iload_n F 0 rfl dX7_text_65 rfl ?_
    refine r_ifne F (tgt := 71) dX7_text_66 (by decide) ?_ ?_
    · skip
      refine r_aload_n F 1 rfl dX7_text_71 rfl ?_
      refine r_getO F frX7_56 (by decide) dX7_text_72 fun o7 hp_o7 => ?_
      refine r_astore_n F [(3, .ref (adr (xG X) 5 o7 0)), (2, .int (b2i v3)), (0, .ref (adr (xG X) 7 0 0)), (1, .int p1)] rfl dX7_text_75 rfl (hS _ (by decide)) ?_
      refine r_aload_n F 2 rfl dX7_text_76 rfl ?_
      refine r_aload_n F 2 rfl dX7_text_77 rfl ?_
      refine r_getO F frX7_60 (by decide) dX7_text_78 fun o8 hp_o8 => ?_
      refine r_putO F frX7_56 (by decide) hp_o8 rfl rfl dX7_text_81 fun h9 => ?_
      refine r_aload_n F 2 rfl dX7_text_84 rfl ?_
      refine r_aload_n F 0 rfl dX7_text_85 rfl ?_
      refine r_putO F frX7_60 (by decide) hp_o7 rfl rfl dX7_text_86 fun h10 => ?_
      refine r_aload_n F 2 rfl dX7_text_89 rfl ?_
      refine r_getS F frX7_68 (by decide) 0 rfl dX7_text_90 ?_
      refine r_aload_n F 2 rfl dX7_text_93 rfl ?_
      refine r_getO F frX7_56 (by decide) dX7_text_94 fun o11 hp_o11 => ?_
      refine k_vH (run_V F cvX7_106 (by decide) (c_X3_begin (xG X) _ N h10 0 (by decide) o11 hp_o11) rfl rfl ⟨⟨rfl, rfl⟩, Nat.le_of_ble_eq_true rfl, Nat.le_of_ble_eq_true rfl⟩ (Nat.le_of_ble_eq_true rfl) dX7_text_97) fun h12 => ?_
      refine r_aload_n F 2 rfl dX7_text_100 rfl ?_
      refine r_getS F frX7_72 (by decide) 1 rfl dX7_text_101 ?_
      refine r_aload_n F 2 rfl dX7_text_104 rfl ?_
      refine r_getS F frX7_68 (by decide) 0 rfl dX7_text_105 ?_
      refine k_vH (run_V F cvX7_109 (by decide) (c_X3_copy (xG X) _ h12 1 (by decide) 0 (by decide)) rfl rfl ⟨⟨rfl, rfl⟩, Nat.le_of_ble_eq_true rfl, Nat.le_of_ble_eq_true rfl⟩ (Nat.le_of_ble_eq_true rfl) dX7_text_108) fun h13 => ?_
      refine r_aload_n F 2 rfl dX7_text_111 rfl ?_
      refine r_iconst F (v := 0) dX7_text_112 (by decide) ?_
      refine r_putZ F false rfl frX7_113 (by decide) rfl rfl dX7_text_113 fun h14 => ?_
      refine r_aload_n F 2 rfl dX7_text_116 rfl ?_
      refine r_getS F frX7_33 (by decide) 0 rfl dX7_text_117 ?_
      refine r_iconst F (v := 0) dX7_text_120 (by decide) ?_
      refine r_putI F frX7_117 (by decide) rfl rfl dX7_text_121 fun h15 => ?_
      refine r_aload_n F 2 rfl dX7_text_124 rfl ?_
      refine r_getS F frX7_26 (by decide) 0 rfl dX7_text_125 ?_
      refine k_vH (run_V F cvX7_120 (by decide) (c_X2_clear (xG X) _ h15) rfl rfl ⟨⟨rfl, rfl⟩, Nat.le_of_ble_eq_true rfl, Nat.le_of_ble_eq_true rfl⟩ (Nat.le_of_ble_eq_true rfl) dX7_text_128) fun h16 => ?_
      refine r_aload_n F 2 rfl dX7_text_131 rfl ?_
      refine r_getO F frX7_56 (by decide) dX7_text_132 fun o17 hp_o17 => ?_
      refine r_getI F frX7_123 hp_o17 dX7_text_135 ?_
      exact r_iret F hA rfl rfl trivial dX7_text_138
    refine r_iconst F (v := (-1)) dX7_text_69 (by decide) ?_
    exact r_iret F hA rfl rfl trivial dX7_text_70
  exact Wt_pick [] rfl (hj15)
theorem c_X7_text (G : Gx) (l : Launch) (N : Nat) (h : Hp) (p1 : Int32) : Ctr G l yX7_text (.code yX7_text cX7_text 4 (some .int) :: GT) rmX7_text [.ref (adr G 7 0 0), .int p1] h (f_X7_text N h p1) (fun v => some (.int v.1)) (fun v => v.2) (fun _ => True) :=
  ctr_of (by decide) (Nat.le_of_ble_eq_true rfl) ⟨rfl, rfl⟩ fun X _ e2 hA hL F => by subst e2; exact w_X7_text X F hA hL N h p1
def f_X7_isCroft (h : Hp) (p1 : Int32) : Option Bool :=
  jn (fun (v1 : Bool) =>
    some v1) fun (j20 : Bool → Option Bool) =>
  jn (
    j20 false) fun (j19 : Option Bool) =>
  if p1 < 0 then
    j19
  else
  onO (gO h 7 0 13) fun o2 =>
  if (gI h 5 o2 12) ≤ p1 then
    j19
  else
  j20 true
abbrev rmX7_isCroft : Room := { frames := 0, cells := 0, slots := 0, locals := 0 }
set_option maxRecDepth 100000 in
set_option maxHeartbeats 4000000 in
theorem w_X7_isCroft (X : Cx) (F : Fx X cX7_isCroft RX7 (some .boolean) rmX7_isCroft) (hA : xA X = Aw (xG X)) (hL : xL X = 2) (h : Hp) (p1 : Int32) : Wm X (fun v => some (.int (b2i v))) (fun _ => h) (fun _ => True) 0 [(0, .ref (adr (xG X) 7 0 0)), (1, .int p1)] [] h (f_X7_isCroft h p1) := by
  have hS : ∀ i : Nat, i < 2 → i < xL X := fun i z => by rw [hL]; exact z
  unfold f_X7_isCroft
  refine r_iload_n F 1 rfl dX7_isCroft_0 rfl ?_
  refine Wt_jn (fun (j20 : Bool → Option Bool) => ∀ v1 : Bool, Wm X (fun v => some (.int (b2i v))) (fun _ => h) (fun _ => True) 20 [] [.int (b2i v1)] h (j20 v1)) ?_ fun j20 hj20 => ?_
  · intro v1
    exact r_zret F hA v1 rfl rfl rfl trivial dX7_isCroft_20
  refine Wt_jn (fun (j19 : Option Bool) => Wm X (fun v => some (.int (b2i v))) (fun _ => h) (fun _ => True) 19 [] [] h (j19)) ?_ fun j19 hj19 => ?_
  · skip
    refine r_iconst F (v := 0) dX7_isCroft_19 (by decide) ?_
    exact Wt_pick [] rfl (hj20 false)
  refine r_iflt F (tgt := 19) dX7_isCroft_1 (by decide) ?_ ?_
  · skip
    exact Wt_pick [] rfl (hj19)
  refine r_iload_n F 1 rfl dX7_isCroft_4 rfl ?_
  refine r_aload_n F 0 rfl dX7_isCroft_5 rfl ?_
  refine r_getO F frX7_56 (by decide) dX7_isCroft_6 fun o2 hp_o2 => ?_
  refine r_getI F frX7_315 hp_o2 dX7_isCroft_9 ?_
  refine r_icmpge F (tgt := 19) dX7_isCroft_12 (by decide) ?_ ?_
  · skip
    exact Wt_pick [] rfl (hj19)
  refine r_iconst F (v := 1) dX7_isCroft_15 (by decide) ?_
  refine r_goto F (tgt := 20) dX7_isCroft_16 (by decide) ?_
  exact Wt_pick [] rfl (hj20 true)
theorem c_X7_isCroft (G : Gx) (l : Launch) (h : Hp) (p1 : Int32) : Ctr G l yX7_isCroft (.code yX7_isCroft cX7_isCroft 2 (some .boolean) :: GT) rmX7_isCroft [.ref (adr G 7 0 0), .int p1] h (f_X7_isCroft h p1) (fun v => some (.int (b2i v))) (fun _ => h) (fun _ => True) :=
  ctr_of (by decide) (Nat.le_of_ble_eq_true rfl) ⟨rfl, rfl⟩ fun X _ e2 hA hL F => by subst e2; exact w_X7_isCroft X F hA hL h p1
def f_X7_croft (N : Nat) (h : Hp) (p1 : Int32) (p2 : Int32) : Option Int32 :=
  (f_X7_isCroft h p1).bind fun v1 =>
  if ¬ (b2i v1) = 0 then
    if p2 = 0 then
      grd (inb p1 4) <|
      some (gA h 3 1 2 p1.toNatClampNeg)
    else
    if p2 = 1 then
      grd (inb p1 4) <|
      some (gA h 3 1 3 p1.toNatClampNeg)
    else
    if p2 = 2 then
      grd (inb p1 4) <|
      some (gA h 3 1 4 p1.toNatClampNeg)
    else
    if p2 = 3 then
      grd (inb p1 4) <|
      some (gA h 3 1 5 p1.toNatClampNeg)
    else
    if p2 = 4 then
      grd (inb p1 4) <|
      some (gA h 3 1 6 p1.toNatClampNeg)
    else
    if p2 = 5 then
      grd (inb p1 4) <|
      some (gA h 3 1 7 p1.toNatClampNeg)
    else
    if p2 = 6 then
      (f_X3_liesOnLots N h 1 p1).bind fun v2 =>
      some v2
    else
    some (-1)
  else
  some (-1)
abbrev rmX7_croft : Room := { frames := 1, cells := 0, slots := 0, locals := 23 }
set_option maxRecDepth 100000 in
set_option maxHeartbeats 4000000 in
theorem w_X7_croft (X : Cx) (F : Fx X cX7_croft RX7 (some .int) rmX7_croft) (hA : xA X = Aw (xG X)) (hL : xL X = 3) (N : Nat) (h : Hp) (p1 : Int32) (p2 : Int32) : Wm X (fun v => some (.int v)) (fun _ => h) (fun _ => True) 0 [(0, .ref (adr (xG X) 7 0 0)), (1, .int p1), (2, .int p2)] [] h (f_X7_croft N h p1 p2) := by
  have hS : ∀ i : Nat, i < 3 → i < xL X := fun i z => by rw [hL]; exact z
  unfold f_X7_croft
  refine r_aload_n F 0 rfl dX7_croft_0 rfl ?_
  refine r_iload_n F 1 rfl dX7_croft_1 rfl ?_
  refine k_zP (run_V F cvX7_152 (by decide) (c_X7_isCroft (xG X) _ h p1) rfl rfl ⟨⟨rfl, rfl⟩, Nat.le_of_ble_eq_true rfl, Nat.le_of_ble_eq_true rfl⟩ (Nat.le_of_ble_eq_true rfl) dX7_croft_2) fun v1 _ => ?_
  refine r_ifne F (tgt := 10) dX7_croft_5 (by decide) ?_ ?_
  · skip
    refine r_iload_n F 2 rfl dX7_croft_10 rfl ?_
    refine r_tsc F (tgt := 52) 0 0 dX7_croft_11 rfl (by decide) (by decide) (by decide) ?_ fun n0 => ?_
    · skip
      refine r_aload_n F 0 rfl dX7_croft_52 rfl ?_
      refine r_getS F frX7_72 (by decide) 1 rfl dX7_croft_53 ?_
      refine r_getA F frX7_155 (by decide) dX7_croft_56 ?_
      refine r_iload_n F 1 rfl dX7_croft_59 rfl ?_
      refine r_iaload F (ar_3_2 1 (by decide)) dX7_croft_60 ?_
      exact r_iret F hA rfl rfl trivial dX7_croft_61
    refine r_tsc F (tgt := 62) 1 1 dX7_croft_11 rfl (by decide) (by decide) (by decide) ?_ fun n1 => ?_
    · skip
      refine r_aload_n F 0 rfl dX7_croft_62 rfl ?_
      refine r_getS F frX7_72 (by decide) 1 rfl dX7_croft_63 ?_
      refine r_getA F frX7_158 (by decide) dX7_croft_66 ?_
      refine r_iload_n F 1 rfl dX7_croft_69 rfl ?_
      refine r_iaload F (ar_3_3 1 (by decide)) dX7_croft_70 ?_
      exact r_iret F hA rfl rfl trivial dX7_croft_71
    refine r_tsc F (tgt := 72) 2 2 dX7_croft_11 rfl (by decide) (by decide) (by decide) ?_ fun n2 => ?_
    · skip
      refine r_aload_n F 0 rfl dX7_croft_72 rfl ?_
      refine r_getS F frX7_72 (by decide) 1 rfl dX7_croft_73 ?_
      refine r_getA F frX7_161 (by decide) dX7_croft_76 ?_
      refine r_iload_n F 1 rfl dX7_croft_79 rfl ?_
      refine r_iaload F (ar_3_4 1 (by decide)) dX7_croft_80 ?_
      exact r_iret F hA rfl rfl trivial dX7_croft_81
    refine r_tsc F (tgt := 82) 3 3 dX7_croft_11 rfl (by decide) (by decide) (by decide) ?_ fun n3 => ?_
    · skip
      refine r_aload_n F 0 rfl dX7_croft_82 rfl ?_
      refine r_getS F frX7_72 (by decide) 1 rfl dX7_croft_83 ?_
      refine r_getA F frX7_164 (by decide) dX7_croft_86 ?_
      refine r_iload_n F 1 rfl dX7_croft_89 rfl ?_
      refine r_iaload F (ar_3_5 1 (by decide)) dX7_croft_90 ?_
      exact r_iret F hA rfl rfl trivial dX7_croft_91
    refine r_tsc F (tgt := 92) 4 4 dX7_croft_11 rfl (by decide) (by decide) (by decide) ?_ fun n4 => ?_
    · skip
      refine r_aload_n F 0 rfl dX7_croft_92 rfl ?_
      refine r_getS F frX7_72 (by decide) 1 rfl dX7_croft_93 ?_
      refine r_getA F frX7_167 (by decide) dX7_croft_96 ?_
      refine r_iload_n F 1 rfl dX7_croft_99 rfl ?_
      refine r_iaload F (ar_3_6 1 (by decide)) dX7_croft_100 ?_
      exact r_iret F hA rfl rfl trivial dX7_croft_101
    refine r_tsc F (tgt := 102) 5 5 dX7_croft_11 rfl (by decide) (by decide) (by decide) ?_ fun n5 => ?_
    · skip
      refine r_aload_n F 0 rfl dX7_croft_102 rfl ?_
      refine r_getS F frX7_72 (by decide) 1 rfl dX7_croft_103 ?_
      refine r_getA F frX7_170 (by decide) dX7_croft_106 ?_
      refine r_iload_n F 1 rfl dX7_croft_109 rfl ?_
      refine r_iaload F (ar_3_7 1 (by decide)) dX7_croft_110 ?_
      exact r_iret F hA rfl rfl trivial dX7_croft_111
    refine r_tsc F (tgt := 112) 6 6 dX7_croft_11 rfl (by decide) (by decide) (by decide) ?_ fun n6 => ?_
    · skip
      refine r_aload_n F 0 rfl dX7_croft_112 rfl ?_
      refine r_getS F frX7_72 (by decide) 1 rfl dX7_croft_113 ?_
      refine r_iload_n F 1 rfl dX7_croft_116 rfl ?_
      refine k_iP (run_V F cvX7_173 (by decide) (c_X3_liesOnLots (xG X) _ N h 1 (by decide) p1) rfl rfl ⟨⟨rfl, rfl⟩, Nat.le_of_ble_eq_true rfl, Nat.le_of_ble_eq_true rfl⟩ (Nat.le_of_ble_eq_true rfl) dX7_croft_117) fun v2 _ => ?_
      exact r_iret F hA rfl rfl trivial dX7_croft_120
    refine r_tsd F (tgt := 121) dX7_croft_11 (by have e0 := lv_neT n0 (a := 0) (by decide); have e1 := lv_neT n1 (a := 1) (by decide); have e2 := lv_neT n2 (a := 2) (by decide); have e3 := lv_neT n3 (a := 3) (by decide); have e4 := lv_neT n4 (a := 4) (by decide); have e5 := lv_neT n5 (a := 5) (by decide); have e6 := lv_neT n6 (a := 6) (by decide); omega) (by decide) ?_
    refine r_iconst F (v := (-1)) dX7_croft_121 (by decide) ?_
    exact r_iret F hA rfl rfl trivial dX7_croft_122
  refine r_iconst F (v := (-1)) dX7_croft_8 (by decide) ?_
  exact r_iret F hA rfl rfl trivial dX7_croft_9
theorem c_X7_croft (G : Gx) (l : Launch) (N : Nat) (h : Hp) (p1 : Int32) (p2 : Int32) : Ctr G l yX7_croft (.code yX7_croft cX7_croft 3 (some .int) :: GT) rmX7_croft [.ref (adr G 7 0 0), .int p1, .int p2] h (f_X7_croft N h p1 p2) (fun v => some (.int v)) (fun _ => h) (fun _ => True) :=
  ctr_of (by decide) (Nat.le_of_ble_eq_true rfl) ⟨rfl, rfl⟩ fun X _ e2 hA hL F => by subst e2; exact w_X7_croft X F hA hL N h p1 p2
def f_X7_isField (h : Hp) (p1 : Int32) : Option Bool :=
  jn (fun (v1 : Bool) =>
    some v1) fun (j20 : Bool → Option Bool) =>
  jn (
    j20 false) fun (j19 : Option Bool) =>
  if p1 < 0 then
    j19
  else
  onO (gO h 7 0 13) fun o2 =>
  if (gI h 5 o2 13) ≤ p1 then
    j19
  else
  j20 true
abbrev rmX7_isField : Room := { frames := 0, cells := 0, slots := 0, locals := 0 }
set_option maxRecDepth 100000 in
set_option maxHeartbeats 4000000 in
theorem w_X7_isField (X : Cx) (F : Fx X cX7_isField RX7 (some .boolean) rmX7_isField) (hA : xA X = Aw (xG X)) (hL : xL X = 2) (h : Hp) (p1 : Int32) : Wm X (fun v => some (.int (b2i v))) (fun _ => h) (fun _ => True) 0 [(0, .ref (adr (xG X) 7 0 0)), (1, .int p1)] [] h (f_X7_isField h p1) := by
  have hS : ∀ i : Nat, i < 2 → i < xL X := fun i z => by rw [hL]; exact z
  unfold f_X7_isField
  refine r_iload_n F 1 rfl dX7_isField_0 rfl ?_
  refine Wt_jn (fun (j20 : Bool → Option Bool) => ∀ v1 : Bool, Wm X (fun v => some (.int (b2i v))) (fun _ => h) (fun _ => True) 20 [] [.int (b2i v1)] h (j20 v1)) ?_ fun j20 hj20 => ?_
  · intro v1
    exact r_zret F hA v1 rfl rfl rfl trivial dX7_isField_20
  refine Wt_jn (fun (j19 : Option Bool) => Wm X (fun v => some (.int (b2i v))) (fun _ => h) (fun _ => True) 19 [] [] h (j19)) ?_ fun j19 hj19 => ?_
  · skip
    refine r_iconst F (v := 0) dX7_isField_19 (by decide) ?_
    exact Wt_pick [] rfl (hj20 false)
  refine r_iflt F (tgt := 19) dX7_isField_1 (by decide) ?_ ?_
  · skip
    exact Wt_pick [] rfl (hj19)
  refine r_iload_n F 1 rfl dX7_isField_4 rfl ?_
  refine r_aload_n F 0 rfl dX7_isField_5 rfl ?_
  refine r_getO F frX7_56 (by decide) dX7_isField_6 fun o2 hp_o2 => ?_
  refine r_getI F frX7_362 hp_o2 dX7_isField_9 ?_
  refine r_icmpge F (tgt := 19) dX7_isField_12 (by decide) ?_ ?_
  · skip
    exact Wt_pick [] rfl (hj19)
  refine r_iconst F (v := 1) dX7_isField_15 (by decide) ?_
  refine r_goto F (tgt := 20) dX7_isField_16 (by decide) ?_
  exact Wt_pick [] rfl (hj20 true)
theorem c_X7_isField (G : Gx) (l : Launch) (h : Hp) (p1 : Int32) : Ctr G l yX7_isField (.code yX7_isField cX7_isField 2 (some .boolean) :: GT) rmX7_isField [.ref (adr G 7 0 0), .int p1] h (f_X7_isField h p1) (fun v => some (.int (b2i v))) (fun _ => h) (fun _ => True) :=
  ctr_of (by decide) (Nat.le_of_ble_eq_true rfl) ⟨rfl, rfl⟩ fun X _ e2 hA hL F => by subst e2; exact w_X7_isField X F hA hL h p1
def f_X7_field (N : Nat) (h : Hp) (p1 : Int32) (p2 : Int32) : Option (Int32 × Hp) :=
  (f_X7_isField h p1).bind fun v1 =>
  if ¬ (b2i v1) = 0 then
    if p2 = 0 then
      onO (gO h 7 0 13) fun o2 =>
      grd (inb p1 6) <|
      some ((gA h 5 o2 5 p1.toNatClampNeg), h)
    else
    if p2 = 1 then
      onO (gO h 7 0 13) fun o3 =>
      grd (inb p1 6) <|
      some ((gA h 5 o3 6 p1.toNatClampNeg), h)
    else
    if p2 = 2 then
      onO (gO h 7 0 13) fun o4 =>
      grd (inb p1 6) <|
      some ((gA h 5 o4 7 p1.toNatClampNeg), h)
    else
    if p2 = 3 then
      grd (inb p1 6) <|
      some ((gA h 3 1 9 p1.toNatClampNeg), h)
    else
    if p2 = 4 then
      bd2 (f_X3_worthOf N h 1 p1) fun v6 h5 =>
      some (v6, h5)
    else
    some ((-1), h)
  else
  some ((-1), h)
abbrev rmX7_field : Room := { frames := 3, cells := 0, slots := 0, locals := 77 }
set_option maxRecDepth 100000 in
set_option maxHeartbeats 4000000 in
theorem w_X7_field (X : Cx) (F : Fx X cX7_field RX7 (some .int) rmX7_field) (hA : xA X = Aw (xG X)) (hL : xL X = 3) (N : Nat) (h : Hp) (p1 : Int32) (p2 : Int32) : Wm X (fun v => some (.int v.1)) (fun v => v.2) (fun _ => True) 0 [(0, .ref (adr (xG X) 7 0 0)), (1, .int p1), (2, .int p2)] [] h (f_X7_field N h p1 p2) := by
  have hS : ∀ i : Nat, i < 3 → i < xL X := fun i z => by rw [hL]; exact z
  unfold f_X7_field
  refine r_aload_n F 0 rfl dX7_field_0 rfl ?_
  refine r_iload_n F 1 rfl dX7_field_1 rfl ?_
  refine k_zP (run_V F cvX7_176 (by decide) (c_X7_isField (xG X) _ h p1) rfl rfl ⟨⟨rfl, rfl⟩, Nat.le_of_ble_eq_true rfl, Nat.le_of_ble_eq_true rfl⟩ (Nat.le_of_ble_eq_true rfl) dX7_field_2) fun v1 _ => ?_
  refine r_ifne F (tgt := 10) dX7_field_5 (by decide) ?_ ?_
  · skip
    refine r_iload_n F 2 rfl dX7_field_10 rfl ?_
    refine r_tsc F (tgt := 44) 0 0 dX7_field_11 rfl (by decide) (by decide) (by decide) ?_ fun n0 => ?_
    · skip
      refine r_aload_n F 0 rfl dX7_field_44 rfl ?_
      refine r_getO F frX7_56 (by decide) dX7_field_45 fun o2 hp_o2 => ?_
      refine r_getA F frX7_179 hp_o2 dX7_field_48 ?_
      refine r_iload_n F 1 rfl dX7_field_51 rfl ?_
      refine r_iaload F (ar_5_5 o2 hp_o2) dX7_field_52 ?_
      exact r_iret F hA rfl rfl trivial dX7_field_53
    refine r_tsc F (tgt := 54) 1 1 dX7_field_11 rfl (by decide) (by decide) (by decide) ?_ fun n1 => ?_
    · skip
      refine r_aload_n F 0 rfl dX7_field_54 rfl ?_
      refine r_getO F frX7_56 (by decide) dX7_field_55 fun o3 hp_o3 => ?_
      refine r_getA F frX7_182 hp_o3 dX7_field_58 ?_
      refine r_iload_n F 1 rfl dX7_field_61 rfl ?_
      refine r_iaload F (ar_5_6 o3 hp_o3) dX7_field_62 ?_
      exact r_iret F hA rfl rfl trivial dX7_field_63
    refine r_tsc F (tgt := 64) 2 2 dX7_field_11 rfl (by decide) (by decide) (by decide) ?_ fun n2 => ?_
    · skip
      refine r_aload_n F 0 rfl dX7_field_64 rfl ?_
      refine r_getO F frX7_56 (by decide) dX7_field_65 fun o4 hp_o4 => ?_
      refine r_getA F frX7_185 hp_o4 dX7_field_68 ?_
      refine r_iload_n F 1 rfl dX7_field_71 rfl ?_
      refine r_iaload F (ar_5_7 o4 hp_o4) dX7_field_72 ?_
      exact r_iret F hA rfl rfl trivial dX7_field_73
    refine r_tsc F (tgt := 74) 3 3 dX7_field_11 rfl (by decide) (by decide) (by decide) ?_ fun n3 => ?_
    · skip
      refine r_aload_n F 0 rfl dX7_field_74 rfl ?_
      refine r_getS F frX7_72 (by decide) 1 rfl dX7_field_75 ?_
      refine r_getA F frX7_188 (by decide) dX7_field_78 ?_
      refine r_iload_n F 1 rfl dX7_field_81 rfl ?_
      refine r_iaload F (ar_3_9 1 (by decide)) dX7_field_82 ?_
      exact r_iret F hA rfl rfl trivial dX7_field_83
    refine r_tsc F (tgt := 84) 4 4 dX7_field_11 rfl (by decide) (by decide) (by decide) ?_ fun n4 => ?_
    · skip
      refine r_aload_n F 0 rfl dX7_field_84 rfl ?_
      refine r_getS F frX7_72 (by decide) 1 rfl dX7_field_85 ?_
      refine r_iload_n F 1 rfl dX7_field_88 rfl ?_
      refine k_iH (run_V F cvX7_191 (by decide) (c_X3_worthOf (xG X) _ N h 1 (by decide) p1) rfl rfl ⟨⟨rfl, rfl⟩, Nat.le_of_ble_eq_true rfl, Nat.le_of_ble_eq_true rfl⟩ (Nat.le_of_ble_eq_true rfl) dX7_field_89) fun v6 h5 => ?_
      exact r_iret F hA rfl rfl trivial dX7_field_92
    refine r_tsd F (tgt := 93) dX7_field_11 (by have e0 := lv_neT n0 (a := 0) (by decide); have e1 := lv_neT n1 (a := 1) (by decide); have e2 := lv_neT n2 (a := 2) (by decide); have e3 := lv_neT n3 (a := 3) (by decide); have e4 := lv_neT n4 (a := 4) (by decide); omega) (by decide) ?_
    refine r_iconst F (v := (-1)) dX7_field_93 (by decide) ?_
    exact r_iret F hA rfl rfl trivial dX7_field_94
  refine r_iconst F (v := (-1)) dX7_field_8 (by decide) ?_
  exact r_iret F hA rfl rfl trivial dX7_field_9
theorem c_X7_field (G : Gx) (l : Launch) (N : Nat) (h : Hp) (p1 : Int32) (p2 : Int32) : Ctr G l yX7_field (.code yX7_field cX7_field 3 (some .int) :: GT) rmX7_field [.ref (adr G 7 0 0), .int p1, .int p2] h (f_X7_field N h p1 p2) (fun v => some (.int v.1)) (fun v => v.2) (fun _ => True) :=
  ctr_of (by decide) (Nat.le_of_ble_eq_true rfl) ⟨rfl, rfl⟩ fun X _ e2 hA hL F => by subst e2; exact w_X7_field X F hA hL N h p1 p2
def f_X7_source (N : Nat) (h : Hp) (p1 : Int32) (p2 : Int32) : Option Int32 :=
  (f_X7_isCroft h p1).bind fun v1 =>
  jn (
    some (-1)) fun (j17 : Option Int32) =>
  if (b2i v1) = 0 then
    j17
  else
  if p2 < 0 then
    j17
  else
  if p2 ≤ 1 then
    jn (fun (v2 : Bool) =>
      (f_X3_sourceOf N h 1 p1 v2).bind fun v3 =>
      some v3) fun (j34 : Bool → Option Int32) =>
    if ¬ p2 = 1 then
      j34 false
    else
    j34 true
  else
  j17
abbrev rmX7_source : Room := { frames := 1, cells := 0, slots := 0, locals := 26 }
set_option maxRecDepth 100000 in
set_option maxHeartbeats 4000000 in
theorem w_X7_source (X : Cx) (F : Fx X cX7_source RX7 (some .int) rmX7_source) (hA : xA X = Aw (xG X)) (hL : xL X = 3) (N : Nat) (h : Hp) (p1 : Int32) (p2 : Int32) : Wm X (fun v => some (.int v)) (fun _ => h) (fun _ => True) 0 [(0, .ref (adr (xG X) 7 0 0)), (1, .int p1), (2, .int p2)] [] h (f_X7_source N h p1 p2) := by
  have hS : ∀ i : Nat, i < 3 → i < xL X := fun i z => by rw [hL]; exact z
  unfold f_X7_source
  refine r_aload_n F 0 rfl dX7_source_0 rfl ?_
  refine r_iload_n F 1 rfl dX7_source_1 rfl ?_
  refine k_zP (run_V F cvX7_152 (by decide) (c_X7_isCroft (xG X) _ h p1) rfl rfl ⟨⟨rfl, rfl⟩, Nat.le_of_ble_eq_true rfl, Nat.le_of_ble_eq_true rfl⟩ (Nat.le_of_ble_eq_true rfl) dX7_source_2) fun v1 _ => ?_
  refine Wt_jn (fun (j17 : Option Int32) => Wm X (fun v => some (.int v)) (fun _ => h) (fun _ => True) 17 [] [] h (j17)) ?_ fun j17 hj17 => ?_
  · skip
    refine r_iconst F (v := (-1)) dX7_source_17 (by decide) ?_
    exact r_iret F hA rfl rfl trivial dX7_source_18
  refine r_ifeq F (tgt := 17) dX7_source_5 (by decide) ?_ ?_
  · skip
    exact Wt_pick [] rfl (hj17)
  refine r_iload_n F 2 rfl dX7_source_8 rfl ?_
  refine r_iflt F (tgt := 17) dX7_source_9 (by decide) ?_ ?_
  · skip
    exact Wt_pick [] rfl (hj17)
  refine r_iload_n F 2 rfl dX7_source_12 rfl ?_
  refine r_iconst F (v := 1) dX7_source_13 (by decide) ?_
  refine r_icmple F (tgt := 19) dX7_source_14 (by decide) ?_ ?_
  · skip
    refine r_aload_n F 0 rfl dX7_source_19 rfl ?_
    refine r_getS F frX7_72 (by decide) 1 rfl dX7_source_20 ?_
    refine r_iload_n F 1 rfl dX7_source_23 rfl ?_
    refine r_iload_n F 2 rfl dX7_source_24 rfl ?_
    refine r_iconst F (v := 1) dX7_source_25 (by decide) ?_
    refine Wt_jn (fun (j34 : Bool → Option Int32) => ∀ v2 : Bool, Wm X (fun v => some (.int v)) (fun _ => h) (fun _ => True) 34 [] [.int (b2i v2), .int p1, .ref (adr (xG X) 3 1 0)] h (j34 v2)) ?_ fun j34 hj34 => ?_
    · intro v2
      refine k_iP (run_V F cvX7_194 (by decide) (c_X3_sourceOf (xG X) _ N h 1 (by decide) p1 v2) rfl rfl ⟨⟨rfl, rfl⟩, Nat.le_of_ble_eq_true rfl, Nat.le_of_ble_eq_true rfl⟩ (Nat.le_of_ble_eq_true rfl) dX7_source_34) fun v3 _ => ?_
      exact r_iret F hA rfl rfl trivial dX7_source_37
    refine r_icmpne F (tgt := 33) dX7_source_26 (by decide) ?_ ?_
    · skip
      refine r_iconst F (v := 0) dX7_source_33 (by decide) ?_
      exact Wt_pick [] rfl (hj34 false)
    refine r_iconst F (v := 1) dX7_source_29 (by decide) ?_
    refine r_goto F (tgt := 34) dX7_source_30 (by decide) ?_
    exact Wt_pick [] rfl (hj34 true)
  exact Wt_pick [] rfl (hj17)
theorem c_X7_source (G : Gx) (l : Launch) (N : Nat) (h : Hp) (p1 : Int32) (p2 : Int32) : Ctr G l yX7_source (.code yX7_source cX7_source 3 (some .int) :: GT) rmX7_source [.ref (adr G 7 0 0), .int p1, .int p2] h (f_X7_source N h p1 p2) (fun v => some (.int v)) (fun _ => h) (fun _ => True) :=
  ctr_of (by decide) (Nat.le_of_ble_eq_true rfl) ⟨rfl, rfl⟩ fun X _ e2 hA hL F => by subst e2; exact w_X7_source X F hA hL N h p1 p2
def f_X7_act (h : Hp) (p1 : Int32) (p2 : Int32) : Option (Bool × Hp) :=
  (f_X7_isCroft h p1).bind fun v1 =>
  jn (
    some (false, h)) fun (j30 : Option (Bool × Hp)) =>
  if (b2i v1) = 0 then
    j30
  else
  if p2 < 0 then
    j30
  else
  if 3 < p2 then
    j30
  else
  grd (inb p1 4) <|
  if ¬ (gA h 3 1 5 p1.toNatClampNeg) = p2 then
    grd (inb p1 4) <|
    (f_X6_add h 0 p1 (gA h 3 1 5 p1.toNatClampNeg)).bind fun h2 =>
    grd (inb p1 4) <| lt_ (sA h2 3 1 5 p1.toNatClampNeg p2) fun h3 =>
    some (true, h3)
  else
  j30
abbrev rmX7_act : Room := { frames := 2, cells := 0, slots := 0, locals := 41 }
set_option maxRecDepth 100000 in
set_option maxHeartbeats 4000000 in
theorem w_X7_act (X : Cx) (F : Fx X cX7_act RX7 (some .boolean) rmX7_act) (hA : xA X = Aw (xG X)) (hL : xL X = 3) (h : Hp) (p1 : Int32) (p2 : Int32) : Wm X (fun v => some (.int (b2i v.1))) (fun v => v.2) (fun _ => True) 0 [(0, .ref (adr (xG X) 7 0 0)), (1, .int p1), (2, .int p2)] [] h (f_X7_act h p1 p2) := by
  have hS : ∀ i : Nat, i < 3 → i < xL X := fun i z => by rw [hL]; exact z
  unfold f_X7_act
  refine r_aload_n F 0 rfl dX7_act_0 rfl ?_
  refine r_iload_n F 1 rfl dX7_act_1 rfl ?_
  refine k_zP (run_V F cvX7_152 (by decide) (c_X7_isCroft (xG X) _ h p1) rfl rfl ⟨⟨rfl, rfl⟩, Nat.le_of_ble_eq_true rfl, Nat.le_of_ble_eq_true rfl⟩ (Nat.le_of_ble_eq_true rfl) dX7_act_2) fun v1 _ => ?_
  refine Wt_jn (fun (j30 : Option (Bool × Hp)) => Wm X (fun v => some (.int (b2i v.1))) (fun v => v.2) (fun _ => True) 30 [] [] h (j30)) ?_ fun j30 hj30 => ?_
  · skip
    refine r_iconst F (v := 0) dX7_act_30 (by decide) ?_
    exact r_zret F hA false rfl rfl rfl trivial dX7_act_31
  refine r_ifeq F (tgt := 30) dX7_act_5 (by decide) ?_ ?_
  · skip
    exact Wt_pick [] rfl (hj30)
  refine r_iload_n F 2 rfl dX7_act_8 rfl ?_
  refine r_iflt F (tgt := 30) dX7_act_9 (by decide) ?_ ?_
  · skip
    exact Wt_pick [] rfl (hj30)
  refine r_iload_n F 2 rfl dX7_act_12 rfl ?_
  refine r_iconst F (v := 3) dX7_act_13 (by decide) ?_
  refine r_icmpgt F (tgt := 30) dX7_act_14 (by decide) ?_ ?_
  · skip
    exact Wt_pick [] rfl (hj30)
  refine r_aload_n F 0 rfl dX7_act_17 rfl ?_
  refine r_getS F frX7_72 (by decide) 1 rfl dX7_act_18 ?_
  refine r_getA F frX7_164 (by decide) dX7_act_21 ?_
  refine r_iload_n F 1 rfl dX7_act_24 rfl ?_
  refine r_iaload F (ar_3_5 1 (by decide)) dX7_act_25 ?_
  refine r_iload_n F 2 rfl dX7_act_26 rfl ?_
  refine r_icmpne F (tgt := 32) dX7_act_27 (by decide) ?_ ?_
  · skip
    refine r_aload_n F 0 rfl dX7_act_32 rfl ?_
    refine r_getS F frX7_33 (by decide) 0 rfl dX7_act_33 ?_
    refine r_iconst F (v := 0) dX7_act_36 (by decide) ?_
    refine r_iload_n F 1 rfl dX7_act_37 rfl ?_
    refine r_aload_n F 0 rfl dX7_act_38 rfl ?_
    refine r_getS F frX7_72 (by decide) 1 rfl dX7_act_39 ?_
    refine r_getA F frX7_164 (by decide) dX7_act_42 ?_
    refine r_iload_n F 1 rfl dX7_act_45 rfl ?_
    refine r_iaload F (ar_3_5 1 (by decide)) dX7_act_46 ?_
    refine k_vH (run_V F cvX7_224 (by decide) (c_X6_add (xG X) _ h 0 p1 (gA h 3 1 5 p1.toNatClampNeg)) rfl rfl ⟨⟨rfl, rfl⟩, Nat.le_of_ble_eq_true rfl, Nat.le_of_ble_eq_true rfl⟩ (Nat.le_of_ble_eq_true rfl) dX7_act_47) fun h2 => ?_
    refine r_aload_n F 0 rfl dX7_act_50 rfl ?_
    refine r_getS F frX7_72 (by decide) 1 rfl dX7_act_51 ?_
    refine r_getA F frX7_164 (by decide) dX7_act_54 ?_
    refine r_iload_n F 1 rfl dX7_act_57 rfl ?_
    refine r_iload_n F 2 rfl dX7_act_58 rfl ?_
    refine r_iastore F (ar_3_5 1 (by decide)) dX7_act_59 fun h3 => ?_
    refine r_iconst F (v := 1) dX7_act_60 (by decide) ?_
    exact r_zret F hA true rfl rfl rfl trivial dX7_act_61
  exact Wt_pick [] rfl (hj30)
theorem c_X7_act (G : Gx) (l : Launch) (h : Hp) (p1 : Int32) (p2 : Int32) : Ctr G l yX7_act (.code yX7_act cX7_act 3 (some .boolean) :: GT) rmX7_act [.ref (adr G 7 0 0), .int p1, .int p2] h (f_X7_act h p1 p2) (fun v => some (.int (b2i v.1))) (fun v => v.2) (fun _ => True) :=
  ctr_of (by decide) (Nat.le_of_ble_eq_true rfl) ⟨rfl, rfl⟩ fun X _ e2 hA hL F => by subst e2; exact w_X7_act X F hA hL h p1 p2
def f_X7_isRule (p0 : Int32) : Option Bool :=
  jn (fun (v1 : Bool) =>
    some v1) fun (j14 : Bool → Option Bool) =>
  jn (
    j14 false) fun (j13 : Option Bool) =>
  if p0 < 0 then
    j13
  else
  if 2 < p0 then
    j13
  else
  j14 true
abbrev rmX7_isRule : Room := { frames := 0, cells := 0, slots := 0, locals := 0 }
set_option maxRecDepth 100000 in
set_option maxHeartbeats 4000000 in
theorem w_X7_isRule (X : Cx) (F : Fx X cX7_isRule RX7 (some .boolean) rmX7_isRule) (hA : xA X = Aw (xG X)) (hL : xL X = 1) (h : Hp) (p0 : Int32) : Wm X (fun v => some (.int (b2i v))) (fun _ => h) (fun _ => True) 0 [(0, .int p0)] [] h (f_X7_isRule p0) := by
  have hS : ∀ i : Nat, i < 1 → i < xL X := fun i z => by rw [hL]; exact z
  unfold f_X7_isRule
  refine r_iload_n F 0 rfl dX7_isRule_0 rfl ?_
  refine Wt_jn (fun (j14 : Bool → Option Bool) => ∀ v1 : Bool, Wm X (fun v => some (.int (b2i v))) (fun _ => h) (fun _ => True) 14 [] [.int (b2i v1)] h (j14 v1)) ?_ fun j14 hj14 => ?_
  · intro v1
    exact r_zret F hA v1 rfl rfl rfl trivial dX7_isRule_14
  refine Wt_jn (fun (j13 : Option Bool) => Wm X (fun v => some (.int (b2i v))) (fun _ => h) (fun _ => True) 13 [] [] h (j13)) ?_ fun j13 hj13 => ?_
  · skip
    refine r_iconst F (v := 0) dX7_isRule_13 (by decide) ?_
    exact Wt_pick [] rfl (hj14 false)
  refine r_iflt F (tgt := 13) dX7_isRule_1 (by decide) ?_ ?_
  · skip
    exact Wt_pick [] rfl (hj13)
  refine r_iload_n F 0 rfl dX7_isRule_4 rfl ?_
  refine r_iconst F (v := 2) dX7_isRule_5 (by decide) ?_
  refine r_icmpgt F (tgt := 13) dX7_isRule_6 (by decide) ?_ ?_
  · skip
    exact Wt_pick [] rfl (hj13)
  refine r_iconst F (v := 1) dX7_isRule_9 (by decide) ?_
  refine r_goto F (tgt := 14) dX7_isRule_10 (by decide) ?_
  exact Wt_pick [] rfl (hj14 true)
theorem c_X7_isRule (G : Gx) (l : Launch) (h : Hp) (p0 : Int32) : Ctr G l yX7_isRule (.code yX7_isRule cX7_isRule 1 (some .boolean) :: GT) rmX7_isRule [.int p0] h (f_X7_isRule p0) (fun v => some (.int (b2i v))) (fun _ => h) (fun _ => True) :=
  ctr_of (by decide) (Nat.le_of_ble_eq_true rfl) ⟨rfl, rfl⟩ fun X _ e2 hA hL F => by subst e2; exact w_X7_isRule X F hA hL h p0
def f_X7_rule (h : Hp) (p1 : Int32) : Option (Bool × Hp) :=
  (f_X7_isRule p1).bind fun v1 =>
  jn (
    some (false, h)) fun (j18 : Option (Bool × Hp)) =>
  if (b2i v1) = 0 then
    j18
  else
  if ¬ (gI h 3 1 14) = p1 then
    (f_X6_add h 1 0 (gI h 3 1 14)).bind fun h2 =>
    lt_ (sI h2 3 1 14 p1) fun h3 =>
    some (true, h3)
  else
  j18
abbrev rmX7_rule : Room := { frames := 2, cells := 0, slots := 0, locals := 41 }
set_option maxRecDepth 100000 in
set_option maxHeartbeats 4000000 in
theorem w_X7_rule (X : Cx) (F : Fx X cX7_rule RX7 (some .boolean) rmX7_rule) (hA : xA X = Aw (xG X)) (hL : xL X = 2) (h : Hp) (p1 : Int32) : Wm X (fun v => some (.int (b2i v.1))) (fun v => v.2) (fun _ => True) 0 [(0, .ref (adr (xG X) 7 0 0)), (1, .int p1)] [] h (f_X7_rule h p1) := by
  have hS : ∀ i : Nat, i < 2 → i < xL X := fun i z => by rw [hL]; exact z
  unfold f_X7_rule
  refine r_iload_n F 1 rfl dX7_rule_0 rfl ?_
  refine k_zP (run_S F csX7_228 (c_X7_isRule (xG X) _ h p1) rfl rfl ⟨⟨rfl, rfl⟩, Nat.le_of_ble_eq_true rfl, Nat.le_of_ble_eq_true rfl⟩ (Nat.le_of_ble_eq_true rfl) dX7_rule_1) fun v1 _ => ?_
  refine Wt_jn (fun (j18 : Option (Bool × Hp)) => Wm X (fun v => some (.int (b2i v.1))) (fun v => v.2) (fun _ => True) 18 [] [] h (j18)) ?_ fun j18 hj18 => ?_
  · skip
    refine r_iconst F (v := 0) dX7_rule_18 (by decide) ?_
    exact r_zret F hA false rfl rfl rfl trivial dX7_rule_19
  refine r_ifeq F (tgt := 18) dX7_rule_4 (by decide) ?_ ?_
  · skip
    exact Wt_pick [] rfl (hj18)
  refine r_aload_n F 0 rfl dX7_rule_7 rfl ?_
  refine r_getS F frX7_72 (by decide) 1 rfl dX7_rule_8 ?_
  refine r_getI F frX7_231 (by decide) dX7_rule_11 ?_
  refine r_iload_n F 1 rfl dX7_rule_14 rfl ?_
  refine r_icmpne F (tgt := 20) dX7_rule_15 (by decide) ?_ ?_
  · skip
    refine r_aload_n F 0 rfl dX7_rule_20 rfl ?_
    refine r_getS F frX7_33 (by decide) 0 rfl dX7_rule_21 ?_
    refine r_iconst F (v := 1) dX7_rule_24 (by decide) ?_
    refine r_iconst F (v := 0) dX7_rule_25 (by decide) ?_
    refine r_aload_n F 0 rfl dX7_rule_26 rfl ?_
    refine r_getS F frX7_72 (by decide) 1 rfl dX7_rule_27 ?_
    refine r_getI F frX7_231 (by decide) dX7_rule_30 ?_
    refine k_vH (run_V F cvX7_224 (by decide) (c_X6_add (xG X) _ h 1 0 (gI h 3 1 14)) rfl rfl ⟨⟨rfl, rfl⟩, Nat.le_of_ble_eq_true rfl, Nat.le_of_ble_eq_true rfl⟩ (Nat.le_of_ble_eq_true rfl) dX7_rule_33) fun h2 => ?_
    refine r_aload_n F 0 rfl dX7_rule_36 rfl ?_
    refine r_getS F frX7_72 (by decide) 1 rfl dX7_rule_37 ?_
    refine r_iload_n F 1 rfl dX7_rule_40 rfl ?_
    refine r_putI F frX7_231 (by decide) rfl rfl dX7_rule_41 fun h3 => ?_
    refine r_iconst F (v := 1) dX7_rule_44 (by decide) ?_
    exact r_zret F hA true rfl rfl rfl trivial dX7_rule_45
  exact Wt_pick [] rfl (hj18)
theorem c_X7_rule (G : Gx) (l : Launch) (h : Hp) (p1 : Int32) : Ctr G l yX7_rule (.code yX7_rule cX7_rule 2 (some .boolean) :: GT) rmX7_rule [.ref (adr G 7 0 0), .int p1] h (f_X7_rule h p1) (fun v => some (.int (b2i v.1))) (fun v => v.2) (fun _ => True) :=
  ctr_of (by decide) (Nat.le_of_ble_eq_true rfl) ⟨rfl, rfl⟩ fun X _ e2 hA hL F => by subst e2; exact w_X7_rule X F hA hL h p1
