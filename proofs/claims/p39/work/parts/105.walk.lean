theorem dX2_add_0 : decode cX2_add 0 = .ok (.aload_n 0, 1) := by decide +kernel
theorem dX2_add_1 : decode cX2_add 1 = .ok (.getfield 29, 3) := by decide +kernel
theorem dX2_add_4 : decode cX2_add 4 = .ok (.bipush 24, 2) := by decide +kernel
theorem dX2_add_6 : decode cX2_add 6 = .ok (.if_icmp .lt 5, 3) := by decide +kernel
theorem dX2_add_9 : decode cX2_add 9 = .ok (.iconst (-1), 1) := by decide +kernel
theorem dX2_add_10 : decode cX2_add 10 = .ok (.ireturn, 1) := by decide +kernel
theorem dX2_add_11 : decode cX2_add 11 = .ok (.aload_n 0, 1) := by decide +kernel
theorem dX2_add_12 : decode cX2_add 12 = .ok (.getfield 9, 3) := by decide +kernel
theorem dX2_add_15 : decode cX2_add 15 = .ok (.aload_n 0, 1) := by decide +kernel
theorem dX2_add_16 : decode cX2_add 16 = .ok (.getfield 29, 3) := by decide +kernel
theorem dX2_add_19 : decode cX2_add 19 = .ok (.iload_n 1, 1) := by decide +kernel
theorem dX2_add_20 : decode cX2_add 20 = .ok (.iastore, 1) := by decide +kernel
theorem dX2_add_21 : decode cX2_add 21 = .ok (.aload_n 0, 1) := by decide +kernel
theorem dX2_add_22 : decode cX2_add 22 = .ok (.getfield 15, 3) := by decide +kernel
theorem dX2_add_25 : decode cX2_add 25 = .ok (.aload_n 0, 1) := by decide +kernel
theorem dX2_add_26 : decode cX2_add 26 = .ok (.getfield 29, 3) := by decide +kernel
theorem dX2_add_29 : decode cX2_add 29 = .ok (.iload_n 2, 1) := by decide +kernel
theorem dX2_add_30 : decode cX2_add 30 = .ok (.iastore, 1) := by decide +kernel
theorem dX2_add_31 : decode cX2_add 31 = .ok (.aload_n 0, 1) := by decide +kernel
theorem dX2_add_32 : decode cX2_add 32 = .ok (.getfield 18, 3) := by decide +kernel
theorem dX2_add_35 : decode cX2_add 35 = .ok (.aload_n 0, 1) := by decide +kernel
theorem dX2_add_36 : decode cX2_add 36 = .ok (.getfield 29, 3) := by decide +kernel
theorem dX2_add_39 : decode cX2_add 39 = .ok (.iload_n 3, 1) := by decide +kernel
theorem dX2_add_40 : decode cX2_add 40 = .ok (.iastore, 1) := by decide +kernel
theorem dX2_add_41 : decode cX2_add 41 = .ok (.aload_n 0, 1) := by decide +kernel
theorem dX2_add_42 : decode cX2_add 42 = .ok (.dup, 1) := by decide +kernel
theorem dX2_add_43 : decode cX2_add 43 = .ok (.getfield 29, 3) := by decide +kernel
theorem dX2_add_46 : decode cX2_add 46 = .ok (.iconst 1, 1) := by decide +kernel
theorem dX2_add_47 : decode cX2_add 47 = .ok (.iadd, 1) := by decide +kernel
theorem dX2_add_48 : decode cX2_add 48 = .ok (.putfield 29, 3) := by decide +kernel
theorem dX2_add_51 : decode cX2_add 51 = .ok (.aload_n 0, 1) := by decide +kernel
theorem dX2_add_52 : decode cX2_add 52 = .ok (.getfield 29, 3) := by decide +kernel
theorem dX2_add_55 : decode cX2_add 55 = .ok (.iconst 1, 1) := by decide +kernel
theorem dX2_add_56 : decode cX2_add 56 = .ok (.isub, 1) := by decide +kernel
theorem dX2_add_57 : decode cX2_add 57 = .ok (.ireturn, 1) := by decide +kernel
theorem dX2_knownSize_0 : decode cX2_knownSize 0 = .ok (.aload_n 0, 1) := by decide +kernel
theorem dX2_knownSize_1 : decode cX2_knownSize 1 = .ok (.getfield 25, 3) := by decide +kernel
theorem dX2_knownSize_4 : decode cX2_knownSize 4 = .ok (.iconst (-1), 1) := by decide +kernel
theorem dX2_knownSize_5 : decode cX2_knownSize 5 = .ok (.if_icmp .ne 10, 3) := by decide +kernel
theorem dX2_knownSize_8 : decode cX2_knownSize 8 = .ok (.aload_n 0, 1) := by decide +kernel
theorem dX2_knownSize_9 : decode cX2_knownSize 9 = .ok (.getfield 29, 3) := by decide +kernel
theorem dX2_knownSize_12 : decode cX2_knownSize 12 = .ok (.goto 7, 3) := by decide +kernel
theorem dX2_knownSize_15 : decode cX2_knownSize 15 = .ok (.aload_n 0, 1) := by decide +kernel
theorem dX2_knownSize_16 : decode cX2_knownSize 16 = .ok (.getfield 25, 3) := by decide +kernel
theorem dX2_knownSize_19 : decode cX2_knownSize 19 = .ok (.ireturn, 1) := by decide +kernel
theorem dX2_sift_0 : decode cX2_sift 0 = .ok (.iconst 0, 1) := by decide +kernel
theorem dX2_sift_1 : decode cX2_sift 1 = .ok (.istore_n 1, 1) := by decide +kernel
theorem dX2_sift_2 : decode cX2_sift 2 = .ok (.iload_n 1, 1) := by decide +kernel
theorem dX2_sift_3 : decode cX2_sift 3 = .ok (.bipush 24, 2) := by decide +kernel
theorem dX2_sift_5 : decode cX2_sift 5 = .ok (.if_icmp .ge 16, 3) := by decide +kernel
theorem dX2_sift_8 : decode cX2_sift 8 = .ok (.aload_n 0, 1) := by decide +kernel
theorem dX2_sift_9 : decode cX2_sift 9 = .ok (.getfield 21, 3) := by decide +kernel
theorem dX2_sift_12 : decode cX2_sift 12 = .ok (.iload_n 1, 1) := by decide +kernel
theorem dX2_sift_13 : decode cX2_sift 13 = .ok (.iconst 0, 1) := by decide +kernel
theorem dX2_sift_14 : decode cX2_sift 14 = .ok (.bastore, 1) := by decide +kernel
theorem dX2_sift_15 : decode cX2_sift 15 = .ok (.iinc 1 1, 3) := by decide +kernel
theorem dX2_sift_18 : decode cX2_sift 18 = .ok (.goto (-16), 3) := by decide +kernel
theorem dX2_sift_21 : decode cX2_sift 21 = .ok (.aload_n 0, 1) := by decide +kernel
theorem dX2_sift_22 : decode cX2_sift 22 = .ok (.invokevirtual 32, 3) := by decide +kernel
theorem dX2_sift_25 : decode cX2_sift 25 = .ok (.iconst 1, 1) := by decide +kernel
theorem dX2_sift_26 : decode cX2_sift 26 = .ok (.isub, 1) := by decide +kernel
theorem dX2_sift_27 : decode cX2_sift 27 = .ok (.istore_n 1, 1) := by decide +kernel
theorem dX2_sift_28 : decode cX2_sift 28 = .ok (.iload_n 1, 1) := by decide +kernel
theorem dX2_sift_29 : decode cX2_sift 29 = .ok (.ifCond .lt 40, 3) := by decide +kernel
theorem dX2_sift_32 : decode cX2_sift 32 = .ok (.aload_n 0, 1) := by decide +kernel
theorem dX2_sift_33 : decode cX2_sift 33 = .ok (.getfield 9, 3) := by decide +kernel
theorem dX2_sift_36 : decode cX2_sift 36 = .ok (.iload_n 1, 1) := by decide +kernel
theorem dX2_sift_37 : decode cX2_sift 37 = .ok (.iaload, 1) := by decide +kernel
theorem dX2_sift_38 : decode cX2_sift 38 = .ok (.iconst 2, 1) := by decide +kernel
theorem dX2_sift_39 : decode cX2_sift 39 = .ok (.if_icmp .ne 24, 3) := by decide +kernel
theorem dX2_sift_42 : decode cX2_sift 42 = .ok (.aload_n 0, 1) := by decide +kernel
theorem dX2_sift_43 : decode cX2_sift 43 = .ok (.getfield 21, 3) := by decide +kernel
theorem dX2_sift_46 : decode cX2_sift 46 = .ok (.iload_n 1, 1) := by decide +kernel
theorem dX2_sift_47 : decode cX2_sift 47 = .ok (.baload, 1) := by decide +kernel
theorem dX2_sift_48 : decode cX2_sift 48 = .ok (.ifCond .ne 15, 3) := by decide +kernel
theorem dX2_sift_51 : decode cX2_sift 51 = .ok (.aload_n 0, 1) := by decide +kernel
theorem dX2_sift_52 : decode cX2_sift 52 = .ok (.getfield 21, 3) := by decide +kernel
theorem dX2_sift_55 : decode cX2_sift 55 = .ok (.aload_n 0, 1) := by decide +kernel
theorem dX2_sift_56 : decode cX2_sift 56 = .ok (.getfield 18, 3) := by decide +kernel
theorem dX2_sift_59 : decode cX2_sift 59 = .ok (.iload_n 1, 1) := by decide +kernel
theorem dX2_sift_60 : decode cX2_sift 60 = .ok (.iaload, 1) := by decide +kernel
theorem dX2_sift_61 : decode cX2_sift 61 = .ok (.iconst 1, 1) := by decide +kernel
theorem dX2_sift_62 : decode cX2_sift 62 = .ok (.bastore, 1) := by decide +kernel
theorem dX2_sift_63 : decode cX2_sift 63 = .ok (.iinc 1 (-1), 3) := by decide +kernel
theorem dX2_sift_66 : decode cX2_sift 66 = .ok (.goto (-38), 3) := by decide +kernel
theorem dX2_sift_69 : decode cX2_sift 69 = .ok (.return_, 1) := by decide +kernel
theorem dX2_counts_0 : decode cX2_counts 0 = .ok (.aload_n 0, 1) := by decide +kernel
theorem dX2_counts_1 : decode cX2_counts 1 = .ok (.getfield 9, 3) := by decide +kernel
theorem dX2_counts_4 : decode cX2_counts 4 = .ok (.iload_n 1, 1) := by decide +kernel
theorem dX2_counts_5 : decode cX2_counts 5 = .ok (.iaload, 1) := by decide +kernel
theorem dX2_counts_6 : decode cX2_counts 6 = .ok (.iconst 2, 1) := by decide +kernel
theorem dX2_counts_7 : decode cX2_counts 7 = .ok (.if_icmp .eq 16, 3) := by decide +kernel
theorem dX2_counts_10 : decode cX2_counts 10 = .ok (.aload_n 0, 1) := by decide +kernel
theorem dX2_counts_11 : decode cX2_counts 11 = .ok (.getfield 21, 3) := by decide +kernel
theorem dX2_counts_14 : decode cX2_counts 14 = .ok (.iload_n 1, 1) := by decide +kernel
theorem dX2_counts_15 : decode cX2_counts 15 = .ok (.baload, 1) := by decide +kernel
theorem dX2_counts_16 : decode cX2_counts 16 = .ok (.ifCond .ne 7, 3) := by decide +kernel
theorem dX2_counts_19 : decode cX2_counts 19 = .ok (.iconst 1, 1) := by decide +kernel
theorem dX2_counts_20 : decode cX2_counts 20 = .ok (.goto 4, 3) := by decide +kernel
theorem dX2_counts_23 : decode cX2_counts 23 = .ok (.iconst 0, 1) := by decide +kernel
theorem dX2_counts_24 : decode cX2_counts 24 = .ok (.ireturn, 1) := by decide +kernel
theorem dX2_lastHour_0 : decode cX2_lastHour 0 = .ok (.iconst 0, 1) := by decide +kernel
theorem dX2_lastHour_1 : decode cX2_lastHour 1 = .ok (.istore_n 1, 1) := by decide +kernel
theorem dX2_lastHour_2 : decode cX2_lastHour 2 = .ok (.iconst 0, 1) := by decide +kernel
theorem dX2_lastHour_3 : decode cX2_lastHour 3 = .ok (.istore_n 2, 1) := by decide +kernel
theorem dX2_lastHour_4 : decode cX2_lastHour 4 = .ok (.iload_n 2, 1) := by decide +kernel
theorem dX2_lastHour_5 : decode cX2_lastHour 5 = .ok (.aload_n 0, 1) := by decide +kernel
theorem dX2_lastHour_6 : decode cX2_lastHour 6 = .ok (.invokevirtual 32, 3) := by decide +kernel
theorem dX2_lastHour_9 : decode cX2_lastHour 9 = .ok (.if_icmp .ge 28, 3) := by decide +kernel
theorem dX2_lastHour_12 : decode cX2_lastHour 12 = .ok (.aload_n 0, 1) := by decide +kernel
theorem dX2_lastHour_13 : decode cX2_lastHour 13 = .ok (.iload_n 2, 1) := by decide +kernel
theorem dX2_lastHour_14 : decode cX2_lastHour 14 = .ok (.invokevirtual 36, 3) := by decide +kernel
theorem dX2_lastHour_17 : decode cX2_lastHour 17 = .ok (.ifCond .eq 14, 3) := by decide +kernel
theorem dX2_lastHour_20 : decode cX2_lastHour 20 = .ok (.iload_n 1, 1) := by decide +kernel
theorem dX2_lastHour_21 : decode cX2_lastHour 21 = .ok (.aload_n 0, 1) := by decide +kernel
theorem dX2_lastHour_22 : decode cX2_lastHour 22 = .ok (.getfield 15, 3) := by decide +kernel
theorem dX2_lastHour_25 : decode cX2_lastHour 25 = .ok (.iload_n 2, 1) := by decide +kernel
theorem dX2_lastHour_26 : decode cX2_lastHour 26 = .ok (.iaload, 1) := by decide +kernel
theorem dX2_lastHour_27 : decode cX2_lastHour 27 = .ok (.invokestatic 40, 3) := by decide +kernel
theorem dX2_lastHour_30 : decode cX2_lastHour 30 = .ok (.istore_n 1, 1) := by decide +kernel
theorem dX2_lastHour_31 : decode cX2_lastHour 31 = .ok (.iinc 2 1, 3) := by decide +kernel
theorem dX2_lastHour_34 : decode cX2_lastHour 34 = .ok (.goto (-30), 3) := by decide +kernel
theorem dX2_lastHour_37 : decode cX2_lastHour 37 = .ok (.iload_n 1, 1) := by decide +kernel
theorem dX2_lastHour_38 : decode cX2_lastHour 38 = .ok (.ireturn, 1) := by decide +kernel
theorem dX2_agrees_0 : decode cX2_agrees 0 = .ok (.iconst 0, 1) := by decide +kernel
theorem dX2_agrees_1 : decode cX2_agrees 1 = .ok (.istore_n 3, 1) := by decide +kernel
theorem dX2_agrees_2 : decode cX2_agrees 2 = .ok (.iload_n 3, 1) := by decide +kernel
theorem dX2_agrees_3 : decode cX2_agrees 3 = .ok (.aload_n 0, 1) := by decide +kernel
theorem dX2_agrees_4 : decode cX2_agrees 4 = .ok (.invokevirtual 32, 3) := by decide +kernel
theorem dX2_agrees_7 : decode cX2_agrees 7 = .ok (.if_icmp .ge 61, 3) := by decide +kernel
theorem dX2_agrees_10 : decode cX2_agrees 10 = .ok (.aload_n 0, 1) := by decide +kernel
theorem dX2_agrees_11 : decode cX2_agrees 11 = .ok (.iload_n 3, 1) := by decide +kernel
theorem dX2_agrees_12 : decode cX2_agrees 12 = .ok (.invokevirtual 36, 3) := by decide +kernel
theorem dX2_agrees_15 : decode cX2_agrees 15 = .ok (.ifCond .eq 47, 3) := by decide +kernel
theorem dX2_agrees_18 : decode cX2_agrees 18 = .ok (.aload_n 0, 1) := by decide +kernel
theorem dX2_agrees_19 : decode cX2_agrees 19 = .ok (.getfield 15, 3) := by decide +kernel
theorem dX2_agrees_22 : decode cX2_agrees 22 = .ok (.iload_n 3, 1) := by decide +kernel
theorem dX2_agrees_23 : decode cX2_agrees 23 = .ok (.iaload, 1) := by decide +kernel
theorem dX2_agrees_24 : decode cX2_agrees 24 = .ok (.iload_n 1, 1) := by decide +kernel
theorem dX2_agrees_25 : decode cX2_agrees 25 = .ok (.if_icmp .ne 37, 3) := by decide +kernel
theorem dX2_agrees_28 : decode cX2_agrees 28 = .ok (.iload_n 2, 1) := by decide +kernel
theorem dX2_agrees_29 : decode cX2_agrees 29 = .ok (.aload_n 0, 1) := by decide +kernel
theorem dX2_agrees_30 : decode cX2_agrees 30 = .ok (.getfield 18, 3) := by decide +kernel
theorem dX2_agrees_33 : decode cX2_agrees 33 = .ok (.iload_n 3, 1) := by decide +kernel
theorem dX2_agrees_34 : decode cX2_agrees 34 = .ok (.iaload, 1) := by decide +kernel
theorem dX2_agrees_35 : decode cX2_agrees 35 = .ok (.if_icmp .lt 7, 3) := by decide +kernel
theorem dX2_agrees_38 : decode cX2_agrees 38 = .ok (.iconst 1, 1) := by decide +kernel
theorem dX2_agrees_39 : decode cX2_agrees 39 = .ok (.goto 4, 3) := by decide +kernel
theorem dX2_agrees_42 : decode cX2_agrees 42 = .ok (.iconst 0, 1) := by decide +kernel
theorem dX2_agrees_43 : decode cX2_agrees 43 = .ok (.aload_n 0, 1) := by decide +kernel
theorem dX2_agrees_44 : decode cX2_agrees 44 = .ok (.getfield 9, 3) := by decide +kernel
theorem dX2_agrees_47 : decode cX2_agrees 47 = .ok (.iload_n 3, 1) := by decide +kernel
theorem dX2_agrees_48 : decode cX2_agrees 48 = .ok (.iaload, 1) := by decide +kernel
theorem dX2_agrees_49 : decode cX2_agrees 49 = .ok (.ifCond .ne 7, 3) := by decide +kernel
theorem dX2_agrees_52 : decode cX2_agrees 52 = .ok (.iconst 1, 1) := by decide +kernel
theorem dX2_agrees_53 : decode cX2_agrees 53 = .ok (.goto 4, 3) := by decide +kernel
theorem dX2_agrees_56 : decode cX2_agrees 56 = .ok (.iconst 0, 1) := by decide +kernel
theorem dX2_agrees_57 : decode cX2_agrees 57 = .ok (.if_icmp .eq 5, 3) := by decide +kernel
theorem dX2_agrees_60 : decode cX2_agrees 60 = .ok (.iconst 0, 1) := by decide +kernel
theorem dX2_agrees_61 : decode cX2_agrees 61 = .ok (.ireturn, 1) := by decide +kernel
theorem dX2_agrees_62 : decode cX2_agrees 62 = .ok (.iinc 3 1, 3) := by decide +kernel
theorem dX2_agrees_65 : decode cX2_agrees 65 = .ok (.goto (-63), 3) := by decide +kernel
theorem dX2_agrees_68 : decode cX2_agrees 68 = .ok (.iconst 1, 1) := by decide +kernel
theorem dX2_agrees_69 : decode cX2_agrees 69 = .ok (.ireturn, 1) := by decide +kernel
theorem dX3_begin_0 : decode cX3_begin 0 = .ok (.aload_n 0, 1) := by decide +kernel
theorem dX3_begin_1 : decode cX3_begin 1 = .ok (.aload_n 1, 1) := by decide +kernel
theorem dX3_begin_2 : decode cX3_begin 2 = .ok (.putfield 44, 3) := by decide +kernel
theorem dX3_begin_5 : decode cX3_begin 5 = .ok (.aload_n 0, 1) := by decide +kernel
theorem dX3_begin_6 : decode cX3_begin 6 = .ok (.iconst 0, 1) := by decide +kernel
theorem dX3_begin_7 : decode cX3_begin 7 = .ok (.putfield 52, 3) := by decide +kernel
theorem dX3_begin_10 : decode cX3_begin 10 = .ok (.aload_n 0, 1) := by decide +kernel
theorem dX3_begin_11 : decode cX3_begin 11 = .ok (.aload_n 1, 1) := by decide +kernel
theorem dX3_begin_12 : decode cX3_begin 12 = .ok (.getfield 56, 3) := by decide +kernel
theorem dX3_begin_15 : decode cX3_begin 15 = .ok (.putfield 61, 3) := by decide +kernel
theorem dX3_begin_18 : decode cX3_begin 18 = .ok (.aload_n 0, 1) := by decide +kernel
theorem dX3_begin_19 : decode cX3_begin 19 = .ok (.iconst 0, 1) := by decide +kernel
theorem dX3_begin_20 : decode cX3_begin 20 = .ok (.putfield 62, 3) := by decide +kernel
theorem dX3_begin_23 : decode cX3_begin 23 = .ok (.aload_n 0, 1) := by decide +kernel
theorem dX3_begin_24 : decode cX3_begin 24 = .ok (.aload_n 1, 1) := by decide +kernel
theorem dX3_begin_25 : decode cX3_begin 25 = .ok (.getfield 65, 3) := by decide +kernel
theorem dX3_begin_28 : decode cX3_begin 28 = .ok (.putfield 68, 3) := by decide +kernel
theorem dX3_begin_31 : decode cX3_begin 31 = .ok (.aload_n 0, 1) := by decide +kernel
theorem dX3_begin_32 : decode cX3_begin 32 = .ok (.aload_n 1, 1) := by decide +kernel
theorem dX3_begin_33 : decode cX3_begin 33 = .ok (.getfield 69, 3) := by decide +kernel
theorem dX3_begin_36 : decode cX3_begin 36 = .ok (.putfield 72, 3) := by decide +kernel
theorem dX3_begin_39 : decode cX3_begin 39 = .ok (.aload_n 0, 1) := by decide +kernel
theorem dX3_begin_40 : decode cX3_begin 40 = .ok (.iconst 1, 1) := by decide +kernel
theorem dX3_begin_41 : decode cX3_begin 41 = .ok (.putfield 48, 3) := by decide +kernel
theorem dX3_begin_44 : decode cX3_begin 44 = .ok (.iconst 0, 1) := by decide +kernel
theorem dX3_begin_45 : decode cX3_begin 45 = .ok (.istore_n 2, 1) := by decide +kernel
theorem dX3_begin_46 : decode cX3_begin 46 = .ok (.iload_n 2, 1) := by decide +kernel
theorem dX3_begin_47 : decode cX3_begin 47 = .ok (.bipush 8, 2) := by decide +kernel
theorem dX3_begin_49 : decode cX3_begin 49 = .ok (.if_icmp .ge 44, 3) := by decide +kernel
theorem dX3_begin_52 : decode cX3_begin 52 = .ok (.aload_n 0, 1) := by decide +kernel
theorem dX3_begin_53 : decode cX3_begin 53 = .ok (.getfield 11, 3) := by decide +kernel
theorem dX3_begin_56 : decode cX3_begin 56 = .ok (.iload_n 2, 1) := by decide +kernel
theorem dX3_begin_57 : decode cX3_begin 57 = .ok (.aload_n 1, 1) := by decide +kernel
theorem dX3_begin_58 : decode cX3_begin 58 = .ok (.getfield 75, 3) := by decide +kernel
theorem dX3_begin_61 : decode cX3_begin 61 = .ok (.iload_n 2, 1) := by decide +kernel
theorem dX3_begin_62 : decode cX3_begin 62 = .ok (.iaload, 1) := by decide +kernel
theorem dX3_begin_63 : decode cX3_begin 63 = .ok (.iastore, 1) := by decide +kernel
theorem dX3_begin_64 : decode cX3_begin 64 = .ok (.aload_n 0, 1) := by decide +kernel
theorem dX3_begin_65 : decode cX3_begin 65 = .ok (.getfield 17, 3) := by decide +kernel
theorem dX3_begin_68 : decode cX3_begin 68 = .ok (.iload_n 2, 1) := by decide +kernel
theorem dX3_begin_69 : decode cX3_begin 69 = .ok (.aload_n 1, 1) := by decide +kernel
theorem dX3_begin_70 : decode cX3_begin 70 = .ok (.getfield 76, 3) := by decide +kernel
theorem dX3_begin_73 : decode cX3_begin 73 = .ok (.ifCond .le 12, 3) := by decide +kernel
theorem dX3_begin_76 : decode cX3_begin 76 = .ok (.iload_n 2, 1) := by decide +kernel
theorem dX3_begin_77 : decode cX3_begin 77 = .ok (.aload_n 1, 1) := by decide +kernel
theorem dX3_begin_78 : decode cX3_begin 78 = .ok (.getfield 76, 3) := by decide +kernel
theorem dX3_begin_81 : decode cX3_begin 81 = .ok (.irem, 1) := by decide +kernel
theorem dX3_begin_82 : decode cX3_begin 82 = .ok (.goto 4, 3) := by decide +kernel
theorem dX3_begin_85 : decode cX3_begin 85 = .ok (.iconst (-1), 1) := by decide +kernel
theorem dX3_begin_86 : decode cX3_begin 86 = .ok (.iastore, 1) := by decide +kernel
theorem dX3_begin_87 : decode cX3_begin 87 = .ok (.iinc 2 1, 3) := by decide +kernel
theorem dX3_begin_90 : decode cX3_begin 90 = .ok (.goto (-44), 3) := by decide +kernel
theorem dX3_begin_93 : decode cX3_begin 93 = .ok (.iconst 0, 1) := by decide +kernel
theorem dX3_begin_94 : decode cX3_begin 94 = .ok (.istore_n 2, 1) := by decide +kernel
theorem dX3_begin_95 : decode cX3_begin 95 = .ok (.iload_n 2, 1) := by decide +kernel
theorem dX3_begin_96 : decode cX3_begin 96 = .ok (.iconst 4, 1) := by decide +kernel
theorem dX3_begin_97 : decode cX3_begin 97 = .ok (.if_icmp .ge 66, 3) := by decide +kernel
theorem dX3_begin_100 : decode cX3_begin 100 = .ok (.aload_n 0, 1) := by decide +kernel
theorem dX3_begin_101 : decode cX3_begin 101 = .ok (.getfield 20, 3) := by decide +kernel
theorem dX3_begin_104 : decode cX3_begin 104 = .ok (.iload_n 2, 1) := by decide +kernel
theorem dX3_begin_105 : decode cX3_begin 105 = .ok (.aload_n 1, 1) := by decide +kernel
theorem dX3_begin_106 : decode cX3_begin 106 = .ok (.getfield 79, 3) := by decide +kernel
theorem dX3_begin_109 : decode cX3_begin 109 = .ok (.iload_n 2, 1) := by decide +kernel
theorem dX3_begin_110 : decode cX3_begin 110 = .ok (.iaload, 1) := by decide +kernel
theorem dX3_begin_111 : decode cX3_begin 111 = .ok (.iastore, 1) := by decide +kernel
theorem dX3_begin_112 : decode cX3_begin 112 = .ok (.aload_n 0, 1) := by decide +kernel
theorem dX3_begin_113 : decode cX3_begin 113 = .ok (.getfield 23, 3) := by decide +kernel
theorem dX3_begin_116 : decode cX3_begin 116 = .ok (.iload_n 2, 1) := by decide +kernel
theorem dX3_begin_117 : decode cX3_begin 117 = .ok (.aload_n 1, 1) := by decide +kernel
theorem dX3_begin_118 : decode cX3_begin 118 = .ok (.getfield 80, 3) := by decide +kernel
theorem dX3_begin_121 : decode cX3_begin 121 = .ok (.iload_n 2, 1) := by decide +kernel
theorem dX3_begin_122 : decode cX3_begin 122 = .ok (.iaload, 1) := by decide +kernel
theorem dX3_begin_123 : decode cX3_begin 123 = .ok (.iastore, 1) := by decide +kernel
theorem dX3_begin_124 : decode cX3_begin 124 = .ok (.aload_n 0, 1) := by decide +kernel
theorem dX3_begin_125 : decode cX3_begin 125 = .ok (.getfield 26, 3) := by decide +kernel
theorem dX3_begin_128 : decode cX3_begin 128 = .ok (.iload_n 2, 1) := by decide +kernel
theorem dX3_begin_129 : decode cX3_begin 129 = .ok (.aload_n 1, 1) := by decide +kernel
theorem dX3_begin_130 : decode cX3_begin 130 = .ok (.getfield 81, 3) := by decide +kernel
theorem dX3_begin_133 : decode cX3_begin 133 = .ok (.iload_n 2, 1) := by decide +kernel
theorem dX3_begin_134 : decode cX3_begin 134 = .ok (.iaload, 1) := by decide +kernel
theorem dX3_begin_135 : decode cX3_begin 135 = .ok (.iastore, 1) := by decide +kernel
theorem dX3_begin_136 : decode cX3_begin 136 = .ok (.aload_n 0, 1) := by decide +kernel
theorem dX3_begin_137 : decode cX3_begin 137 = .ok (.getfield 29, 3) := by decide +kernel
theorem dX3_begin_140 : decode cX3_begin 140 = .ok (.iload_n 2, 1) := by decide +kernel
theorem dX3_begin_141 : decode cX3_begin 141 = .ok (.iconst 0, 1) := by decide +kernel
theorem dX3_begin_142 : decode cX3_begin 142 = .ok (.iastore, 1) := by decide +kernel
theorem dX3_begin_143 : decode cX3_begin 143 = .ok (.aload_n 0, 1) := by decide +kernel
theorem dX3_begin_144 : decode cX3_begin 144 = .ok (.getfield 32, 3) := by decide +kernel
theorem dX3_begin_147 : decode cX3_begin 147 = .ok (.iload_n 2, 1) := by decide +kernel
theorem dX3_begin_148 : decode cX3_begin 148 = .ok (.iconst 0, 1) := by decide +kernel
theorem dX3_begin_149 : decode cX3_begin 149 = .ok (.iastore, 1) := by decide +kernel
theorem dX3_begin_150 : decode cX3_begin 150 = .ok (.aload_n 0, 1) := by decide +kernel
theorem dX3_begin_151 : decode cX3_begin 151 = .ok (.getfield 35, 3) := by decide +kernel
theorem dX3_begin_154 : decode cX3_begin 154 = .ok (.iload_n 2, 1) := by decide +kernel
theorem dX3_begin_155 : decode cX3_begin 155 = .ok (.iconst 0, 1) := by decide +kernel
theorem dX3_begin_156 : decode cX3_begin 156 = .ok (.iastore, 1) := by decide +kernel
theorem dX3_begin_157 : decode cX3_begin 157 = .ok (.iinc 2 1, 3) := by decide +kernel
theorem dX3_begin_160 : decode cX3_begin 160 = .ok (.goto (-65), 3) := by decide +kernel
theorem dX3_begin_163 : decode cX3_begin 163 = .ok (.iconst 0, 1) := by decide +kernel
theorem dX3_begin_164 : decode cX3_begin 164 = .ok (.istore_n 2, 1) := by decide +kernel
theorem dX3_begin_165 : decode cX3_begin 165 = .ok (.iload_n 2, 1) := by decide +kernel
theorem dX3_begin_166 : decode cX3_begin 166 = .ok (.bipush 6, 2) := by decide +kernel
theorem dX3_begin_168 : decode cX3_begin 168 = .ok (.if_icmp .ge 16, 3) := by decide +kernel
theorem dX3_begin_171 : decode cX3_begin 171 = .ok (.aload_n 0, 1) := by decide +kernel
theorem dX3_begin_172 : decode cX3_begin 172 = .ok (.getfield 41, 3) := by decide +kernel
theorem dX3_begin_175 : decode cX3_begin 175 = .ok (.iload_n 2, 1) := by decide +kernel
theorem dX3_begin_176 : decode cX3_begin 176 = .ok (.iconst 0, 1) := by decide +kernel
theorem dX3_begin_177 : decode cX3_begin 177 = .ok (.iastore, 1) := by decide +kernel
theorem dX3_begin_178 : decode cX3_begin 178 = .ok (.iinc 2 1, 3) := by decide +kernel
theorem dX3_begin_181 : decode cX3_begin 181 = .ok (.goto (-16), 3) := by decide +kernel
theorem dX3_begin_184 : decode cX3_begin 184 = .ok (.return_, 1) := by decide +kernel
theorem dX3_copy_0 : decode cX3_copy 0 = .ok (.aload_n 0, 1) := by decide +kernel
theorem dX3_copy_1 : decode cX3_copy 1 = .ok (.aload_n 1, 1) := by decide +kernel
theorem dX3_copy_2 : decode cX3_copy 2 = .ok (.getfield 44, 3) := by decide +kernel
theorem dX3_copy_5 : decode cX3_copy 5 = .ok (.putfield 44, 3) := by decide +kernel
theorem dX3_copy_8 : decode cX3_copy 8 = .ok (.aload_n 0, 1) := by decide +kernel
theorem dX3_copy_9 : decode cX3_copy 9 = .ok (.aload_n 1, 1) := by decide +kernel
theorem dX3_copy_10 : decode cX3_copy 10 = .ok (.getfield 52, 3) := by decide +kernel
theorem dX3_copy_13 : decode cX3_copy 13 = .ok (.putfield 52, 3) := by decide +kernel
theorem dX3_copy_16 : decode cX3_copy 16 = .ok (.aload_n 0, 1) := by decide +kernel
theorem dX3_copy_17 : decode cX3_copy 17 = .ok (.aload_n 1, 1) := by decide +kernel
theorem dX3_copy_18 : decode cX3_copy 18 = .ok (.getfield 61, 3) := by decide +kernel
theorem dX3_copy_21 : decode cX3_copy 21 = .ok (.putfield 61, 3) := by decide +kernel
theorem dX3_copy_24 : decode cX3_copy 24 = .ok (.aload_n 0, 1) := by decide +kernel
theorem dX3_copy_25 : decode cX3_copy 25 = .ok (.aload_n 1, 1) := by decide +kernel
theorem dX3_copy_26 : decode cX3_copy 26 = .ok (.getfield 62, 3) := by decide +kernel
theorem dX3_copy_29 : decode cX3_copy 29 = .ok (.putfield 62, 3) := by decide +kernel
theorem dX3_copy_32 : decode cX3_copy 32 = .ok (.aload_n 0, 1) := by decide +kernel
theorem dX3_copy_33 : decode cX3_copy 33 = .ok (.aload_n 1, 1) := by decide +kernel
theorem dX3_copy_34 : decode cX3_copy 34 = .ok (.getfield 68, 3) := by decide +kernel
theorem dX3_copy_37 : decode cX3_copy 37 = .ok (.putfield 68, 3) := by decide +kernel
theorem dX3_copy_40 : decode cX3_copy 40 = .ok (.aload_n 0, 1) := by decide +kernel
theorem dX3_copy_41 : decode cX3_copy 41 = .ok (.aload_n 1, 1) := by decide +kernel
theorem dX3_copy_42 : decode cX3_copy 42 = .ok (.getfield 72, 3) := by decide +kernel
theorem dX3_copy_45 : decode cX3_copy 45 = .ok (.putfield 72, 3) := by decide +kernel
theorem dX3_copy_48 : decode cX3_copy 48 = .ok (.aload_n 0, 1) := by decide +kernel
theorem dX3_copy_49 : decode cX3_copy 49 = .ok (.aload_n 1, 1) := by decide +kernel
theorem dX3_copy_50 : decode cX3_copy 50 = .ok (.getfield 48, 3) := by decide +kernel
theorem dX3_copy_53 : decode cX3_copy 53 = .ok (.putfield 48, 3) := by decide +kernel
theorem dX3_copy_56 : decode cX3_copy 56 = .ok (.aload_n 1, 1) := by decide +kernel
theorem dX3_copy_57 : decode cX3_copy 57 = .ok (.getfield 11, 3) := by decide +kernel
theorem dX3_copy_60 : decode cX3_copy 60 = .ok (.iconst 0, 1) := by decide +kernel
theorem dX3_copy_61 : decode cX3_copy 61 = .ok (.aload_n 0, 1) := by decide +kernel
theorem dX3_copy_62 : decode cX3_copy 62 = .ok (.getfield 11, 3) := by decide +kernel
theorem dX3_copy_65 : decode cX3_copy 65 = .ok (.iconst 0, 1) := by decide +kernel
theorem dX3_copy_66 : decode cX3_copy 66 = .ok (.bipush 8, 2) := by decide +kernel
theorem dX3_copy_68 : decode cX3_copy 68 = .ok (.invokestatic 82, 3) := by decide +kernel
theorem dX3_copy_71 : decode cX3_copy 71 = .ok (.aload_n 1, 1) := by decide +kernel
theorem dX3_copy_72 : decode cX3_copy 72 = .ok (.getfield 17, 3) := by decide +kernel
theorem dX3_copy_75 : decode cX3_copy 75 = .ok (.iconst 0, 1) := by decide +kernel
theorem dX3_copy_76 : decode cX3_copy 76 = .ok (.aload_n 0, 1) := by decide +kernel
theorem dX3_copy_77 : decode cX3_copy 77 = .ok (.getfield 17, 3) := by decide +kernel
theorem dX3_copy_80 : decode cX3_copy 80 = .ok (.iconst 0, 1) := by decide +kernel
theorem dX3_copy_81 : decode cX3_copy 81 = .ok (.bipush 8, 2) := by decide +kernel
theorem dX3_copy_83 : decode cX3_copy 83 = .ok (.invokestatic 82, 3) := by decide +kernel
theorem dX3_copy_86 : decode cX3_copy 86 = .ok (.aload_n 1, 1) := by decide +kernel
theorem dX3_copy_87 : decode cX3_copy 87 = .ok (.getfield 20, 3) := by decide +kernel
theorem dX3_copy_90 : decode cX3_copy 90 = .ok (.iconst 0, 1) := by decide +kernel
theorem dX3_copy_91 : decode cX3_copy 91 = .ok (.aload_n 0, 1) := by decide +kernel
theorem dX3_copy_92 : decode cX3_copy 92 = .ok (.getfield 20, 3) := by decide +kernel
theorem dX3_copy_95 : decode cX3_copy 95 = .ok (.iconst 0, 1) := by decide +kernel
theorem dX3_copy_96 : decode cX3_copy 96 = .ok (.iconst 4, 1) := by decide +kernel
theorem dX3_copy_97 : decode cX3_copy 97 = .ok (.invokestatic 82, 3) := by decide +kernel
theorem dX3_copy_100 : decode cX3_copy 100 = .ok (.aload_n 1, 1) := by decide +kernel
theorem dX3_copy_101 : decode cX3_copy 101 = .ok (.getfield 23, 3) := by decide +kernel
theorem dX3_copy_104 : decode cX3_copy 104 = .ok (.iconst 0, 1) := by decide +kernel
theorem dX3_copy_105 : decode cX3_copy 105 = .ok (.aload_n 0, 1) := by decide +kernel
theorem dX3_copy_106 : decode cX3_copy 106 = .ok (.getfield 23, 3) := by decide +kernel
theorem dX3_copy_109 : decode cX3_copy 109 = .ok (.iconst 0, 1) := by decide +kernel
theorem dX3_copy_110 : decode cX3_copy 110 = .ok (.iconst 4, 1) := by decide +kernel
theorem dX3_copy_111 : decode cX3_copy 111 = .ok (.invokestatic 82, 3) := by decide +kernel
theorem dX3_copy_114 : decode cX3_copy 114 = .ok (.aload_n 1, 1) := by decide +kernel
theorem dX3_copy_115 : decode cX3_copy 115 = .ok (.getfield 26, 3) := by decide +kernel
theorem dX3_copy_118 : decode cX3_copy 118 = .ok (.iconst 0, 1) := by decide +kernel
theorem dX3_copy_119 : decode cX3_copy 119 = .ok (.aload_n 0, 1) := by decide +kernel
theorem dX3_copy_120 : decode cX3_copy 120 = .ok (.getfield 26, 3) := by decide +kernel
theorem dX3_copy_123 : decode cX3_copy 123 = .ok (.iconst 0, 1) := by decide +kernel
theorem dX3_copy_124 : decode cX3_copy 124 = .ok (.iconst 4, 1) := by decide +kernel
theorem dX3_copy_125 : decode cX3_copy 125 = .ok (.invokestatic 82, 3) := by decide +kernel
theorem dX3_copy_128 : decode cX3_copy 128 = .ok (.aload_n 1, 1) := by decide +kernel
theorem dX3_copy_129 : decode cX3_copy 129 = .ok (.getfield 29, 3) := by decide +kernel
theorem dX3_copy_132 : decode cX3_copy 132 = .ok (.iconst 0, 1) := by decide +kernel
theorem dX3_copy_133 : decode cX3_copy 133 = .ok (.aload_n 0, 1) := by decide +kernel
theorem dX3_copy_134 : decode cX3_copy 134 = .ok (.getfield 29, 3) := by decide +kernel
theorem dX3_copy_137 : decode cX3_copy 137 = .ok (.iconst 0, 1) := by decide +kernel
theorem dX3_copy_138 : decode cX3_copy 138 = .ok (.iconst 4, 1) := by decide +kernel
theorem dX3_copy_139 : decode cX3_copy 139 = .ok (.invokestatic 82, 3) := by decide +kernel
theorem dX3_copy_142 : decode cX3_copy 142 = .ok (.aload_n 1, 1) := by decide +kernel
theorem dX3_copy_143 : decode cX3_copy 143 = .ok (.getfield 32, 3) := by decide +kernel
theorem dX3_copy_146 : decode cX3_copy 146 = .ok (.iconst 0, 1) := by decide +kernel
theorem dX3_copy_147 : decode cX3_copy 147 = .ok (.aload_n 0, 1) := by decide +kernel
theorem dX3_copy_148 : decode cX3_copy 148 = .ok (.getfield 32, 3) := by decide +kernel
theorem dX3_copy_151 : decode cX3_copy 151 = .ok (.iconst 0, 1) := by decide +kernel
theorem dX3_copy_152 : decode cX3_copy 152 = .ok (.iconst 4, 1) := by decide +kernel
theorem dX3_copy_153 : decode cX3_copy 153 = .ok (.invokestatic 82, 3) := by decide +kernel
theorem dX3_copy_156 : decode cX3_copy 156 = .ok (.aload_n 1, 1) := by decide +kernel
theorem dX3_copy_157 : decode cX3_copy 157 = .ok (.getfield 35, 3) := by decide +kernel
theorem dX3_copy_160 : decode cX3_copy 160 = .ok (.iconst 0, 1) := by decide +kernel
theorem dX3_copy_161 : decode cX3_copy 161 = .ok (.aload_n 0, 1) := by decide +kernel
theorem dX3_copy_162 : decode cX3_copy 162 = .ok (.getfield 35, 3) := by decide +kernel
theorem dX3_copy_165 : decode cX3_copy 165 = .ok (.iconst 0, 1) := by decide +kernel
theorem dX3_copy_166 : decode cX3_copy 166 = .ok (.iconst 4, 1) := by decide +kernel
theorem dX3_copy_167 : decode cX3_copy 167 = .ok (.invokestatic 82, 3) := by decide +kernel
theorem dX3_copy_170 : decode cX3_copy 170 = .ok (.aload_n 1, 1) := by decide +kernel
theorem dX3_copy_171 : decode cX3_copy 171 = .ok (.getfield 41, 3) := by decide +kernel
theorem dX3_copy_174 : decode cX3_copy 174 = .ok (.iconst 0, 1) := by decide +kernel
theorem dX3_copy_175 : decode cX3_copy 175 = .ok (.aload_n 0, 1) := by decide +kernel
theorem dX3_copy_176 : decode cX3_copy 176 = .ok (.getfield 41, 3) := by decide +kernel
theorem dX3_copy_179 : decode cX3_copy 179 = .ok (.iconst 0, 1) := by decide +kernel
theorem dX3_copy_180 : decode cX3_copy 180 = .ok (.bipush 6, 2) := by decide +kernel
theorem dX3_copy_182 : decode cX3_copy 182 = .ok (.invokestatic 82, 3) := by decide +kernel
theorem dX3_copy_185 : decode cX3_copy 185 = .ok (.return_, 1) := by decide +kernel
def f_X2_add (h : Hp) (p1 : Int32) (p2 : Int32) (p3 : Int32) : Option (Int32 × Hp) :=
  if (gI h 2 0 4) < 24 then
    grd (inb (gI h 2 0 4) 24) <| lt_ (sA h 2 0 0 (gI h 2 0 4).toNatClampNeg p1) fun h1 =>
    grd (inb (gI h1 2 0 4) 24) <| lt_ (sA h1 2 0 1 (gI h1 2 0 4).toNatClampNeg p2) fun h2 =>
    grd (inb (gI h2 2 0 4) 24) <| lt_ (sA h2 2 0 2 (gI h2 2 0 4).toNatClampNeg p3) fun h3 =>
    lt_ (sI h3 2 0 4 ((gI h3 2 0 4) + 1)) fun h4 =>
    some (((gI h4 2 0 4) - 1), h4)
  else
  some ((-1), h)
abbrev rmX2_add : Room := { frames := 0, cells := 0, slots := 0, locals := 0 }
set_option maxRecDepth 100000 in
set_option maxHeartbeats 4000000 in
theorem w_X2_add (X : Cx) (F : Fx X cX2_add RX2 (some .int) rmX2_add) (hA : xA X = Aw (xG X)) (hL : xL X = 4) (h : Hp) (p1 : Int32) (p2 : Int32) (p3 : Int32) : Wm X (fun v => some (.int v.1)) (fun v => v.2) (fun _ => True) 0 [(0, .ref (adr (xG X) 2 0 0)), (1, .int p1), (2, .int p2), (3, .int p3)] [] h (f_X2_add h p1 p2 p3) := by
  have hS : ∀ i : Nat, i < 4 → i < xL X := fun i z => by rw [hL]; exact z
  unfold f_X2_add
  refine r_aload_n F 0 rfl dX2_add_0 rfl ?_
  refine r_getI F frX2_29 (by decide) dX2_add_1 ?_
  refine r_bipush F (v := 24) dX2_add_4 (by decide) ?_
  refine r_icmplt F (tgt := 11) dX2_add_6 (by decide) ?_ ?_
  · skip
    refine r_aload_n F 0 rfl dX2_add_11 rfl ?_
    refine r_getA F frX2_9 (by decide) dX2_add_12 ?_
    refine r_aload_n F 0 rfl dX2_add_15 rfl ?_
    refine r_getI F frX2_29 (by decide) dX2_add_16 ?_
    refine r_iload_n F 1 rfl dX2_add_19 rfl ?_
    refine r_iastore F (ar_2_0 0 (by decide)) dX2_add_20 fun h1 => ?_
    refine r_aload_n F 0 rfl dX2_add_21 rfl ?_
    refine r_getA F frX2_15 (by decide) dX2_add_22 ?_
    refine r_aload_n F 0 rfl dX2_add_25 rfl ?_
    refine r_getI F frX2_29 (by decide) dX2_add_26 ?_
    refine r_iload_n F 2 rfl dX2_add_29 rfl ?_
    refine r_iastore F (ar_2_1 0 (by decide)) dX2_add_30 fun h2 => ?_
    refine r_aload_n F 0 rfl dX2_add_31 rfl ?_
    refine r_getA F frX2_18 (by decide) dX2_add_32 ?_
    refine r_aload_n F 0 rfl dX2_add_35 rfl ?_
    refine r_getI F frX2_29 (by decide) dX2_add_36 ?_
    refine r_iload_n F 3 rfl dX2_add_39 rfl ?_
    refine r_iastore F (ar_2_2 0 (by decide)) dX2_add_40 fun h3 => ?_
    refine r_aload_n F 0 rfl dX2_add_41 rfl ?_
    refine r_dup F rfl dX2_add_42 ?_
    refine r_getI F frX2_29 (by decide) dX2_add_43 ?_
    refine r_iconst F (v := 1) dX2_add_46 (by decide) ?_
    refine r_iadd F dX2_add_47 ?_
    refine r_putI F frX2_29 (by decide) rfl rfl dX2_add_48 fun h4 => ?_
    refine r_aload_n F 0 rfl dX2_add_51 rfl ?_
    refine r_getI F frX2_29 (by decide) dX2_add_52 ?_
    refine r_iconst F (v := 1) dX2_add_55 (by decide) ?_
    refine r_isub F dX2_add_56 ?_
    exact r_iret F hA rfl rfl trivial dX2_add_57
  refine r_iconst F (v := (-1)) dX2_add_9 (by decide) ?_
  exact r_iret F hA rfl rfl trivial dX2_add_10
theorem c_X2_add (G : Gx) (l : Launch) (h : Hp) (p1 : Int32) (p2 : Int32) (p3 : Int32) : Ctr G l yX2_add (.code yX2_add cX2_add 4 (some .int) :: GT) rmX2_add [.ref (adr G 2 0 0), .int p1, .int p2, .int p3] h (f_X2_add h p1 p2 p3) (fun v => some (.int v.1)) (fun v => v.2) (fun _ => True) :=
  ctr_of (by decide) (Nat.le_of_ble_eq_true rfl) ⟨rfl, rfl⟩ fun X _ e2 hA hL F => by subst e2; exact w_X2_add X F hA hL h p1 p2 p3
def f_X2_knownSize (h : Hp) : Option Int32 :=
  jn (fun (v1 : Int32) =>
    some v1) fun (j19 : Int32 → Option Int32) =>
  if ¬ (gI h 2 0 5) = (-1) then
    j19 (gI h 2 0 5)
  else
  j19 (gI h 2 0 4)
abbrev rmX2_knownSize : Room := { frames := 0, cells := 0, slots := 0, locals := 0 }
set_option maxRecDepth 100000 in
set_option maxHeartbeats 4000000 in
theorem w_X2_knownSize (X : Cx) (F : Fx X cX2_knownSize RX2 (some .int) rmX2_knownSize) (hA : xA X = Aw (xG X)) (hL : xL X = 1) (h : Hp) : Wm X (fun v => some (.int v)) (fun _ => h) (fun _ => True) 0 [(0, .ref (adr (xG X) 2 0 0))] [] h (f_X2_knownSize h) := by
  have hS : ∀ i : Nat, i < 1 → i < xL X := fun i z => by rw [hL]; exact z
  unfold f_X2_knownSize
  refine r_aload_n F 0 rfl dX2_knownSize_0 rfl ?_
  refine r_getI F frX2_25 (by decide) dX2_knownSize_1 ?_
  refine r_iconst F (v := (-1)) dX2_knownSize_4 (by decide) ?_
  refine Wt_jn (fun (j19 : Int32 → Option Int32) => ∀ v1 : Int32, Wm X (fun v => some (.int v)) (fun _ => h) (fun _ => True) 19 [] [.int v1] h (j19 v1)) ?_ fun j19 hj19 => ?_
  · intro v1
    exact r_iret F hA rfl rfl trivial dX2_knownSize_19
  refine r_icmpne F (tgt := 15) dX2_knownSize_5 (by decide) ?_ ?_
  · skip
    refine r_aload_n F 0 rfl dX2_knownSize_15 rfl ?_
    refine r_getI F frX2_25 (by decide) dX2_knownSize_16 ?_
    exact Wt_pick [] rfl (hj19 (gI h 2 0 5))
  refine r_aload_n F 0 rfl dX2_knownSize_8 rfl ?_
  refine r_getI F frX2_29 (by decide) dX2_knownSize_9 ?_
  refine r_goto F (tgt := 19) dX2_knownSize_12 (by decide) ?_
  exact Wt_pick [] rfl (hj19 (gI h 2 0 4))
theorem c_X2_knownSize (G : Gx) (l : Launch) (h : Hp) : Ctr G l yX2_knownSize (.code yX2_knownSize cX2_knownSize 1 (some .int) :: GT) rmX2_knownSize [.ref (adr G 2 0 0)] h (f_X2_knownSize h) (fun v => some (.int v)) (fun _ => h) (fun _ => True) :=
  ctr_of (by decide) (Nat.le_of_ble_eq_true rfl) ⟨rfl, rfl⟩ fun X _ e2 hA hL F => by subst e2; exact w_X2_knownSize X F hA hL h
def f_X2_sift_28 (r28 : Int32 → Hp → Option Hp) (v5 : Int32) (h6 : Hp) : Option Hp :=
  if v5 < 0 then
    some h6
  else
  grd (inb v5 24) <|
  jn (fun (h7 : Hp) =>
    lt_ (v5 + (-1)) fun v8 =>
    r28 v8 h7) fun (j63 : Hp → Option Hp) =>
  if ¬ (gA h6 2 0 0 v5.toNatClampNeg) = 2 then
    j63 h6
  else
  grd (inb v5 24) <|
  if ¬ (b2i (gY h6 2 0 3 v5.toNatClampNeg)) = 0 then
    j63 h6
  else
  grd (inb v5 24) <|
  grd (inb (gA h6 2 0 2 v5.toNatClampNeg) 24) <| lt_ (sY h6 2 0 3 (gA h6 2 0 2 v5.toNatClampNeg).toNatClampNeg true) fun h9 =>
  j63 h9
def f_X2_sift_2 (N : Nat) (r2 : Int32 → Hp → Option Hp) (v1 : Int32) (h2 : Hp) : Option Hp :=
  if 24 ≤ v1 then
    (f_X2_knownSize h2).bind fun v3 =>
    lt_ ((v3 - 1)) fun v4 =>
    iter (fun _ _ => none) f_X2_sift_28 N v4 h2
  else
  grd (inb v1 24) <| lt_ (sY h2 2 0 3 v1.toNatClampNeg false) fun h10 =>
  lt_ (v1 + 1) fun v11 =>
  r2 v11 h10
def f_X2_sift (N : Nat) (h : Hp) : Option Hp :=
  iter (fun _ _ => none) (f_X2_sift_2 N) N 0 h
abbrev rmX2_sift : Room := { frames := 1, cells := 0, slots := 0, locals := 20 }
set_option maxRecDepth 100000 in
set_option maxHeartbeats 4000000 in
theorem w_X2_sift (X : Cx) (F : Fx X cX2_sift RX2 none rmX2_sift) (hA : xA X = Aw (xG X)) (hL : xL X = 2) (N : Nat) (h : Hp) : Wm X (fun _ => none) (fun v => v) (fun _ => True) 0 [(0, .ref (adr (xG X) 2 0 0))] [] h (f_X2_sift N h) := by
  have hS : ∀ i : Nat, i < 2 → i < xL X := fun i z => by rw [hL]; exact z
  unfold f_X2_sift
  refine r_iconst F (v := 0) dX2_sift_0 (by decide) ?_
  refine r_istore_n F [(1, .int 0), (0, .ref (adr (xG X) 2 0 0))] rfl dX2_sift_1 rfl (hS _ (by decide)) ?_
  have hl2 : ∀ n : Nat, ∀ v1 : Int32, ∀ h2 : Hp, Wm X (fun _ => none) (fun v => v) (fun _ => True) 2 [(0, .ref (adr (xG X) 2 0 0)), (1, .int v1)] [] h2 (iter (fun _ _ => none) (f_X2_sift_2 N) n v1 h2) := by
    intro n
    induction n with
    | zero => intro v1 h2; exact Wt_none
    | succ n ih =>
      revert ih
      show (∀ v1 : Int32, ∀ h2 : Hp, Wm X (fun _ => none) (fun v => v) (fun _ => True) 2 [(0, .ref (adr (xG X) 2 0 0)), (1, .int v1)] [] h2 (iter (fun _ _ => none) (f_X2_sift_2 N) n v1 h2)) → _
      intro ih2 v1 h2
      show Wm X (fun _ => none) (fun v => v) (fun _ => True) 2 [(0, .ref (adr (xG X) 2 0 0)), (1, .int v1)] [] h2 (f_X2_sift_2 N (iter (fun _ _ => none) (f_X2_sift_2 N) n) v1 h2)
      revert ih2
      generalize iter (fun _ _ => none) (f_X2_sift_2 N) n = r2
      intro ih2
      unfold f_X2_sift_2
      refine r_iload_n F 1 rfl dX2_sift_2 rfl ?_
      refine r_bipush F (v := 24) dX2_sift_3 (by decide) ?_
      refine r_icmpge F (tgt := 21) dX2_sift_5 (by decide) ?_ ?_
      · skip
        refine r_aload_n F 0 rfl dX2_sift_21 rfl ?_
        refine k_iP (run_V F cvX2_32 (by decide) (c_X2_knownSize (xG X) _ h2) rfl rfl ⟨⟨rfl, rfl⟩, Nat.le_of_ble_eq_true rfl, Nat.le_of_ble_eq_true rfl⟩ (Nat.le_of_ble_eq_true rfl) dX2_sift_22) fun v3 _ => ?_
        refine r_iconst F (v := 1) dX2_sift_25 (by decide) ?_
        refine r_isub F dX2_sift_26 ?_
        refine r_nmI fun v4 => ?_
        refine r_istore_n F [(1, .int v4), (0, .ref (adr (xG X) 2 0 0))] rfl dX2_sift_27 rfl (hS _ (by decide)) ?_
        have hl28 : ∀ n : Nat, ∀ v5 : Int32, ∀ h6 : Hp, Wm X (fun _ => none) (fun v => v) (fun _ => True) 28 [(0, .ref (adr (xG X) 2 0 0)), (1, .int v5)] [] h6 (iter (fun _ _ => none) f_X2_sift_28 n v5 h6) := by
          intro n
          induction n with
          | zero => intro v5 h6; exact Wt_none
          | succ n ih =>
            revert ih
            show (∀ v5 : Int32, ∀ h6 : Hp, Wm X (fun _ => none) (fun v => v) (fun _ => True) 28 [(0, .ref (adr (xG X) 2 0 0)), (1, .int v5)] [] h6 (iter (fun _ _ => none) f_X2_sift_28 n v5 h6)) → _
            intro ih28 v5 h6
            show Wm X (fun _ => none) (fun v => v) (fun _ => True) 28 [(0, .ref (adr (xG X) 2 0 0)), (1, .int v5)] [] h6 (f_X2_sift_28 (iter (fun _ _ => none) f_X2_sift_28 n) v5 h6)
            revert ih28
            generalize iter (fun _ _ => none) f_X2_sift_28 n = r28
            intro ih28
            unfold f_X2_sift_28
            refine r_iload_n F 1 rfl dX2_sift_28 rfl ?_
            refine r_iflt F (tgt := 69) dX2_sift_29 (by decide) ?_ ?_
            · skip
              exact r_vret F hA rfl rfl trivial dX2_sift_69
            refine r_aload_n F 0 rfl dX2_sift_32 rfl ?_
            refine r_getA F frX2_9 (by decide) dX2_sift_33 ?_
            refine r_iload_n F 1 rfl dX2_sift_36 rfl ?_
            refine r_iaload F (ar_2_0 0 (by decide)) dX2_sift_37 ?_
            refine r_iconst F (v := 2) dX2_sift_38 (by decide) ?_
            refine Wt_jn (fun (j63 : Hp → Option Hp) => ∀ h7 : Hp, Wm X (fun _ => none) (fun v => v) (fun _ => True) 63 [(0, .ref (adr (xG X) 2 0 0)), (1, .int v5)] [] h7 (j63 h7)) ?_ fun j63 hj63 => ?_
            · intro h7
              refine r_iinc F (v := (-1)) 1 rfl (by decide) (fun v8 => [(1, .int v8), (0, .ref (adr (xG X) 2 0 0))]) (fun _ => rfl) dX2_sift_63 (hS _ (by decide)) fun v8 => ?_
              refine r_goto F (tgt := 28) dX2_sift_66 (by decide) ?_
              exact Wt_pick [1, 0] rfl (ih28 v8 h7)
            refine r_icmpne F (tgt := 63) dX2_sift_39 (by decide) ?_ ?_
            · skip
              exact Wt_pick [0, 1] rfl (hj63 h6)
            refine r_aload_n F 0 rfl dX2_sift_42 rfl ?_
            refine r_getA F frX2_21 (by decide) dX2_sift_43 ?_
            refine r_iload_n F 1 rfl dX2_sift_46 rfl ?_
            refine r_baload F (ar_2_3 0 (by decide)) dX2_sift_47 ?_
            refine r_ifne F (tgt := 63) dX2_sift_48 (by decide) ?_ ?_
            · skip
              exact Wt_pick [0, 1] rfl (hj63 h6)
            refine r_aload_n F 0 rfl dX2_sift_51 rfl ?_
            refine r_getA F frX2_21 (by decide) dX2_sift_52 ?_
            refine r_aload_n F 0 rfl dX2_sift_55 rfl ?_
            refine r_getA F frX2_18 (by decide) dX2_sift_56 ?_
            refine r_iload_n F 1 rfl dX2_sift_59 rfl ?_
            refine r_iaload F (ar_2_2 0 (by decide)) dX2_sift_60 ?_
            refine r_iconst F (v := 1) dX2_sift_61 (by decide) ?_
            refine r_bastore F true rfl (ar_2_3 0 (by decide)) dX2_sift_62 fun h9 => ?_
            exact Wt_pick [0, 1] rfl (hj63 h9)
        exact Wt_pick [1, 0] rfl (hl28 N v4 h2)
      refine r_aload_n F 0 rfl dX2_sift_8 rfl ?_
      refine r_getA F frX2_21 (by decide) dX2_sift_9 ?_
      refine r_iload_n F 1 rfl dX2_sift_12 rfl ?_
      refine r_iconst F (v := 0) dX2_sift_13 (by decide) ?_
      refine r_bastore F false rfl (ar_2_3 0 (by decide)) dX2_sift_14 fun h10 => ?_
      refine r_iinc F (v := 1) 1 rfl (by decide) (fun v11 => [(1, .int v11), (0, .ref (adr (xG X) 2 0 0))]) (fun _ => rfl) dX2_sift_15 (hS _ (by decide)) fun v11 => ?_
      refine r_goto F (tgt := 2) dX2_sift_18 (by decide) ?_
      exact Wt_pick [1, 0] rfl (ih2 v11 h10)
  exact Wt_pick [1, 0] rfl (hl2 N 0 h)
theorem c_X2_sift (G : Gx) (l : Launch) (N : Nat) (h : Hp) : Ctr G l yX2_sift (.code yX2_sift cX2_sift 2 none :: GT) rmX2_sift [.ref (adr G 2 0 0)] h (f_X2_sift N h) (fun _ => none) (fun v => v) (fun _ => True) :=
  ctr_of (by decide) (Nat.le_of_ble_eq_true rfl) ⟨rfl, rfl⟩ fun X _ e2 hA hL F => by subst e2; exact w_X2_sift X F hA hL N h
def f_X2_counts (h : Hp) (p1 : Int32) : Option Bool :=
  grd (inb p1 24) <|
  jn (fun (v1 : Bool) =>
    some v1) fun (j24 : Bool → Option Bool) =>
  jn (
    j24 false) fun (j23 : Option Bool) =>
  if (gA h 2 0 0 p1.toNatClampNeg) = 2 then
    j23
  else
  grd (inb p1 24) <|
  if ¬ (b2i (gY h 2 0 3 p1.toNatClampNeg)) = 0 then
    j23
  else
  j24 true
abbrev rmX2_counts : Room := { frames := 0, cells := 0, slots := 0, locals := 0 }
set_option maxRecDepth 100000 in
set_option maxHeartbeats 4000000 in
theorem w_X2_counts (X : Cx) (F : Fx X cX2_counts RX2 (some .boolean) rmX2_counts) (hA : xA X = Aw (xG X)) (hL : xL X = 2) (h : Hp) (p1 : Int32) : Wm X (fun v => some (.int (b2i v))) (fun _ => h) (fun _ => True) 0 [(0, .ref (adr (xG X) 2 0 0)), (1, .int p1)] [] h (f_X2_counts h p1) := by
  have hS : ∀ i : Nat, i < 2 → i < xL X := fun i z => by rw [hL]; exact z
  unfold f_X2_counts
  refine r_aload_n F 0 rfl dX2_counts_0 rfl ?_
  refine r_getA F frX2_9 (by decide) dX2_counts_1 ?_
  refine r_iload_n F 1 rfl dX2_counts_4 rfl ?_
  refine r_iaload F (ar_2_0 0 (by decide)) dX2_counts_5 ?_
  refine r_iconst F (v := 2) dX2_counts_6 (by decide) ?_
  refine Wt_jn (fun (j24 : Bool → Option Bool) => ∀ v1 : Bool, Wm X (fun v => some (.int (b2i v))) (fun _ => h) (fun _ => True) 24 [] [.int (b2i v1)] h (j24 v1)) ?_ fun j24 hj24 => ?_
  · intro v1
    exact r_zret F hA v1 rfl rfl rfl trivial dX2_counts_24
  refine Wt_jn (fun (j23 : Option Bool) => Wm X (fun v => some (.int (b2i v))) (fun _ => h) (fun _ => True) 23 [] [] h (j23)) ?_ fun j23 hj23 => ?_
  · skip
    refine r_iconst F (v := 0) dX2_counts_23 (by decide) ?_
    exact Wt_pick [] rfl (hj24 false)
  refine r_icmpeq F (tgt := 23) dX2_counts_7 (by decide) ?_ ?_
  · skip
    exact Wt_pick [] rfl (hj23)
  refine r_aload_n F 0 rfl dX2_counts_10 rfl ?_
  refine r_getA F frX2_21 (by decide) dX2_counts_11 ?_
  refine r_iload_n F 1 rfl dX2_counts_14 rfl ?_
  refine r_baload F (ar_2_3 0 (by decide)) dX2_counts_15 ?_
  refine r_ifne F (tgt := 23) dX2_counts_16 (by decide) ?_ ?_
  · skip
    exact Wt_pick [] rfl (hj23)
  refine r_iconst F (v := 1) dX2_counts_19 (by decide) ?_
  refine r_goto F (tgt := 24) dX2_counts_20 (by decide) ?_
  exact Wt_pick [] rfl (hj24 true)
theorem c_X2_counts (G : Gx) (l : Launch) (h : Hp) (p1 : Int32) : Ctr G l yX2_counts (.code yX2_counts cX2_counts 2 (some .boolean) :: GT) rmX2_counts [.ref (adr G 2 0 0), .int p1] h (f_X2_counts h p1) (fun v => some (.int (b2i v))) (fun _ => h) (fun _ => True) :=
  ctr_of (by decide) (Nat.le_of_ble_eq_true rfl) ⟨rfl, rfl⟩ fun X _ e2 hA hL F => by subst e2; exact w_X2_counts X F hA hL h p1
def f_X2_lastHour_4 (h : Hp) (r4 : Int32 → Int32 → Option Int32) (v1 : Int32) (v2 : Int32) : Option Int32 :=
  (f_X2_knownSize h).bind fun v3 =>
  if v3 ≤ v2 then
    some v1
  else
  (f_X2_counts h v2).bind fun v4 =>
  jn (fun (v5 : Int32) =>
    lt_ (v2 + 1) fun v6 =>
    r4 v5 v6) fun (j31 : Int32 → Option Int32) =>
  if (b2i v4) = 0 then
    j31 v1
  else
  grd (inb v2 24) <|
  lt_ ((if v1 < (gA h 2 0 1 v2.toNatClampNeg) then (gA h 2 0 1 v2.toNatClampNeg) else v1)) fun v7 =>
  j31 v7
def f_X2_lastHour (N : Nat) (h : Hp) : Option Int32 :=
  iter (fun _ _ => none) (f_X2_lastHour_4 h) N 0 0
abbrev rmX2_lastHour : Room := { frames := 1, cells := 0, slots := 0, locals := 21 }
set_option maxRecDepth 100000 in
set_option maxHeartbeats 4000000 in
theorem w_X2_lastHour (X : Cx) (F : Fx X cX2_lastHour RX2 (some .int) rmX2_lastHour) (hA : xA X = Aw (xG X)) (hL : xL X = 3) (N : Nat) (h : Hp) : Wm X (fun v => some (.int v)) (fun _ => h) (fun _ => True) 0 [(0, .ref (adr (xG X) 2 0 0))] [] h (f_X2_lastHour N h) := by
  have hS : ∀ i : Nat, i < 3 → i < xL X := fun i z => by rw [hL]; exact z
  unfold f_X2_lastHour
  refine r_iconst F (v := 0) dX2_lastHour_0 (by decide) ?_
  refine r_istore_n F [(1, .int 0), (0, .ref (adr (xG X) 2 0 0))] rfl dX2_lastHour_1 rfl (hS _ (by decide)) ?_
  refine r_iconst F (v := 0) dX2_lastHour_2 (by decide) ?_
  refine r_istore_n F [(2, .int 0), (1, .int 0), (0, .ref (adr (xG X) 2 0 0))] rfl dX2_lastHour_3 rfl (hS _ (by decide)) ?_
  have hl4 : ∀ n : Nat, ∀ v1 : Int32, ∀ v2 : Int32, Wm X (fun v => some (.int v)) (fun _ => h) (fun _ => True) 4 [(0, .ref (adr (xG X) 2 0 0)), (1, .int v1), (2, .int v2)] [] h (iter (fun _ _ => none) (f_X2_lastHour_4 h) n v1 v2) := by
    intro n
    induction n with
    | zero => intro v1 v2; exact Wt_none
    | succ n ih =>
      revert ih
      show (∀ v1 : Int32, ∀ v2 : Int32, Wm X (fun v => some (.int v)) (fun _ => h) (fun _ => True) 4 [(0, .ref (adr (xG X) 2 0 0)), (1, .int v1), (2, .int v2)] [] h (iter (fun _ _ => none) (f_X2_lastHour_4 h) n v1 v2)) → _
      intro ih4 v1 v2
      show Wm X (fun v => some (.int v)) (fun _ => h) (fun _ => True) 4 [(0, .ref (adr (xG X) 2 0 0)), (1, .int v1), (2, .int v2)] [] h (f_X2_lastHour_4 h (iter (fun _ _ => none) (f_X2_lastHour_4 h) n) v1 v2)
      revert ih4
      generalize iter (fun _ _ => none) (f_X2_lastHour_4 h) n = r4
      intro ih4
      unfold f_X2_lastHour_4
      refine r_iload_n F 2 rfl dX2_lastHour_4 rfl ?_
      refine r_aload_n F 0 rfl dX2_lastHour_5 rfl ?_
      refine k_iP (run_V F cvX2_32 (by decide) (c_X2_knownSize (xG X) _ h) rfl rfl ⟨⟨rfl, rfl⟩, Nat.le_of_ble_eq_true rfl, Nat.le_of_ble_eq_true rfl⟩ (Nat.le_of_ble_eq_true rfl) dX2_lastHour_6) fun v3 _ => ?_
      refine r_icmpge F (tgt := 37) dX2_lastHour_9 (by decide) ?_ ?_
      · skip
        refine r_iload_n F 1 rfl dX2_lastHour_37 rfl ?_
        exact r_iret F hA rfl rfl trivial dX2_lastHour_38
      refine r_aload_n F 0 rfl dX2_lastHour_12 rfl ?_
      refine r_iload_n F 2 rfl dX2_lastHour_13 rfl ?_
      refine k_zP (run_V F cvX2_36 (by decide) (c_X2_counts (xG X) _ h v2) rfl rfl ⟨⟨rfl, rfl⟩, Nat.le_of_ble_eq_true rfl, Nat.le_of_ble_eq_true rfl⟩ (Nat.le_of_ble_eq_true rfl) dX2_lastHour_14) fun v4 _ => ?_
      refine Wt_jn (fun (j31 : Int32 → Option Int32) => ∀ v5 : Int32, Wm X (fun v => some (.int v)) (fun _ => h) (fun _ => True) 31 [(0, .ref (adr (xG X) 2 0 0)), (1, .int v5), (2, .int v2)] [] h (j31 v5)) ?_ fun j31 hj31 => ?_
      · intro v5
        refine r_iinc F (v := 1) 2 rfl (by decide) (fun v6 => [(2, .int v6), (0, .ref (adr (xG X) 2 0 0)), (1, .int v5)]) (fun _ => rfl) dX2_lastHour_31 (hS _ (by decide)) fun v6 => ?_
        refine r_goto F (tgt := 4) dX2_lastHour_34 (by decide) ?_
        exact Wt_pick [1, 2, 0] rfl (ih4 v5 v6)
      refine r_ifeq F (tgt := 31) dX2_lastHour_17 (by decide) ?_ ?_
      · skip
        exact Wt_pick [0, 1, 2] rfl (hj31 v1)
      refine r_iload_n F 1 rfl dX2_lastHour_20 rfl ?_
      refine r_aload_n F 0 rfl dX2_lastHour_21 rfl ?_
      refine r_getA F frX2_15 (by decide) dX2_lastHour_22 ?_
      refine r_iload_n F 2 rfl dX2_lastHour_25 rfl ?_
      refine r_iaload F (ar_2_1 0 (by decide)) dX2_lastHour_26 ?_
      refine r_max F wd_947 ws_max ⟨Nat.le_of_ble_eq_true rfl, Nat.le_of_ble_eq_true rfl⟩ dX2_lastHour_27 ?_
      refine r_nmI fun v7 => ?_
      refine r_istore_n F [(1, .int v7), (0, .ref (adr (xG X) 2 0 0)), (2, .int v2)] rfl dX2_lastHour_30 rfl (hS _ (by decide)) ?_
      exact Wt_pick [1, 0, 2] rfl (hj31 v7)
  exact Wt_pick [2, 1, 0] rfl (hl4 N 0 0)
theorem c_X2_lastHour (G : Gx) (l : Launch) (N : Nat) (h : Hp) : Ctr G l yX2_lastHour (.code yX2_lastHour cX2_lastHour 3 (some .int) :: GT) rmX2_lastHour [.ref (adr G 2 0 0)] h (f_X2_lastHour N h) (fun v => some (.int v)) (fun _ => h) (fun _ => True) :=
  ctr_of (by decide) (Nat.le_of_ble_eq_true rfl) ⟨rfl, rfl⟩ fun X _ e2 hA hL F => by subst e2; exact w_X2_lastHour X F hA hL N h
def f_X2_agrees_2 (h : Hp) (p1 : Int32) (p2 : Int32) (r2 : Int32 → Option Bool) (v1 : Int32) : Option Bool :=
  (f_X2_knownSize h).bind fun v2 =>
  if v2 ≤ v1 then
    some true
  else
  (f_X2_counts h v1).bind fun v3 =>
  jn (
    lt_ (v1 + 1) fun v4 =>
    r2 v4) fun (j62 : Option Bool) =>
  if (b2i v3) = 0 then
    j62
  else
  grd (inb v1 24) <|
  if ¬ (gA h 2 0 1 v1.toNatClampNeg) = p1 then
    j62
  else
  grd (inb v1 24) <|
  jn (fun (v5 : Bool) =>
    grd (inb v1 24) <|
    jn (fun (v6 : Bool) =>
      if (b2i v5) = (b2i v6) then
        j62
      else
      some false) fun (j57 : Bool → Option Bool) =>
    if ¬ (gA h 2 0 0 v1.toNatClampNeg) = 0 then
      j57 false
    else
    j57 true) fun (j43 : Bool → Option Bool) =>
  if p2 < (gA h 2 0 2 v1.toNatClampNeg) then
    j43 false
  else
  j43 true
def f_X2_agrees (N : Nat) (h : Hp) (p1 : Int32) (p2 : Int32) : Option Bool :=
  iter (fun _ => none) (f_X2_agrees_2 h p1 p2) N 0
abbrev rmX2_agrees : Room := { frames := 1, cells := 0, slots := 0, locals := 21 }
set_option maxRecDepth 100000 in
set_option maxHeartbeats 4000000 in
theorem w_X2_agrees (X : Cx) (F : Fx X cX2_agrees RX2 (some .boolean) rmX2_agrees) (hA : xA X = Aw (xG X)) (hL : xL X = 4) (N : Nat) (h : Hp) (p1 : Int32) (p2 : Int32) : Wm X (fun v => some (.int (b2i v))) (fun _ => h) (fun _ => True) 0 [(0, .ref (adr (xG X) 2 0 0)), (1, .int p1), (2, .int p2)] [] h (f_X2_agrees N h p1 p2) := by
  have hS : ∀ i : Nat, i < 4 → i < xL X := fun i z => by rw [hL]; exact z
  unfold f_X2_agrees
  refine r_iconst F (v := 0) dX2_agrees_0 (by decide) ?_
  refine r_istore_n F [(3, .int 0), (0, .ref (adr (xG X) 2 0 0)), (1, .int p1), (2, .int p2)] rfl dX2_agrees_1 rfl (hS _ (by decide)) ?_
  have hl2 : ∀ n : Nat, ∀ v1 : Int32, Wm X (fun v => some (.int (b2i v))) (fun _ => h) (fun _ => True) 2 [(0, .ref (adr (xG X) 2 0 0)), (1, .int p1), (2, .int p2), (3, .int v1)] [] h (iter (fun _ => none) (f_X2_agrees_2 h p1 p2) n v1) := by
    intro n
    induction n with
    | zero => intro v1; exact Wt_none
    | succ n ih =>
      revert ih
      show (∀ v1 : Int32, Wm X (fun v => some (.int (b2i v))) (fun _ => h) (fun _ => True) 2 [(0, .ref (adr (xG X) 2 0 0)), (1, .int p1), (2, .int p2), (3, .int v1)] [] h (iter (fun _ => none) (f_X2_agrees_2 h p1 p2) n v1)) → _
      intro ih2 v1
      show Wm X (fun v => some (.int (b2i v))) (fun _ => h) (fun _ => True) 2 [(0, .ref (adr (xG X) 2 0 0)), (1, .int p1), (2, .int p2), (3, .int v1)] [] h (f_X2_agrees_2 h p1 p2 (iter (fun _ => none) (f_X2_agrees_2 h p1 p2) n) v1)
      revert ih2
      generalize iter (fun _ => none) (f_X2_agrees_2 h p1 p2) n = r2
      intro ih2
      unfold f_X2_agrees_2
      refine r_iload_n F 3 rfl dX2_agrees_2 rfl ?_
      refine r_aload_n F 0 rfl dX2_agrees_3 rfl ?_
      refine k_iP (run_V F cvX2_32 (by decide) (c_X2_knownSize (xG X) _ h) rfl rfl ⟨⟨rfl, rfl⟩, Nat.le_of_ble_eq_true rfl, Nat.le_of_ble_eq_true rfl⟩ (Nat.le_of_ble_eq_true rfl) dX2_agrees_4) fun v2 _ => ?_
      refine r_icmpge F (tgt := 68) dX2_agrees_7 (by decide) ?_ ?_
      · skip
        refine r_iconst F (v := 1) dX2_agrees_68 (by decide) ?_
        exact r_zret F hA true rfl rfl rfl trivial dX2_agrees_69
      refine r_aload_n F 0 rfl dX2_agrees_10 rfl ?_
      refine r_iload_n F 3 rfl dX2_agrees_11 rfl ?_
      refine k_zP (run_V F cvX2_36 (by decide) (c_X2_counts (xG X) _ h v1) rfl rfl ⟨⟨rfl, rfl⟩, Nat.le_of_ble_eq_true rfl, Nat.le_of_ble_eq_true rfl⟩ (Nat.le_of_ble_eq_true rfl) dX2_agrees_12) fun v3 _ => ?_
      refine Wt_jn (fun (j62 : Option Bool) => Wm X (fun v => some (.int (b2i v))) (fun _ => h) (fun _ => True) 62 [(0, .ref (adr (xG X) 2 0 0)), (1, .int p1), (2, .int p2), (3, .int v1)] [] h (j62)) ?_ fun j62 hj62 => ?_
      · skip
        refine r_iinc F (v := 1) 3 rfl (by decide) (fun v4 => [(3, .int v4), (0, .ref (adr (xG X) 2 0 0)), (1, .int p1), (2, .int p2)]) (fun _ => rfl) dX2_agrees_62 (hS _ (by decide)) fun v4 => ?_
        refine r_goto F (tgt := 2) dX2_agrees_65 (by decide) ?_
        exact Wt_pick [1, 2, 3, 0] rfl (ih2 v4)
      refine r_ifeq F (tgt := 62) dX2_agrees_15 (by decide) ?_ ?_
      · skip
        exact Wt_pick [0, 1, 2, 3] rfl (hj62)
      refine r_aload_n F 0 rfl dX2_agrees_18 rfl ?_
      refine r_getA F frX2_15 (by decide) dX2_agrees_19 ?_
      refine r_iload_n F 3 rfl dX2_agrees_22 rfl ?_
      refine r_iaload F (ar_2_1 0 (by decide)) dX2_agrees_23 ?_
      refine r_iload_n F 1 rfl dX2_agrees_24 rfl ?_
      refine r_icmpne F (tgt := 62) dX2_agrees_25 (by decide) ?_ ?_
      · skip
        exact Wt_pick [0, 1, 2, 3] rfl (hj62)
      refine r_iload_n F 2 rfl dX2_agrees_28 rfl ?_
      refine r_aload_n F 0 rfl dX2_agrees_29 rfl ?_
      refine r_getA F frX2_18 (by decide) dX2_agrees_30 ?_
      refine r_iload_n F 3 rfl dX2_agrees_33 rfl ?_
      refine r_iaload F (ar_2_2 0 (by decide)) dX2_agrees_34 ?_
      refine Wt_jn (fun (j43 : Bool → Option Bool) => ∀ v5 : Bool, Wm X (fun v => some (.int (b2i v))) (fun _ => h) (fun _ => True) 43 [(0, .ref (adr (xG X) 2 0 0)), (1, .int p1), (2, .int p2), (3, .int v1)] [.int (b2i v5)] h (j43 v5)) ?_ fun j43 hj43 => ?_
      · intro v5
        refine r_aload_n F 0 rfl dX2_agrees_43 rfl ?_
        refine r_getA F frX2_9 (by decide) dX2_agrees_44 ?_
        refine r_iload_n F 3 rfl dX2_agrees_47 rfl ?_
        refine r_iaload F (ar_2_0 0 (by decide)) dX2_agrees_48 ?_
        refine Wt_jn (fun (j57 : Bool → Option Bool) => ∀ v6 : Bool, Wm X (fun v => some (.int (b2i v))) (fun _ => h) (fun _ => True) 57 [(0, .ref (adr (xG X) 2 0 0)), (1, .int p1), (2, .int p2), (3, .int v1)] [.int (b2i v6), .int (b2i v5)] h (j57 v6)) ?_ fun j57 hj57 => ?_
        · intro v6
          refine r_icmpeq F (tgt := 62) dX2_agrees_57 (by decide) ?_ ?_
          · skip
            exact Wt_pick [0, 1, 2, 3] rfl (hj62)
          refine r_iconst F (v := 0) dX2_agrees_60 (by decide) ?_
          exact r_zret F hA false rfl rfl rfl trivial dX2_agrees_61
        refine r_ifne F (tgt := 56) dX2_agrees_49 (by decide) ?_ ?_
        · skip
          refine r_iconst F (v := 0) dX2_agrees_56 (by decide) ?_
          exact Wt_pick [0, 1, 2, 3] rfl (hj57 false)
        refine r_iconst F (v := 1) dX2_agrees_52 (by decide) ?_
        refine r_goto F (tgt := 57) dX2_agrees_53 (by decide) ?_
        exact Wt_pick [0, 1, 2, 3] rfl (hj57 true)
      refine r_icmplt F (tgt := 42) dX2_agrees_35 (by decide) ?_ ?_
      · skip
        refine r_iconst F (v := 0) dX2_agrees_42 (by decide) ?_
        exact Wt_pick [0, 1, 2, 3] rfl (hj43 false)
      refine r_iconst F (v := 1) dX2_agrees_38 (by decide) ?_
      refine r_goto F (tgt := 43) dX2_agrees_39 (by decide) ?_
      exact Wt_pick [0, 1, 2, 3] rfl (hj43 true)
  exact Wt_pick [1, 2, 3, 0] rfl (hl2 N 0)
theorem c_X2_agrees (G : Gx) (l : Launch) (N : Nat) (h : Hp) (p1 : Int32) (p2 : Int32) : Ctr G l yX2_agrees (.code yX2_agrees cX2_agrees 4 (some .boolean) :: GT) rmX2_agrees [.ref (adr G 2 0 0), .int p1, .int p2] h (f_X2_agrees N h p1 p2) (fun v => some (.int (b2i v))) (fun _ => h) (fun _ => True) :=
  ctr_of (by decide) (Nat.le_of_ble_eq_true rfl) ⟨rfl, rfl⟩ fun X _ e2 hA hL F => by subst e2; exact w_X2_agrees X F hA hL N h p1 p2
def f_X3_begin_165 (o : Nat) (r165 : Int32 → Hp → Option Hp) (v12 : Int32) (h13 : Hp) : Option Hp :=
  if 6 ≤ v12 then
    some h13
  else
  grd (inb v12 6) <| lt_ (sA h13 3 o 9 v12.toNatClampNeg 0) fun h14 =>
  lt_ (v12 + 1) fun v15 =>
  r165 v15 h14
def f_X3_begin_95 (N : Nat) (o : Nat) (p1 : Nat) (r95 : Int32 → Hp → Option Hp) (v10 : Int32) (h11 : Hp) : Option Hp :=
  if 4 ≤ v10 then
    iter (fun _ _ => none) (f_X3_begin_165 o) N 0 h11
  else
  grd (inb v10 4) <|
  grd (inb v10 4) <| lt_ (sA h11 3 o 2 v10.toNatClampNeg (gA h11 5 p1 2 v10.toNatClampNeg)) fun h16 =>
  grd (inb v10 4) <|
  grd (inb v10 4) <| lt_ (sA h16 3 o 3 v10.toNatClampNeg (gA h16 5 p1 3 v10.toNatClampNeg)) fun h17 =>
  grd (inb v10 4) <|
  grd (inb v10 4) <| lt_ (sA h17 3 o 4 v10.toNatClampNeg (gA h17 5 p1 4 v10.toNatClampNeg)) fun h18 =>
  grd (inb v10 4) <| lt_ (sA h18 3 o 5 v10.toNatClampNeg 0) fun h19 =>
  grd (inb v10 4) <| lt_ (sA h19 3 o 6 v10.toNatClampNeg 0) fun h20 =>
  grd (inb v10 4) <| lt_ (sA h20 3 o 7 v10.toNatClampNeg 0) fun h21 =>
  lt_ (v10 + 1) fun v22 =>
  r95 v22 h21
def f_X3_begin_46 (N : Nat) (o : Nat) (p1 : Nat) (r46 : Int32 → Hp → Option Hp) (v8 : Int32) (h9 : Hp) : Option Hp :=
  if 8 ≤ v8 then
    iter (fun _ _ => none) (f_X3_begin_95 N o p1) N 0 h9
  else
  grd (inb v8 8) <|
  grd (inb v8 8) <| lt_ (sA h9 3 o 0 v8.toNatClampNeg (gA h9 5 p1 0 v8.toNatClampNeg)) fun h23 =>
  jn (fun (v24 : Int32) =>
    grd (inb v8 8) <| lt_ (sA h23 3 o 1 v8.toNatClampNeg v24) fun h25 =>
    lt_ (v8 + 1) fun v26 =>
    r46 v26 h25) fun (j86 : Int32 → Option Hp) =>
  if (gI h23 5 p1 12) ≤ 0 then
    j86 (-1)
  else
  grd (¬ (gI h23 5 p1 12) = 0) <|
  j86 (v8 - v8 / (gI h23 5 p1 12) * (gI h23 5 p1 12))
def f_X3_begin (N : Nat) (h : Hp) (o : Nat) (p1 : Nat) : Option Hp :=
  lt_ (sO h 3 o 10 p1) fun h1 =>
  lt_ (sI h1 3 o 11 0) fun h2 =>
  lt_ (sI h2 3 o 12 (gI h2 5 p1 15)) fun h3 =>
  lt_ (sI h3 3 o 13 0) fun h4 =>
  lt_ (sI h4 3 o 14 (gI h4 5 p1 16)) fun h5 =>
  lt_ (sI h5 3 o 15 (gI h5 5 p1 19)) fun h6 =>
  lt_ (sZ h6 3 o 16 true) fun h7 =>
  iter (fun _ _ => none) (f_X3_begin_46 N o p1) N 0 h7
abbrev rmX3_begin : Room := { frames := 0, cells := 0, slots := 0, locals := 0 }
set_option maxRecDepth 100000 in
set_option maxHeartbeats 4000000 in
theorem w_X3_begin (X : Cx) (F : Fx X cX3_begin RX3 none rmX3_begin) (hA : xA X = Aw (xG X)) (hL : xL X = 3) (N : Nat) (h : Hp) (o : Nat) (h_o : o < cnt 3) (p1 : Nat) (h_p1 : p1 < cnt 5) : Wm X (fun _ => none) (fun v => v) (fun _ => True) 0 [(0, .ref (adr (xG X) 3 o 0)), (1, .ref (adr (xG X) 5 p1 0))] [] h (f_X3_begin N h o p1) := by
  have hS : ∀ i : Nat, i < 3 → i < xL X := fun i z => by rw [hL]; exact z
  unfold f_X3_begin
  refine r_aload_n F 0 rfl dX3_begin_0 rfl ?_
  refine r_aload_n F 1 rfl dX3_begin_1 rfl ?_
  refine r_putO F frX3_44 h_o h_p1 rfl rfl dX3_begin_2 fun h1 => ?_
  refine r_aload_n F 0 rfl dX3_begin_5 rfl ?_
  refine r_iconst F (v := 0) dX3_begin_6 (by decide) ?_
  refine r_putI F frX3_52 h_o rfl rfl dX3_begin_7 fun h2 => ?_
  refine r_aload_n F 0 rfl dX3_begin_10 rfl ?_
  refine r_aload_n F 1 rfl dX3_begin_11 rfl ?_
  refine r_getI F frX3_56 h_p1 dX3_begin_12 ?_
  refine r_putI F frX3_61 h_o rfl rfl dX3_begin_15 fun h3 => ?_
  refine r_aload_n F 0 rfl dX3_begin_18 rfl ?_
  refine r_iconst F (v := 0) dX3_begin_19 (by decide) ?_
  refine r_putI F frX3_62 h_o rfl rfl dX3_begin_20 fun h4 => ?_
  refine r_aload_n F 0 rfl dX3_begin_23 rfl ?_
  refine r_aload_n F 1 rfl dX3_begin_24 rfl ?_
  refine r_getI F frX3_65 h_p1 dX3_begin_25 ?_
  refine r_putI F frX3_68 h_o rfl rfl dX3_begin_28 fun h5 => ?_
  refine r_aload_n F 0 rfl dX3_begin_31 rfl ?_
  refine r_aload_n F 1 rfl dX3_begin_32 rfl ?_
  refine r_getI F frX3_69 h_p1 dX3_begin_33 ?_
  refine r_putI F frX3_72 h_o rfl rfl dX3_begin_36 fun h6 => ?_
  refine r_aload_n F 0 rfl dX3_begin_39 rfl ?_
  refine r_iconst F (v := 1) dX3_begin_40 (by decide) ?_
  refine r_putZ F true rfl frX3_48 h_o rfl rfl dX3_begin_41 fun h7 => ?_
  refine r_iconst F (v := 0) dX3_begin_44 (by decide) ?_
  refine r_istore_n F [(2, .int 0), (0, .ref (adr (xG X) 3 o 0)), (1, .ref (adr (xG X) 5 p1 0))] rfl dX3_begin_45 rfl (hS _ (by decide)) ?_
  have hl46 : ∀ n : Nat, ∀ v8 : Int32, ∀ h9 : Hp, Wm X (fun _ => none) (fun v => v) (fun _ => True) 46 [(0, .ref (adr (xG X) 3 o 0)), (1, .ref (adr (xG X) 5 p1 0)), (2, .int v8)] [] h9 (iter (fun _ _ => none) (f_X3_begin_46 N o p1) n v8 h9) := by
    intro n
    induction n with
    | zero => intro v8 h9; exact Wt_none
    | succ n ih =>
      revert ih
      show (∀ v8 : Int32, ∀ h9 : Hp, Wm X (fun _ => none) (fun v => v) (fun _ => True) 46 [(0, .ref (adr (xG X) 3 o 0)), (1, .ref (adr (xG X) 5 p1 0)), (2, .int v8)] [] h9 (iter (fun _ _ => none) (f_X3_begin_46 N o p1) n v8 h9)) → _
      intro ih46 v8 h9
      show Wm X (fun _ => none) (fun v => v) (fun _ => True) 46 [(0, .ref (adr (xG X) 3 o 0)), (1, .ref (adr (xG X) 5 p1 0)), (2, .int v8)] [] h9 (f_X3_begin_46 N o p1 (iter (fun _ _ => none) (f_X3_begin_46 N o p1) n) v8 h9)
      revert ih46
      generalize iter (fun _ _ => none) (f_X3_begin_46 N o p1) n = r46
      intro ih46
      unfold f_X3_begin_46
      refine r_iload_n F 2 rfl dX3_begin_46 rfl ?_
      refine r_bipush F (v := 8) dX3_begin_47 (by decide) ?_
      refine r_icmpge F (tgt := 93) dX3_begin_49 (by decide) ?_ ?_
      · skip
        refine r_iconst F (v := 0) dX3_begin_93 (by decide) ?_
        refine r_istore_n F [(2, .int 0), (0, .ref (adr (xG X) 3 o 0)), (1, .ref (adr (xG X) 5 p1 0))] rfl dX3_begin_94 rfl (hS _ (by decide)) ?_
        have hl95 : ∀ n : Nat, ∀ v10 : Int32, ∀ h11 : Hp, Wm X (fun _ => none) (fun v => v) (fun _ => True) 95 [(0, .ref (adr (xG X) 3 o 0)), (1, .ref (adr (xG X) 5 p1 0)), (2, .int v10)] [] h11 (iter (fun _ _ => none) (f_X3_begin_95 N o p1) n v10 h11) := by
          intro n
          induction n with
          | zero => intro v10 h11; exact Wt_none
          | succ n ih =>
            revert ih
            show (∀ v10 : Int32, ∀ h11 : Hp, Wm X (fun _ => none) (fun v => v) (fun _ => True) 95 [(0, .ref (adr (xG X) 3 o 0)), (1, .ref (adr (xG X) 5 p1 0)), (2, .int v10)] [] h11 (iter (fun _ _ => none) (f_X3_begin_95 N o p1) n v10 h11)) → _
            intro ih95 v10 h11
            show Wm X (fun _ => none) (fun v => v) (fun _ => True) 95 [(0, .ref (adr (xG X) 3 o 0)), (1, .ref (adr (xG X) 5 p1 0)), (2, .int v10)] [] h11 (f_X3_begin_95 N o p1 (iter (fun _ _ => none) (f_X3_begin_95 N o p1) n) v10 h11)
            revert ih95
            generalize iter (fun _ _ => none) (f_X3_begin_95 N o p1) n = r95
            intro ih95
            unfold f_X3_begin_95
            refine r_iload_n F 2 rfl dX3_begin_95 rfl ?_
            refine r_iconst F (v := 4) dX3_begin_96 (by decide) ?_
            refine r_icmpge F (tgt := 163) dX3_begin_97 (by decide) ?_ ?_
            · skip
              refine r_iconst F (v := 0) dX3_begin_163 (by decide) ?_
              refine r_istore_n F [(2, .int 0), (0, .ref (adr (xG X) 3 o 0)), (1, .ref (adr (xG X) 5 p1 0))] rfl dX3_begin_164 rfl (hS _ (by decide)) ?_
              have hl165 : ∀ n : Nat, ∀ v12 : Int32, ∀ h13 : Hp, Wm X (fun _ => none) (fun v => v) (fun _ => True) 165 [(0, .ref (adr (xG X) 3 o 0)), (2, .int v12)] [] h13 (iter (fun _ _ => none) (f_X3_begin_165 o) n v12 h13) := by
                intro n
                induction n with
                | zero => intro v12 h13; exact Wt_none
                | succ n ih =>
                  revert ih
                  show (∀ v12 : Int32, ∀ h13 : Hp, Wm X (fun _ => none) (fun v => v) (fun _ => True) 165 [(0, .ref (adr (xG X) 3 o 0)), (2, .int v12)] [] h13 (iter (fun _ _ => none) (f_X3_begin_165 o) n v12 h13)) → _
                  intro ih165 v12 h13
                  show Wm X (fun _ => none) (fun v => v) (fun _ => True) 165 [(0, .ref (adr (xG X) 3 o 0)), (2, .int v12)] [] h13 (f_X3_begin_165 o (iter (fun _ _ => none) (f_X3_begin_165 o) n) v12 h13)
                  revert ih165
                  generalize iter (fun _ _ => none) (f_X3_begin_165 o) n = r165
                  intro ih165
                  unfold f_X3_begin_165
                  refine r_iload_n F 1 rfl dX3_begin_165 rfl ?_
                  refine r_bipush F (v := 6) dX3_begin_166 (by decide) ?_
                  refine r_icmpge F (tgt := 184) dX3_begin_168 (by decide) ?_ ?_
                  · skip
                    exact r_vret F hA rfl rfl trivial dX3_begin_184
                  refine r_aload_n F 0 rfl dX3_begin_171 rfl ?_
                  refine r_getA F frX3_41 h_o dX3_begin_172 ?_
                  refine r_iload_n F 1 rfl dX3_begin_175 rfl ?_
                  refine r_iconst F (v := 0) dX3_begin_176 (by decide) ?_
                  refine r_iastore F (ar_3_9 o h_o) dX3_begin_177 fun h14 => ?_
                  refine r_iinc F (v := 1) 1 rfl (by decide) (fun v15 => [(2, .int v15), (0, .ref (adr (xG X) 3 o 0))]) (fun _ => rfl) dX3_begin_178 (hS _ (by decide)) fun v15 => ?_
                  refine r_goto F (tgt := 165) dX3_begin_181 (by decide) ?_
                  exact Wt_pick [1, 0] rfl (ih165 v15 h14)
              exact Wt_pick [1, 0] rfl (hl165 N 0 h11)
            refine r_aload_n F 0 rfl dX3_begin_100 rfl ?_
            refine r_getA F frX3_20 h_o dX3_begin_101 ?_
            refine r_iload_n F 2 rfl dX3_begin_104 rfl ?_
            refine r_aload_n F 1 rfl dX3_begin_105 rfl ?_
            refine r_getA F frX3_79 h_p1 dX3_begin_106 ?_
            refine r_iload_n F 2 rfl dX3_begin_109 rfl ?_
            refine r_iaload F (ar_5_2 p1 h_p1) dX3_begin_110 ?_
            refine r_iastore F (ar_3_2 o h_o) dX3_begin_111 fun h16 => ?_
            refine r_aload_n F 0 rfl dX3_begin_112 rfl ?_
            refine r_getA F frX3_23 h_o dX3_begin_113 ?_
            refine r_iload_n F 2 rfl dX3_begin_116 rfl ?_
            refine r_aload_n F 1 rfl dX3_begin_117 rfl ?_
            refine r_getA F frX3_80 h_p1 dX3_begin_118 ?_
            refine r_iload_n F 2 rfl dX3_begin_121 rfl ?_
            refine r_iaload F (ar_5_3 p1 h_p1) dX3_begin_122 ?_
            refine r_iastore F (ar_3_3 o h_o) dX3_begin_123 fun h17 => ?_
            refine r_aload_n F 0 rfl dX3_begin_124 rfl ?_
            refine r_getA F frX3_26 h_o dX3_begin_125 ?_
            refine r_iload_n F 2 rfl dX3_begin_128 rfl ?_
            refine r_aload_n F 1 rfl dX3_begin_129 rfl ?_
            refine r_getA F frX3_81 h_p1 dX3_begin_130 ?_
            refine r_iload_n F 2 rfl dX3_begin_133 rfl ?_
            refine r_iaload F (ar_5_4 p1 h_p1) dX3_begin_134 ?_
            refine r_iastore F (ar_3_4 o h_o) dX3_begin_135 fun h18 => ?_
            refine r_aload_n F 0 rfl dX3_begin_136 rfl ?_
            refine r_getA F frX3_29 h_o dX3_begin_137 ?_
            refine r_iload_n F 2 rfl dX3_begin_140 rfl ?_
            refine r_iconst F (v := 0) dX3_begin_141 (by decide) ?_
            refine r_iastore F (ar_3_5 o h_o) dX3_begin_142 fun h19 => ?_
            refine r_aload_n F 0 rfl dX3_begin_143 rfl ?_
            refine r_getA F frX3_32 h_o dX3_begin_144 ?_
            refine r_iload_n F 2 rfl dX3_begin_147 rfl ?_
            refine r_iconst F (v := 0) dX3_begin_148 (by decide) ?_
            refine r_iastore F (ar_3_6 o h_o) dX3_begin_149 fun h20 => ?_
            refine r_aload_n F 0 rfl dX3_begin_150 rfl ?_
            refine r_getA F frX3_35 h_o dX3_begin_151 ?_
            refine r_iload_n F 2 rfl dX3_begin_154 rfl ?_
            refine r_iconst F (v := 0) dX3_begin_155 (by decide) ?_
            refine r_iastore F (ar_3_7 o h_o) dX3_begin_156 fun h21 => ?_
            refine r_iinc F (v := 1) 2 rfl (by decide) (fun v22 => [(2, .int v22), (0, .ref (adr (xG X) 3 o 0)), (1, .ref (adr (xG X) 5 p1 0))]) (fun _ => rfl) dX3_begin_157 (hS _ (by decide)) fun v22 => ?_
            refine r_goto F (tgt := 95) dX3_begin_160 (by decide) ?_
            exact Wt_pick [1, 2, 0] rfl (ih95 v22 h21)
        exact Wt_pick [1, 2, 0] rfl (hl95 N 0 h9)
      refine r_aload_n F 0 rfl dX3_begin_52 rfl ?_
      refine r_getA F frX3_11 h_o dX3_begin_53 ?_
      refine r_iload_n F 2 rfl dX3_begin_56 rfl ?_
      refine r_aload_n F 1 rfl dX3_begin_57 rfl ?_
      refine r_getA F frX3_75 h_p1 dX3_begin_58 ?_
      refine r_iload_n F 2 rfl dX3_begin_61 rfl ?_
      refine r_iaload F (ar_5_0 p1 h_p1) dX3_begin_62 ?_
      refine r_iastore F (ar_3_0 o h_o) dX3_begin_63 fun h23 => ?_
      refine r_aload_n F 0 rfl dX3_begin_64 rfl ?_
      refine r_getA F frX3_17 h_o dX3_begin_65 ?_
      refine r_iload_n F 2 rfl dX3_begin_68 rfl ?_
      refine r_aload_n F 1 rfl dX3_begin_69 rfl ?_
      refine r_getI F frX3_76 h_p1 dX3_begin_70 ?_
      refine Wt_jn (fun (j86 : Int32 → Option Hp) => ∀ v24 : Int32, Wm X (fun _ => none) (fun v => v) (fun _ => True) 86 [(0, .ref (adr (xG X) 3 o 0)), (1, .ref (adr (xG X) 5 p1 0)), (2, .int v8)] [.int v24, .int v8, .ref (adr (xG X) 3 o 2)] h23 (j86 v24)) ?_ fun j86 hj86 => ?_
      · intro v24
        refine r_iastore F (ar_3_1 o h_o) dX3_begin_86 fun h25 => ?_
        refine r_iinc F (v := 1) 2 rfl (by decide) (fun v26 => [(2, .int v26), (0, .ref (adr (xG X) 3 o 0)), (1, .ref (adr (xG X) 5 p1 0))]) (fun _ => rfl) dX3_begin_87 (hS _ (by decide)) fun v26 => ?_
        refine r_goto F (tgt := 46) dX3_begin_90 (by decide) ?_
        exact Wt_pick [1, 2, 0] rfl (ih46 v26 h25)
      refine r_ifle F (tgt := 85) dX3_begin_73 (by decide) ?_ ?_
      · skip
        refine r_iconst F (v := (-1)) dX3_begin_85 (by decide) ?_
        exact Wt_pick [0, 1, 2] rfl (hj86 (-1))
      refine r_iload_n F 2 rfl dX3_begin_76 rfl ?_
      refine r_aload_n F 1 rfl dX3_begin_77 rfl ?_
      refine r_getI F frX3_76 h_p1 dX3_begin_78 ?_
      refine r_irem F dX3_begin_81 ?_
      refine r_goto F (tgt := 86) dX3_begin_82 (by decide) ?_
      exact Wt_pick [0, 1, 2] rfl (hj86 (v8 - v8 / (gI h23 5 p1 12) * (gI h23 5 p1 12)))
  exact Wt_pick [1, 2, 0] rfl (hl46 N 0 h7)
theorem c_X3_begin (G : Gx) (l : Launch) (N : Nat) (h : Hp) (o : Nat) (h_o : o < cnt 3) (p1 : Nat) (h_p1 : p1 < cnt 5) : Ctr G l yX3_begin (.code yX3_begin cX3_begin 3 none :: GT) rmX3_begin [.ref (adr G 3 o 0), .ref (adr G 5 p1 0)] h (f_X3_begin N h o p1) (fun _ => none) (fun v => v) (fun _ => True) :=
  ctr_of (by decide) (Nat.le_of_ble_eq_true rfl) ⟨rfl, rfl⟩ fun X _ e2 hA hL F => by subst e2; exact w_X3_begin X F hA hL N h o h_o p1 h_p1
def f_X3_copy (h : Hp) (o : Nat) (p1 : Nat) : Option Hp :=
  onO (gO h 3 p1 10) fun o1 =>
  lt_ (sO h 3 o 10 o1) fun h2 =>
  lt_ (sI h2 3 o 11 (gI h2 3 p1 11)) fun h3 =>
  lt_ (sI h3 3 o 12 (gI h3 3 p1 12)) fun h4 =>
  lt_ (sI h4 3 o 13 (gI h4 3 p1 13)) fun h5 =>
  lt_ (sI h5 3 o 14 (gI h5 3 p1 14)) fun h6 =>
  lt_ (sI h6 3 o 15 (gI h6 3 p1 15)) fun h7 =>
  lt_ (sZ h7 3 o 16 ((gZ h7 3 p1 16))) fun h8 =>
  grd ((0 ≤ (0 : Int32) ∧ 0 ≤ (0 : Int32) ∧ 0 ≤ (8 : Int32)) ∧ (0 : Int32).toNatClampNeg + (8 : Int32).toNatClampNeg ≤ 8 ∧ (0 : Int32).toNatClampNeg + (8 : Int32).toNatClampNeg ≤ 8) <| lt_ (sAf h8 3 o 0 (va_cpy (gA h8 3 p1 0) (gA h8 3 o 0) (0 : Int32).toNatClampNeg (0 : Int32).toNatClampNeg (8 : Int32).toNatClampNeg)) fun h9 =>
  grd ((0 ≤ (0 : Int32) ∧ 0 ≤ (0 : Int32) ∧ 0 ≤ (8 : Int32)) ∧ (0 : Int32).toNatClampNeg + (8 : Int32).toNatClampNeg ≤ 8 ∧ (0 : Int32).toNatClampNeg + (8 : Int32).toNatClampNeg ≤ 8) <| lt_ (sAf h9 3 o 1 (va_cpy (gA h9 3 p1 1) (gA h9 3 o 1) (0 : Int32).toNatClampNeg (0 : Int32).toNatClampNeg (8 : Int32).toNatClampNeg)) fun h10 =>
  grd ((0 ≤ (0 : Int32) ∧ 0 ≤ (0 : Int32) ∧ 0 ≤ (4 : Int32)) ∧ (0 : Int32).toNatClampNeg + (4 : Int32).toNatClampNeg ≤ 4 ∧ (0 : Int32).toNatClampNeg + (4 : Int32).toNatClampNeg ≤ 4) <| lt_ (sAf h10 3 o 2 (va_cpy (gA h10 3 p1 2) (gA h10 3 o 2) (0 : Int32).toNatClampNeg (0 : Int32).toNatClampNeg (4 : Int32).toNatClampNeg)) fun h11 =>
  grd ((0 ≤ (0 : Int32) ∧ 0 ≤ (0 : Int32) ∧ 0 ≤ (4 : Int32)) ∧ (0 : Int32).toNatClampNeg + (4 : Int32).toNatClampNeg ≤ 4 ∧ (0 : Int32).toNatClampNeg + (4 : Int32).toNatClampNeg ≤ 4) <| lt_ (sAf h11 3 o 3 (va_cpy (gA h11 3 p1 3) (gA h11 3 o 3) (0 : Int32).toNatClampNeg (0 : Int32).toNatClampNeg (4 : Int32).toNatClampNeg)) fun h12 =>
  grd ((0 ≤ (0 : Int32) ∧ 0 ≤ (0 : Int32) ∧ 0 ≤ (4 : Int32)) ∧ (0 : Int32).toNatClampNeg + (4 : Int32).toNatClampNeg ≤ 4 ∧ (0 : Int32).toNatClampNeg + (4 : Int32).toNatClampNeg ≤ 4) <| lt_ (sAf h12 3 o 4 (va_cpy (gA h12 3 p1 4) (gA h12 3 o 4) (0 : Int32).toNatClampNeg (0 : Int32).toNatClampNeg (4 : Int32).toNatClampNeg)) fun h13 =>
  grd ((0 ≤ (0 : Int32) ∧ 0 ≤ (0 : Int32) ∧ 0 ≤ (4 : Int32)) ∧ (0 : Int32).toNatClampNeg + (4 : Int32).toNatClampNeg ≤ 4 ∧ (0 : Int32).toNatClampNeg + (4 : Int32).toNatClampNeg ≤ 4) <| lt_ (sAf h13 3 o 5 (va_cpy (gA h13 3 p1 5) (gA h13 3 o 5) (0 : Int32).toNatClampNeg (0 : Int32).toNatClampNeg (4 : Int32).toNatClampNeg)) fun h14 =>
  grd ((0 ≤ (0 : Int32) ∧ 0 ≤ (0 : Int32) ∧ 0 ≤ (4 : Int32)) ∧ (0 : Int32).toNatClampNeg + (4 : Int32).toNatClampNeg ≤ 4 ∧ (0 : Int32).toNatClampNeg + (4 : Int32).toNatClampNeg ≤ 4) <| lt_ (sAf h14 3 o 6 (va_cpy (gA h14 3 p1 6) (gA h14 3 o 6) (0 : Int32).toNatClampNeg (0 : Int32).toNatClampNeg (4 : Int32).toNatClampNeg)) fun h15 =>
  grd ((0 ≤ (0 : Int32) ∧ 0 ≤ (0 : Int32) ∧ 0 ≤ (4 : Int32)) ∧ (0 : Int32).toNatClampNeg + (4 : Int32).toNatClampNeg ≤ 4 ∧ (0 : Int32).toNatClampNeg + (4 : Int32).toNatClampNeg ≤ 4) <| lt_ (sAf h15 3 o 7 (va_cpy (gA h15 3 p1 7) (gA h15 3 o 7) (0 : Int32).toNatClampNeg (0 : Int32).toNatClampNeg (4 : Int32).toNatClampNeg)) fun h16 =>
  grd ((0 ≤ (0 : Int32) ∧ 0 ≤ (0 : Int32) ∧ 0 ≤ (6 : Int32)) ∧ (0 : Int32).toNatClampNeg + (6 : Int32).toNatClampNeg ≤ 6 ∧ (0 : Int32).toNatClampNeg + (6 : Int32).toNatClampNeg ≤ 6) <| lt_ (sAf h16 3 o 9 (va_cpy (gA h16 3 p1 9) (gA h16 3 o 9) (0 : Int32).toNatClampNeg (0 : Int32).toNatClampNeg (6 : Int32).toNatClampNeg)) fun h17 =>
  some h17
abbrev rmX3_copy : Room := { frames := 1, cells := 0, slots := 0, locals := 18 }
set_option maxRecDepth 100000 in
set_option maxHeartbeats 4000000 in
theorem w_X3_copy (X : Cx) (F : Fx X cX3_copy RX3 none rmX3_copy) (hA : xA X = Aw (xG X)) (hL : xL X = 2) (h : Hp) (o : Nat) (h_o : o < cnt 3) (p1 : Nat) (h_p1 : p1 < cnt 3) : Wm X (fun _ => none) (fun v => v) (fun _ => True) 0 [(0, .ref (adr (xG X) 3 o 0)), (1, .ref (adr (xG X) 3 p1 0))] [] h (f_X3_copy h o p1) := by
  have hS : ∀ i : Nat, i < 2 → i < xL X := fun i z => by rw [hL]; exact z
  unfold f_X3_copy
  refine r_aload_n F 0 rfl dX3_copy_0 rfl ?_
  refine r_aload_n F 1 rfl dX3_copy_1 rfl ?_
  refine r_getO F frX3_44 h_p1 dX3_copy_2 fun o1 hp_o1 => ?_
  refine r_putO F frX3_44 h_o hp_o1 rfl rfl dX3_copy_5 fun h2 => ?_
  refine r_aload_n F 0 rfl dX3_copy_8 rfl ?_
  refine r_aload_n F 1 rfl dX3_copy_9 rfl ?_
  refine r_getI F frX3_52 h_p1 dX3_copy_10 ?_
  refine r_putI F frX3_52 h_o rfl rfl dX3_copy_13 fun h3 => ?_
  refine r_aload_n F 0 rfl dX3_copy_16 rfl ?_
  refine r_aload_n F 1 rfl dX3_copy_17 rfl ?_
  refine r_getI F frX3_61 h_p1 dX3_copy_18 ?_
  refine r_putI F frX3_61 h_o rfl rfl dX3_copy_21 fun h4 => ?_
  refine r_aload_n F 0 rfl dX3_copy_24 rfl ?_
  refine r_aload_n F 1 rfl dX3_copy_25 rfl ?_
  refine r_getI F frX3_62 h_p1 dX3_copy_26 ?_
  refine r_putI F frX3_62 h_o rfl rfl dX3_copy_29 fun h5 => ?_
  refine r_aload_n F 0 rfl dX3_copy_32 rfl ?_
  refine r_aload_n F 1 rfl dX3_copy_33 rfl ?_
  refine r_getI F frX3_68 h_p1 dX3_copy_34 ?_
  refine r_putI F frX3_68 h_o rfl rfl dX3_copy_37 fun h6 => ?_
  refine r_aload_n F 0 rfl dX3_copy_40 rfl ?_
  refine r_aload_n F 1 rfl dX3_copy_41 rfl ?_
  refine r_getI F frX3_72 h_p1 dX3_copy_42 ?_
  refine r_putI F frX3_72 h_o rfl rfl dX3_copy_45 fun h7 => ?_
  refine r_aload_n F 0 rfl dX3_copy_48 rfl ?_
  refine r_aload_n F 1 rfl dX3_copy_49 rfl ?_
  refine r_getZ F frX3_48 h_p1 dX3_copy_50 ?_
  refine r_putZ F ((gZ h7 3 p1 16)) rfl frX3_48 h_o rfl rfl dX3_copy_53 fun h8 => ?_
  refine r_aload_n F 1 rfl dX3_copy_56 rfl ?_
  refine r_getA F frX3_11 h_p1 dX3_copy_57 ?_
  refine r_iconst F (v := 0) dX3_copy_60 (by decide) ?_
  refine r_aload_n F 0 rfl dX3_copy_61 rfl ?_
  refine r_getA F frX3_11 h_o dX3_copy_62 ?_
  refine r_iconst F (v := 0) dX3_copy_65 (by decide) ?_
  refine r_bipush F (v := 8) dX3_copy_66 (by decide) ?_
  refine r_copy F (ar_3_0 p1 h_p1) (ar_3_0 o h_o) wd_795 ws_copy ⟨Nat.le_of_ble_eq_true rfl, Nat.le_of_ble_eq_true rfl⟩ dX3_copy_68 fun h9 => ?_
  refine r_aload_n F 1 rfl dX3_copy_71 rfl ?_
  refine r_getA F frX3_17 h_p1 dX3_copy_72 ?_
  refine r_iconst F (v := 0) dX3_copy_75 (by decide) ?_
  refine r_aload_n F 0 rfl dX3_copy_76 rfl ?_
  refine r_getA F frX3_17 h_o dX3_copy_77 ?_
  refine r_iconst F (v := 0) dX3_copy_80 (by decide) ?_
  refine r_bipush F (v := 8) dX3_copy_81 (by decide) ?_
  refine r_copy F (ar_3_1 p1 h_p1) (ar_3_1 o h_o) wd_795 ws_copy ⟨Nat.le_of_ble_eq_true rfl, Nat.le_of_ble_eq_true rfl⟩ dX3_copy_83 fun h10 => ?_
  refine r_aload_n F 1 rfl dX3_copy_86 rfl ?_
  refine r_getA F frX3_20 h_p1 dX3_copy_87 ?_
  refine r_iconst F (v := 0) dX3_copy_90 (by decide) ?_
  refine r_aload_n F 0 rfl dX3_copy_91 rfl ?_
  refine r_getA F frX3_20 h_o dX3_copy_92 ?_
  refine r_iconst F (v := 0) dX3_copy_95 (by decide) ?_
  refine r_iconst F (v := 4) dX3_copy_96 (by decide) ?_
  refine r_copy F (ar_3_2 p1 h_p1) (ar_3_2 o h_o) wd_795 ws_copy ⟨Nat.le_of_ble_eq_true rfl, Nat.le_of_ble_eq_true rfl⟩ dX3_copy_97 fun h11 => ?_
  refine r_aload_n F 1 rfl dX3_copy_100 rfl ?_
  refine r_getA F frX3_23 h_p1 dX3_copy_101 ?_
  refine r_iconst F (v := 0) dX3_copy_104 (by decide) ?_
  refine r_aload_n F 0 rfl dX3_copy_105 rfl ?_
  refine r_getA F frX3_23 h_o dX3_copy_106 ?_
  refine r_iconst F (v := 0) dX3_copy_109 (by decide) ?_
  refine r_iconst F (v := 4) dX3_copy_110 (by decide) ?_
  refine r_copy F (ar_3_3 p1 h_p1) (ar_3_3 o h_o) wd_795 ws_copy ⟨Nat.le_of_ble_eq_true rfl, Nat.le_of_ble_eq_true rfl⟩ dX3_copy_111 fun h12 => ?_
  refine r_aload_n F 1 rfl dX3_copy_114 rfl ?_
  refine r_getA F frX3_26 h_p1 dX3_copy_115 ?_
  refine r_iconst F (v := 0) dX3_copy_118 (by decide) ?_
  refine r_aload_n F 0 rfl dX3_copy_119 rfl ?_
  refine r_getA F frX3_26 h_o dX3_copy_120 ?_
  refine r_iconst F (v := 0) dX3_copy_123 (by decide) ?_
  refine r_iconst F (v := 4) dX3_copy_124 (by decide) ?_
  refine r_copy F (ar_3_4 p1 h_p1) (ar_3_4 o h_o) wd_795 ws_copy ⟨Nat.le_of_ble_eq_true rfl, Nat.le_of_ble_eq_true rfl⟩ dX3_copy_125 fun h13 => ?_
  refine r_aload_n F 1 rfl dX3_copy_128 rfl ?_
  refine r_getA F frX3_29 h_p1 dX3_copy_129 ?_
  refine r_iconst F (v := 0) dX3_copy_132 (by decide) ?_
  refine r_aload_n F 0 rfl dX3_copy_133 rfl ?_
  refine r_getA F frX3_29 h_o dX3_copy_134 ?_
  refine r_iconst F (v := 0) dX3_copy_137 (by decide) ?_
  refine r_iconst F (v := 4) dX3_copy_138 (by decide) ?_
  refine r_copy F (ar_3_5 p1 h_p1) (ar_3_5 o h_o) wd_795 ws_copy ⟨Nat.le_of_ble_eq_true rfl, Nat.le_of_ble_eq_true rfl⟩ dX3_copy_139 fun h14 => ?_
  refine r_aload_n F 1 rfl dX3_copy_142 rfl ?_
  refine r_getA F frX3_32 h_p1 dX3_copy_143 ?_
  refine r_iconst F (v := 0) dX3_copy_146 (by decide) ?_
  refine r_aload_n F 0 rfl dX3_copy_147 rfl ?_
  refine r_getA F frX3_32 h_o dX3_copy_148 ?_
  refine r_iconst F (v := 0) dX3_copy_151 (by decide) ?_
  refine r_iconst F (v := 4) dX3_copy_152 (by decide) ?_
  refine r_copy F (ar_3_6 p1 h_p1) (ar_3_6 o h_o) wd_795 ws_copy ⟨Nat.le_of_ble_eq_true rfl, Nat.le_of_ble_eq_true rfl⟩ dX3_copy_153 fun h15 => ?_
  refine r_aload_n F 1 rfl dX3_copy_156 rfl ?_
  refine r_getA F frX3_35 h_p1 dX3_copy_157 ?_
  refine r_iconst F (v := 0) dX3_copy_160 (by decide) ?_
  refine r_aload_n F 0 rfl dX3_copy_161 rfl ?_
  refine r_getA F frX3_35 h_o dX3_copy_162 ?_
  refine r_iconst F (v := 0) dX3_copy_165 (by decide) ?_
  refine r_iconst F (v := 4) dX3_copy_166 (by decide) ?_
  refine r_copy F (ar_3_7 p1 h_p1) (ar_3_7 o h_o) wd_795 ws_copy ⟨Nat.le_of_ble_eq_true rfl, Nat.le_of_ble_eq_true rfl⟩ dX3_copy_167 fun h16 => ?_
  refine r_aload_n F 1 rfl dX3_copy_170 rfl ?_
  refine r_getA F frX3_41 h_p1 dX3_copy_171 ?_
  refine r_iconst F (v := 0) dX3_copy_174 (by decide) ?_
  refine r_aload_n F 0 rfl dX3_copy_175 rfl ?_
  refine r_getA F frX3_41 h_o dX3_copy_176 ?_
  refine r_iconst F (v := 0) dX3_copy_179 (by decide) ?_
  refine r_bipush F (v := 6) dX3_copy_180 (by decide) ?_
  refine r_copy F (ar_3_9 p1 h_p1) (ar_3_9 o h_o) wd_795 ws_copy ⟨Nat.le_of_ble_eq_true rfl, Nat.le_of_ble_eq_true rfl⟩ dX3_copy_182 fun h17 => ?_
  exact r_vret F hA rfl rfl trivial dX3_copy_185
theorem c_X3_copy (G : Gx) (l : Launch) (h : Hp) (o : Nat) (h_o : o < cnt 3) (p1 : Nat) (h_p1 : p1 < cnt 3) : Ctr G l yX3_copy (.code yX3_copy cX3_copy 2 none :: GT) rmX3_copy [.ref (adr G 3 o 0), .ref (adr G 3 p1 0)] h (f_X3_copy h o p1) (fun _ => none) (fun v => v) (fun _ => True) :=
  ctr_of (by decide) (Nat.le_of_ble_eq_true rfl) ⟨rfl, rfl⟩ fun X _ e2 hA hL F => by subst e2; exact w_X3_copy X F hA hL h o h_o p1 h_p1
