theorem dX8_boundLaw_0 : decode cX8_boundLaw 0 = .ok (.aload_n 0, 1) := by decide +kernel
theorem dX8_boundLaw_1 : decode cX8_boundLaw 1 = .ok (.getfield 54, 3) := by decide +kernel
theorem dX8_boundLaw_4 : decode cX8_boundLaw 4 = .ok (.iload_n 1, 1) := by decide +kernel
theorem dX8_boundLaw_5 : decode cX8_boundLaw 5 = .ok (.baload, 1) := by decide +kernel
theorem dX8_boundLaw_6 : decode cX8_boundLaw 6 = .ok (.ifCond .ne 5, 3) := by decide +kernel
theorem dX8_boundLaw_9 : decode cX8_boundLaw 9 = .ok (.iload_n 2, 1) := by decide +kernel
theorem dX8_boundLaw_10 : decode cX8_boundLaw 10 = .ok (.ireturn, 1) := by decide +kernel
theorem dX8_boundLaw_11 : decode cX8_boundLaw 11 = .ok (.aload_n 0, 1) := by decide +kernel
theorem dX8_boundLaw_12 : decode cX8_boundLaw 12 = .ok (.iload_n 1, 1) := by decide +kernel
theorem dX8_boundLaw_13 : decode cX8_boundLaw 13 = .ok (.invokevirtual 398, 3) := by decide +kernel
theorem dX8_boundLaw_16 : decode cX8_boundLaw 16 = .ok (.lstore 4, 2) := by decide +kernel
theorem dX8_boundLaw_18 : decode cX8_boundLaw 18 = .ok (.aload_n 0, 1) := by decide +kernel
theorem dX8_boundLaw_19 : decode cX8_boundLaw 19 = .ok (.getfield 341, 3) := by decide +kernel
theorem dX8_boundLaw_22 : decode cX8_boundLaw 22 = .ok (.ifCond .eq 5, 3) := by decide +kernel
theorem dX8_boundLaw_25 : decode cX8_boundLaw 25 = .ok (.iload_n 2, 1) := by decide +kernel
theorem dX8_boundLaw_26 : decode cX8_boundLaw 26 = .ok (.ireturn, 1) := by decide +kernel
theorem dX8_boundLaw_27 : decode cX8_boundLaw 27 = .ok (.lload 4, 2) := by decide +kernel
theorem dX8_boundLaw_29 : decode cX8_boundLaw 29 = .ok (.lconst 0, 1) := by decide +kernel
theorem dX8_boundLaw_30 : decode cX8_boundLaw 30 = .ok (.lcmp, 1) := by decide +kernel
theorem dX8_boundLaw_31 : decode cX8_boundLaw 31 = .ok (.ifCond .ge 7, 3) := by decide +kernel
theorem dX8_boundLaw_34 : decode cX8_boundLaw 34 = .ok (.iconst 0, 1) := by decide +kernel
theorem dX8_boundLaw_35 : decode cX8_boundLaw 35 = .ok (.goto 18, 3) := by decide +kernel
theorem dX8_boundLaw_38 : decode cX8_boundLaw 38 = .ok (.lload 4, 2) := by decide +kernel
theorem dX8_boundLaw_40 : decode cX8_boundLaw 40 = .ok (.iload_n 3, 1) := by decide +kernel
theorem dX8_boundLaw_41 : decode cX8_boundLaw 41 = .ok (.i2l, 1) := by decide +kernel
theorem dX8_boundLaw_42 : decode cX8_boundLaw 42 = .ok (.lcmp, 1) := by decide +kernel
theorem dX8_boundLaw_43 : decode cX8_boundLaw 43 = .ok (.ifCond .le 7, 3) := by decide +kernel
theorem dX8_boundLaw_46 : decode cX8_boundLaw 46 = .ok (.iload_n 3, 1) := by decide +kernel
theorem dX8_boundLaw_47 : decode cX8_boundLaw 47 = .ok (.goto 6, 3) := by decide +kernel
theorem dX8_boundLaw_50 : decode cX8_boundLaw 50 = .ok (.lload 4, 2) := by decide +kernel
theorem dX8_boundLaw_52 : decode cX8_boundLaw 52 = .ok (.l2i, 1) := by decide +kernel
theorem dX8_boundLaw_53 : decode cX8_boundLaw 53 = .ok (.ireturn, 1) := by decide +kernel
theorem dX8_liesAt_0 : decode cX8_liesAt 0 = .ok (.iload_n 2, 1) := by decide +kernel
theorem dX8_liesAt_1 : decode cX8_liesAt 1 = .ok (.bipush (-3), 2) := by decide +kernel
theorem dX8_liesAt_3 : decode cX8_liesAt 3 = .ok (.if_icmp .ne 12, 3) := by decide +kernel
theorem dX8_liesAt_6 : decode cX8_liesAt 6 = .ok (.aload_n 0, 1) := by decide +kernel
theorem dX8_liesAt_7 : decode cX8_liesAt 7 = .ok (.getfield 109, 3) := by decide +kernel
theorem dX8_liesAt_10 : decode cX8_liesAt 10 = .ok (.iload_n 1, 1) := by decide +kernel
theorem dX8_liesAt_11 : decode cX8_liesAt 11 = .ok (.iaload, 1) := by decide +kernel
theorem dX8_liesAt_12 : decode cX8_liesAt 12 = .ok (.goto 14, 3) := by decide +kernel
theorem dX8_liesAt_15 : decode cX8_liesAt 15 = .ok (.aload_n 0, 1) := by decide +kernel
theorem dX8_liesAt_16 : decode cX8_liesAt 16 = .ok (.getfield 85, 3) := by decide +kernel
theorem dX8_liesAt_19 : decode cX8_liesAt 19 = .ok (.bipush 8, 2) := by decide +kernel
theorem dX8_liesAt_21 : decode cX8_liesAt 21 = .ok (.iload_n 1, 1) := by decide +kernel
theorem dX8_liesAt_22 : decode cX8_liesAt 22 = .ok (.imul, 1) := by decide +kernel
theorem dX8_liesAt_23 : decode cX8_liesAt 23 = .ok (.iload_n 2, 1) := by decide +kernel
theorem dX8_liesAt_24 : decode cX8_liesAt 24 = .ok (.iadd, 1) := by decide +kernel
theorem dX8_liesAt_25 : decode cX8_liesAt 25 = .ok (.iaload, 1) := by decide +kernel
theorem dX8_liesAt_26 : decode cX8_liesAt 26 = .ok (.ireturn, 1) := by decide +kernel
theorem dX8_loadOf_0 : decode cX8_loadOf 0 = .ok (.aload_n 0, 1) := by decide +kernel
theorem dX8_loadOf_1 : decode cX8_loadOf 1 = .ok (.iload_n 1, 1) := by decide +kernel
theorem dX8_loadOf_2 : decode cX8_loadOf 2 = .ok (.aload_n 0, 1) := by decide +kernel
theorem dX8_loadOf_3 : decode cX8_loadOf 3 = .ok (.iload_n 1, 1) := by decide +kernel
theorem dX8_loadOf_4 : decode cX8_loadOf 4 = .ok (.iload_n 3, 1) := by decide +kernel
theorem dX8_loadOf_5 : decode cX8_loadOf 5 = .ok (.invokevirtual 401, 3) := by decide +kernel
theorem dX8_loadOf_8 : decode cX8_loadOf 8 = .ok (.iload_n 2, 1) := by decide +kernel
theorem dX8_loadOf_9 : decode cX8_loadOf 9 = .ok (.invokevirtual 391, 3) := by decide +kernel
theorem dX8_loadOf_12 : decode cX8_loadOf 12 = .ok (.iconst 5, 1) := by decide +kernel
theorem dX8_loadOf_13 : decode cX8_loadOf 13 = .ok (.aload_n 0, 1) := by decide +kernel
theorem dX8_loadOf_14 : decode cX8_loadOf 14 = .ok (.getfield 91, 3) := by decide +kernel
theorem dX8_loadOf_17 : decode cX8_loadOf 17 = .ok (.iconst 4, 1) := by decide +kernel
theorem dX8_loadOf_18 : decode cX8_loadOf 18 = .ok (.iload_n 1, 1) := by decide +kernel
theorem dX8_loadOf_19 : decode cX8_loadOf 19 = .ok (.imul, 1) := by decide +kernel
theorem dX8_loadOf_20 : decode cX8_loadOf 20 = .ok (.iload_n 2, 1) := by decide +kernel
theorem dX8_loadOf_21 : decode cX8_loadOf 21 = .ok (.iadd, 1) := by decide +kernel
theorem dX8_loadOf_22 : decode cX8_loadOf 22 = .ok (.iaload, 1) := by decide +kernel
theorem dX8_loadOf_23 : decode cX8_loadOf 23 = .ok (.imul, 1) := by decide +kernel
theorem dX8_loadOf_24 : decode cX8_loadOf 24 = .ok (.aload_n 0, 1) := by decide +kernel
theorem dX8_loadOf_25 : decode cX8_loadOf 25 = .ok (.getfield 385, 3) := by decide +kernel
theorem dX8_loadOf_28 : decode cX8_loadOf 28 = .ok (.ifCond .eq 7, 3) := by decide +kernel
theorem dX8_loadOf_31 : decode cX8_loadOf 31 = .ok (.iconst 0, 1) := by decide +kernel
theorem dX8_loadOf_32 : decode cX8_loadOf 32 = .ok (.goto 9, 3) := by decide +kernel
theorem dX8_loadOf_35 : decode cX8_loadOf 35 = .ok (.aload_n 0, 1) := by decide +kernel
theorem dX8_loadOf_36 : decode cX8_loadOf 36 = .ok (.getfield 36, 3) := by decide +kernel
theorem dX8_loadOf_39 : decode cX8_loadOf 39 = .ok (.iload_n 2, 1) := by decide +kernel
theorem dX8_loadOf_40 : decode cX8_loadOf 40 = .ok (.iaload, 1) := by decide +kernel
theorem dX8_loadOf_41 : decode cX8_loadOf 41 = .ok (.isub, 1) := by decide +kernel
theorem dX8_loadOf_42 : decode cX8_loadOf 42 = .ok (.istore 4, 2) := by decide +kernel
theorem dX8_loadOf_44 : decode cX8_loadOf 44 = .ok (.aload_n 0, 1) := by decide +kernel
theorem dX8_loadOf_45 : decode cX8_loadOf 45 = .ok (.iconst 0, 1) := by decide +kernel
theorem dX8_loadOf_46 : decode cX8_loadOf 46 = .ok (.iload 4, 2) := by decide +kernel
theorem dX8_loadOf_48 : decode cX8_loadOf 48 = .ok (.ifCond .ge 7, 3) := by decide +kernel
theorem dX8_loadOf_51 : decode cX8_loadOf 51 = .ok (.iconst 0, 1) := by decide +kernel
theorem dX8_loadOf_52 : decode cX8_loadOf 52 = .ok (.goto 5, 3) := by decide +kernel
theorem dX8_loadOf_55 : decode cX8_loadOf 55 = .ok (.iload 4, 2) := by decide +kernel
theorem dX8_loadOf_57 : decode cX8_loadOf 57 = .ok (.bipush 99, 2) := by decide +kernel
theorem dX8_loadOf_59 : decode cX8_loadOf 59 = .ok (.invokevirtual 404, 3) := by decide +kernel
theorem dX8_loadOf_62 : decode cX8_loadOf 62 = .ok (.ireturn, 1) := by decide +kernel
theorem dX8_forkOf_0 : decode cX8_forkOf 0 = .ok (.aload_n 0, 1) := by decide +kernel
theorem dX8_forkOf_1 : decode cX8_forkOf 1 = .ok (.iload_n 1, 1) := by decide +kernel
theorem dX8_forkOf_2 : decode cX8_forkOf 2 = .ok (.aload_n 0, 1) := by decide +kernel
theorem dX8_forkOf_3 : decode cX8_forkOf 3 = .ok (.iload_n 1, 1) := by decide +kernel
theorem dX8_forkOf_4 : decode cX8_forkOf 4 = .ok (.iload_n 3, 1) := by decide +kernel
theorem dX8_forkOf_5 : decode cX8_forkOf 5 = .ok (.invokevirtual 401, 3) := by decide +kernel
theorem dX8_forkOf_8 : decode cX8_forkOf 8 = .ok (.iload_n 2, 1) := by decide +kernel
theorem dX8_forkOf_9 : decode cX8_forkOf 9 = .ok (.invokevirtual 391, 3) := by decide +kernel
theorem dX8_forkOf_12 : decode cX8_forkOf 12 = .ok (.aload_n 0, 1) := by decide +kernel
theorem dX8_forkOf_13 : decode cX8_forkOf 13 = .ok (.iconst 1, 1) := by decide +kernel
theorem dX8_forkOf_14 : decode cX8_forkOf 14 = .ok (.bipush 8, 2) := by decide +kernel
theorem dX8_forkOf_16 : decode cX8_forkOf 16 = .ok (.bipush 99, 2) := by decide +kernel
theorem dX8_forkOf_18 : decode cX8_forkOf 18 = .ok (.invokevirtual 404, 3) := by decide +kernel
theorem dX8_forkOf_21 : decode cX8_forkOf 21 = .ok (.ireturn, 1) := by decide +kernel
theorem dX8_ebbOf_0 : decode cX8_ebbOf 0 = .ok (.aload_n 0, 1) := by decide +kernel
theorem dX8_ebbOf_1 : decode cX8_ebbOf 1 = .ok (.getfield 85, 3) := by decide +kernel
theorem dX8_ebbOf_4 : decode cX8_ebbOf 4 = .ok (.bipush 8, 2) := by decide +kernel
theorem dX8_ebbOf_6 : decode cX8_ebbOf 6 = .ok (.iload_n 1, 1) := by decide +kernel
theorem dX8_ebbOf_7 : decode cX8_ebbOf 7 = .ok (.imul, 1) := by decide +kernel
theorem dX8_ebbOf_8 : decode cX8_ebbOf 8 = .ok (.iload_n 2, 1) := by decide +kernel
theorem dX8_ebbOf_9 : decode cX8_ebbOf 9 = .ok (.iadd, 1) := by decide +kernel
theorem dX8_ebbOf_10 : decode cX8_ebbOf 10 = .ok (.iaload, 1) := by decide +kernel
theorem dX8_ebbOf_11 : decode cX8_ebbOf 11 = .ok (.istore_n 3, 1) := by decide +kernel
theorem dX8_ebbOf_12 : decode cX8_ebbOf 12 = .ok (.aload_n 0, 1) := by decide +kernel
theorem dX8_ebbOf_13 : decode cX8_ebbOf 13 = .ok (.iload_n 1, 1) := by decide +kernel
theorem dX8_ebbOf_14 : decode cX8_ebbOf 14 = .ok (.iload_n 3, 1) := by decide +kernel
theorem dX8_ebbOf_15 : decode cX8_ebbOf 15 = .ok (.iconst (-1), 1) := by decide +kernel
theorem dX8_ebbOf_16 : decode cX8_ebbOf 16 = .ok (.invokevirtual 391, 3) := by decide +kernel
theorem dX8_ebbOf_19 : decode cX8_ebbOf 19 = .ok (.aload_n 0, 1) := by decide +kernel
theorem dX8_ebbOf_20 : decode cX8_ebbOf 20 = .ok (.iconst 2, 1) := by decide +kernel
theorem dX8_ebbOf_21 : decode cX8_ebbOf 21 = .ok (.iload_n 3, 1) := by decide +kernel
theorem dX8_ebbOf_22 : decode cX8_ebbOf 22 = .ok (.iconst 2, 1) := by decide +kernel
theorem dX8_ebbOf_23 : decode cX8_ebbOf 23 = .ok (.idiv, 1) := by decide +kernel
theorem dX8_ebbOf_24 : decode cX8_ebbOf 24 = .ok (.iload_n 3, 1) := by decide +kernel
theorem dX8_ebbOf_25 : decode cX8_ebbOf 25 = .ok (.invokevirtual 404, 3) := by decide +kernel
theorem dX8_ebbOf_28 : decode cX8_ebbOf 28 = .ok (.ireturn, 1) := by decide +kernel
theorem dX8_worthOf_0 : decode cX8_worthOf 0 = .ok (.aload_n 0, 1) := by decide +kernel
theorem dX8_worthOf_1 : decode cX8_worthOf 1 = .ok (.getfield 45, 3) := by decide +kernel
theorem dX8_worthOf_4 : decode cX8_worthOf 4 = .ok (.iload_n 2, 1) := by decide +kernel
theorem dX8_worthOf_5 : decode cX8_worthOf 5 = .ok (.iaload, 1) := by decide +kernel
theorem dX8_worthOf_6 : decode cX8_worthOf 6 = .ok (.aload_n 0, 1) := by decide +kernel
theorem dX8_worthOf_7 : decode cX8_worthOf 7 = .ok (.getfield 106, 3) := by decide +kernel
theorem dX8_worthOf_10 : decode cX8_worthOf 10 = .ok (.bipush 6, 2) := by decide +kernel
theorem dX8_worthOf_12 : decode cX8_worthOf 12 = .ok (.iload_n 1, 1) := by decide +kernel
theorem dX8_worthOf_13 : decode cX8_worthOf 13 = .ok (.imul, 1) := by decide +kernel
theorem dX8_worthOf_14 : decode cX8_worthOf 14 = .ok (.iload_n 2, 1) := by decide +kernel
theorem dX8_worthOf_15 : decode cX8_worthOf 15 = .ok (.iadd, 1) := by decide +kernel
theorem dX8_worthOf_16 : decode cX8_worthOf 16 = .ok (.iaload, 1) := by decide +kernel
theorem dX8_worthOf_17 : decode cX8_worthOf 17 = .ok (.isub, 1) := by decide +kernel
theorem dX8_worthOf_18 : decode cX8_worthOf 18 = .ok (.istore_n 3, 1) := by decide +kernel
theorem dX8_worthOf_19 : decode cX8_worthOf 19 = .ok (.aload_n 0, 1) := by decide +kernel
theorem dX8_worthOf_20 : decode cX8_worthOf 20 = .ok (.iload_n 1, 1) := by decide +kernel
theorem dX8_worthOf_21 : decode cX8_worthOf 21 = .ok (.iload_n 2, 1) := by decide +kernel
theorem dX8_worthOf_22 : decode cX8_worthOf 22 = .ok (.invokevirtual 408, 3) := by decide +kernel
theorem dX8_worthOf_25 : decode cX8_worthOf 25 = .ok (.aload_n 0, 1) := by decide +kernel
theorem dX8_worthOf_26 : decode cX8_worthOf 26 = .ok (.iconst 3, 1) := by decide +kernel
theorem dX8_worthOf_27 : decode cX8_worthOf 27 = .ok (.iload_n 3, 1) := by decide +kernel
theorem dX8_worthOf_28 : decode cX8_worthOf 28 = .ok (.ifCond .ge 7, 3) := by decide +kernel
theorem dX8_worthOf_31 : decode cX8_worthOf 31 = .ok (.iconst 0, 1) := by decide +kernel
theorem dX8_worthOf_32 : decode cX8_worthOf 32 = .ok (.goto 4, 3) := by decide +kernel
theorem dX8_worthOf_35 : decode cX8_worthOf 35 = .ok (.iload_n 3, 1) := by decide +kernel
theorem dX8_worthOf_36 : decode cX8_worthOf 36 = .ok (.bipush 99, 2) := by decide +kernel
theorem dX8_worthOf_38 : decode cX8_worthOf 38 = .ok (.invokevirtual 404, 3) := by decide +kernel
theorem dX8_worthOf_41 : decode cX8_worthOf 41 = .ok (.ireturn, 1) := by decide +kernel
theorem dX8_sourceOf_0 : decode cX8_sourceOf 0 = .ok (.iload_n 3, 1) := by decide +kernel
theorem dX8_sourceOf_1 : decode cX8_sourceOf 1 = .ok (.iconst 2, 1) := by decide +kernel
theorem dX8_sourceOf_2 : decode cX8_sourceOf 2 = .ok (.if_icmp .ne 20, 3) := by decide +kernel
theorem dX8_sourceOf_5 : decode cX8_sourceOf 5 = .ok (.iload 4, 2) := by decide +kernel
theorem dX8_sourceOf_7 : decode cX8_sourceOf 7 = .ok (.ifCond .ne 15, 3) := by decide +kernel
theorem dX8_sourceOf_10 : decode cX8_sourceOf 10 = .ok (.aload_n 0, 1) := by decide +kernel
theorem dX8_sourceOf_11 : decode cX8_sourceOf 11 = .ok (.getfield 109, 3) := by decide +kernel
theorem dX8_sourceOf_14 : decode cX8_sourceOf 14 = .ok (.iload_n 1, 1) := by decide +kernel
theorem dX8_sourceOf_15 : decode cX8_sourceOf 15 = .ok (.iaload, 1) := by decide +kernel
theorem dX8_sourceOf_16 : decode cX8_sourceOf 16 = .ok (.ifCond .le 6, 3) := by decide +kernel
theorem dX8_sourceOf_19 : decode cX8_sourceOf 19 = .ok (.bipush (-3), 2) := by decide +kernel
theorem dX8_sourceOf_21 : decode cX8_sourceOf 21 = .ok (.ireturn, 1) := by decide +kernel
theorem dX8_sourceOf_22 : decode cX8_sourceOf 22 = .ok (.iconst (-1), 1) := by decide +kernel
theorem dX8_sourceOf_23 : decode cX8_sourceOf 23 = .ok (.istore 5, 2) := by decide +kernel
theorem dX8_sourceOf_25 : decode cX8_sourceOf 25 = .ok (.iconst 0, 1) := by decide +kernel
theorem dX8_sourceOf_26 : decode cX8_sourceOf 26 = .ok (.istore 6, 2) := by decide +kernel
theorem dX8_sourceOf_28 : decode cX8_sourceOf 28 = .ok (.iload 6, 2) := by decide +kernel
theorem dX8_sourceOf_30 : decode cX8_sourceOf 30 = .ok (.aload_n 0, 1) := by decide +kernel
theorem dX8_sourceOf_31 : decode cX8_sourceOf 31 = .ok (.getfield 243, 3) := by decide +kernel
theorem dX8_sourceOf_34 : decode cX8_sourceOf 34 = .ok (.if_icmp .ge 84, 3) := by decide +kernel
theorem dX8_sourceOf_37 : decode cX8_sourceOf 37 = .ok (.aload_n 0, 1) := by decide +kernel
theorem dX8_sourceOf_38 : decode cX8_sourceOf 38 = .ok (.getfield 85, 3) := by decide +kernel
theorem dX8_sourceOf_41 : decode cX8_sourceOf 41 = .ok (.bipush 8, 2) := by decide +kernel
theorem dX8_sourceOf_43 : decode cX8_sourceOf 43 = .ok (.iload_n 1, 1) := by decide +kernel
theorem dX8_sourceOf_44 : decode cX8_sourceOf 44 = .ok (.imul, 1) := by decide +kernel
theorem dX8_sourceOf_45 : decode cX8_sourceOf 45 = .ok (.iload 6, 2) := by decide +kernel
theorem dX8_sourceOf_47 : decode cX8_sourceOf 47 = .ok (.iadd, 1) := by decide +kernel
theorem dX8_sourceOf_48 : decode cX8_sourceOf 48 = .ok (.iaload, 1) := by decide +kernel
theorem dX8_sourceOf_49 : decode cX8_sourceOf 49 = .ok (.ifCond .eq 63, 3) := by decide +kernel
theorem dX8_sourceOf_52 : decode cX8_sourceOf 52 = .ok (.iload_n 3, 1) := by decide +kernel
theorem dX8_sourceOf_53 : decode cX8_sourceOf 53 = .ok (.iconst 1, 1) := by decide +kernel
theorem dX8_sourceOf_54 : decode cX8_sourceOf 54 = .ok (.if_icmp .ne 22, 3) := by decide +kernel
theorem dX8_sourceOf_57 : decode cX8_sourceOf 57 = .ok (.aload_n 0, 1) := by decide +kernel
theorem dX8_sourceOf_58 : decode cX8_sourceOf 58 = .ok (.getfield 88, 3) := by decide +kernel
theorem dX8_sourceOf_61 : decode cX8_sourceOf 61 = .ok (.bipush 8, 2) := by decide +kernel
theorem dX8_sourceOf_63 : decode cX8_sourceOf 63 = .ok (.iload_n 1, 1) := by decide +kernel
theorem dX8_sourceOf_64 : decode cX8_sourceOf 64 = .ok (.imul, 1) := by decide +kernel
theorem dX8_sourceOf_65 : decode cX8_sourceOf 65 = .ok (.iload 6, 2) := by decide +kernel
theorem dX8_sourceOf_67 : decode cX8_sourceOf 67 = .ok (.iadd, 1) := by decide +kernel
theorem dX8_sourceOf_68 : decode cX8_sourceOf 68 = .ok (.iaload, 1) := by decide +kernel
theorem dX8_sourceOf_69 : decode cX8_sourceOf 69 = .ok (.iload_n 2, 1) := by decide +kernel
theorem dX8_sourceOf_70 : decode cX8_sourceOf 70 = .ok (.if_icmp .eq 6, 3) := by decide +kernel
theorem dX8_sourceOf_73 : decode cX8_sourceOf 73 = .ok (.goto 39, 3) := by decide +kernel
theorem dX8_sourceOf_76 : decode cX8_sourceOf 76 = .ok (.iload 5, 2) := by decide +kernel
theorem dX8_sourceOf_78 : decode cX8_sourceOf 78 = .ok (.ifCond .lt 30, 3) := by decide +kernel
theorem dX8_sourceOf_81 : decode cX8_sourceOf 81 = .ok (.aload_n 0, 1) := by decide +kernel
theorem dX8_sourceOf_82 : decode cX8_sourceOf 82 = .ok (.getfield 85, 3) := by decide +kernel
theorem dX8_sourceOf_85 : decode cX8_sourceOf 85 = .ok (.bipush 8, 2) := by decide +kernel
theorem dX8_sourceOf_87 : decode cX8_sourceOf 87 = .ok (.iload_n 1, 1) := by decide +kernel
theorem dX8_sourceOf_88 : decode cX8_sourceOf 88 = .ok (.imul, 1) := by decide +kernel
theorem dX8_sourceOf_89 : decode cX8_sourceOf 89 = .ok (.iload 6, 2) := by decide +kernel
theorem dX8_sourceOf_91 : decode cX8_sourceOf 91 = .ok (.iadd, 1) := by decide +kernel
theorem dX8_sourceOf_92 : decode cX8_sourceOf 92 = .ok (.iaload, 1) := by decide +kernel
theorem dX8_sourceOf_93 : decode cX8_sourceOf 93 = .ok (.aload_n 0, 1) := by decide +kernel
theorem dX8_sourceOf_94 : decode cX8_sourceOf 94 = .ok (.getfield 85, 3) := by decide +kernel
theorem dX8_sourceOf_97 : decode cX8_sourceOf 97 = .ok (.bipush 8, 2) := by decide +kernel
theorem dX8_sourceOf_99 : decode cX8_sourceOf 99 = .ok (.iload_n 1, 1) := by decide +kernel
theorem dX8_sourceOf_100 : decode cX8_sourceOf 100 = .ok (.imul, 1) := by decide +kernel
theorem dX8_sourceOf_101 : decode cX8_sourceOf 101 = .ok (.iload 5, 2) := by decide +kernel
theorem dX8_sourceOf_103 : decode cX8_sourceOf 103 = .ok (.iadd, 1) := by decide +kernel
theorem dX8_sourceOf_104 : decode cX8_sourceOf 104 = .ok (.iaload, 1) := by decide +kernel
theorem dX8_sourceOf_105 : decode cX8_sourceOf 105 = .ok (.if_icmp .le 7, 3) := by decide +kernel
theorem dX8_sourceOf_108 : decode cX8_sourceOf 108 = .ok (.iload 6, 2) := by decide +kernel
theorem dX8_sourceOf_110 : decode cX8_sourceOf 110 = .ok (.istore 5, 2) := by decide +kernel
theorem dX8_sourceOf_112 : decode cX8_sourceOf 112 = .ok (.iinc 6 1, 3) := by decide +kernel
theorem dX8_sourceOf_115 : decode cX8_sourceOf 115 = .ok (.goto (-87), 3) := by decide +kernel
theorem dX8_sourceOf_118 : decode cX8_sourceOf 118 = .ok (.iload 5, 2) := by decide +kernel
theorem dX8_sourceOf_120 : decode cX8_sourceOf 120 = .ok (.ifCond .lt 6, 3) := by decide +kernel
theorem dX8_sourceOf_123 : decode cX8_sourceOf 123 = .ok (.iload 5, 2) := by decide +kernel
theorem dX8_sourceOf_125 : decode cX8_sourceOf 125 = .ok (.ireturn, 1) := by decide +kernel
theorem dX8_sourceOf_126 : decode cX8_sourceOf 126 = .ok (.iload 4, 2) := by decide +kernel
theorem dX8_sourceOf_128 : decode cX8_sourceOf 128 = .ok (.ifCond .ne 17, 3) := by decide +kernel
theorem dX8_sourceOf_131 : decode cX8_sourceOf 131 = .ok (.aload_n 0, 1) := by decide +kernel
theorem dX8_sourceOf_132 : decode cX8_sourceOf 132 = .ok (.getfield 109, 3) := by decide +kernel
theorem dX8_sourceOf_135 : decode cX8_sourceOf 135 = .ok (.iload_n 1, 1) := by decide +kernel
theorem dX8_sourceOf_136 : decode cX8_sourceOf 136 = .ok (.iaload, 1) := by decide +kernel
theorem dX8_sourceOf_137 : decode cX8_sourceOf 137 = .ok (.ifCond .le 8, 3) := by decide +kernel
theorem dX8_sourceOf_140 : decode cX8_sourceOf 140 = .ok (.bipush (-3), 2) := by decide +kernel
theorem dX8_sourceOf_142 : decode cX8_sourceOf 142 = .ok (.goto 5, 3) := by decide +kernel
theorem dX8_sourceOf_145 : decode cX8_sourceOf 145 = .ok (.bipush (-2), 2) := by decide +kernel
theorem dX8_sourceOf_147 : decode cX8_sourceOf 147 = .ok (.ireturn, 1) := by decide +kernel
theorem dX8_fieldFor_0 : decode cX8_fieldFor 0 = .ok (.iconst (-1), 1) := by decide +kernel
theorem dX8_fieldFor_1 : decode cX8_fieldFor 1 = .ok (.istore_n 3, 1) := by decide +kernel
theorem dX8_fieldFor_2 : decode cX8_fieldFor 2 = .ok (.iconst 0, 1) := by decide +kernel
theorem dX8_fieldFor_3 : decode cX8_fieldFor 3 = .ok (.istore 4, 2) := by decide +kernel
theorem dX8_fieldFor_5 : decode cX8_fieldFor 5 = .ok (.iload 4, 2) := by decide +kernel
theorem dX8_fieldFor_7 : decode cX8_fieldFor 7 = .ok (.aload_n 0, 1) := by decide +kernel
theorem dX8_fieldFor_8 : decode cX8_fieldFor 8 = .ok (.getfield 249, 3) := by decide +kernel
theorem dX8_fieldFor_11 : decode cX8_fieldFor 11 = .ok (.if_icmp .ge 43, 3) := by decide +kernel
theorem dX8_fieldFor_14 : decode cX8_fieldFor 14 = .ok (.aload_n 0, 1) := by decide +kernel
theorem dX8_fieldFor_15 : decode cX8_fieldFor 15 = .ok (.getfield 42, 3) := by decide +kernel
theorem dX8_fieldFor_18 : decode cX8_fieldFor 18 = .ok (.iload 4, 2) := by decide +kernel
theorem dX8_fieldFor_20 : decode cX8_fieldFor 20 = .ok (.iaload, 1) := by decide +kernel
theorem dX8_fieldFor_21 : decode cX8_fieldFor 21 = .ok (.iload_n 2, 1) := by decide +kernel
theorem dX8_fieldFor_22 : decode cX8_fieldFor 22 = .ok (.if_icmp .ne 26, 3) := by decide +kernel
theorem dX8_fieldFor_25 : decode cX8_fieldFor 25 = .ok (.iload_n 3, 1) := by decide +kernel
theorem dX8_fieldFor_26 : decode cX8_fieldFor 26 = .ok (.ifCond .lt 19, 3) := by decide +kernel
theorem dX8_fieldFor_29 : decode cX8_fieldFor 29 = .ok (.aload_n 0, 1) := by decide +kernel
theorem dX8_fieldFor_30 : decode cX8_fieldFor 30 = .ok (.iload_n 1, 1) := by decide +kernel
theorem dX8_fieldFor_31 : decode cX8_fieldFor 31 = .ok (.iload 4, 2) := by decide +kernel
theorem dX8_fieldFor_33 : decode cX8_fieldFor 33 = .ok (.invokevirtual 412, 3) := by decide +kernel
theorem dX8_fieldFor_36 : decode cX8_fieldFor 36 = .ok (.aload_n 0, 1) := by decide +kernel
theorem dX8_fieldFor_37 : decode cX8_fieldFor 37 = .ok (.iload_n 1, 1) := by decide +kernel
theorem dX8_fieldFor_38 : decode cX8_fieldFor 38 = .ok (.iload_n 3, 1) := by decide +kernel
theorem dX8_fieldFor_39 : decode cX8_fieldFor 39 = .ok (.invokevirtual 412, 3) := by decide +kernel
theorem dX8_fieldFor_42 : decode cX8_fieldFor 42 = .ok (.if_icmp .le 6, 3) := by decide +kernel
theorem dX8_fieldFor_45 : decode cX8_fieldFor 45 = .ok (.iload 4, 2) := by decide +kernel
theorem dX8_fieldFor_47 : decode cX8_fieldFor 47 = .ok (.istore_n 3, 1) := by decide +kernel
theorem dX8_fieldFor_48 : decode cX8_fieldFor 48 = .ok (.iinc 4 1, 3) := by decide +kernel
theorem dX8_fieldFor_51 : decode cX8_fieldFor 51 = .ok (.goto (-46), 3) := by decide +kernel
theorem dX8_fieldFor_54 : decode cX8_fieldFor 54 = .ok (.iload_n 3, 1) := by decide +kernel
theorem dX8_fieldFor_55 : decode cX8_fieldFor 55 = .ok (.ireturn, 1) := by decide +kernel
theorem dX8_lessAt_0 : decode cX8_lessAt 0 = .ok (.iload_n 2, 1) := by decide +kernel
theorem dX8_lessAt_1 : decode cX8_lessAt 1 = .ok (.bipush (-3), 2) := by decide +kernel
theorem dX8_lessAt_3 : decode cX8_lessAt 3 = .ok (.if_icmp .ne 16, 3) := by decide +kernel
theorem dX8_lessAt_6 : decode cX8_lessAt 6 = .ok (.aload_n 0, 1) := by decide +kernel
theorem dX8_lessAt_7 : decode cX8_lessAt 7 = .ok (.getfield 109, 3) := by decide +kernel
theorem dX8_lessAt_10 : decode cX8_lessAt 10 = .ok (.iload_n 1, 1) := by decide +kernel
theorem dX8_lessAt_11 : decode cX8_lessAt 11 = .ok (.dup2, 1) := by decide +kernel
theorem dX8_lessAt_12 : decode cX8_lessAt 12 = .ok (.iaload, 1) := by decide +kernel
theorem dX8_lessAt_13 : decode cX8_lessAt 13 = .ok (.iload_n 3, 1) := by decide +kernel
theorem dX8_lessAt_14 : decode cX8_lessAt 14 = .ok (.isub, 1) := by decide +kernel
theorem dX8_lessAt_15 : decode cX8_lessAt 15 = .ok (.iastore, 1) := by decide +kernel
theorem dX8_lessAt_16 : decode cX8_lessAt 16 = .ok (.goto 18, 3) := by decide +kernel
theorem dX8_lessAt_19 : decode cX8_lessAt 19 = .ok (.aload_n 0, 1) := by decide +kernel
theorem dX8_lessAt_20 : decode cX8_lessAt 20 = .ok (.getfield 85, 3) := by decide +kernel
theorem dX8_lessAt_23 : decode cX8_lessAt 23 = .ok (.bipush 8, 2) := by decide +kernel
theorem dX8_lessAt_25 : decode cX8_lessAt 25 = .ok (.iload_n 1, 1) := by decide +kernel
theorem dX8_lessAt_26 : decode cX8_lessAt 26 = .ok (.imul, 1) := by decide +kernel
theorem dX8_lessAt_27 : decode cX8_lessAt 27 = .ok (.iload_n 2, 1) := by decide +kernel
theorem dX8_lessAt_28 : decode cX8_lessAt 28 = .ok (.iadd, 1) := by decide +kernel
theorem dX8_lessAt_29 : decode cX8_lessAt 29 = .ok (.dup2, 1) := by decide +kernel
theorem dX8_lessAt_30 : decode cX8_lessAt 30 = .ok (.iaload, 1) := by decide +kernel
theorem dX8_lessAt_31 : decode cX8_lessAt 31 = .ok (.iload_n 3, 1) := by decide +kernel
theorem dX8_lessAt_32 : decode cX8_lessAt 32 = .ok (.isub, 1) := by decide +kernel
theorem dX8_lessAt_33 : decode cX8_lessAt 33 = .ok (.iastore, 1) := by decide +kernel
theorem dX8_lessAt_34 : decode cX8_lessAt 34 = .ok (.return_, 1) := by decide +kernel
theorem dX8_carts_0 : decode cX8_carts 0 = .ok (.aload_n 0, 1) := by decide +kernel
theorem dX8_carts_1 : decode cX8_carts 1 = .ok (.iload_n 1, 1) := by decide +kernel
theorem dX8_carts_2 : decode cX8_carts 2 = .ok (.iload_n 2, 1) := by decide +kernel
theorem dX8_carts_3 : decode cX8_carts 3 = .ok (.invokevirtual 415, 3) := by decide +kernel
theorem dX8_carts_6 : decode cX8_carts 6 = .ok (.istore 4, 2) := by decide +kernel
theorem dX8_carts_8 : decode cX8_carts 8 = .ok (.aload_n 0, 1) := by decide +kernel
theorem dX8_carts_9 : decode cX8_carts 9 = .ok (.iload_n 1, 1) := by decide +kernel
theorem dX8_carts_10 : decode cX8_carts 10 = .ok (.iload_n 2, 1) := by decide +kernel
theorem dX8_carts_11 : decode cX8_carts 11 = .ok (.iload_n 3, 1) := by decide +kernel
theorem dX8_carts_12 : decode cX8_carts 12 = .ok (.iconst 0, 1) := by decide +kernel
theorem dX8_carts_13 : decode cX8_carts 13 = .ok (.invokevirtual 418, 3) := by decide +kernel
theorem dX8_carts_16 : decode cX8_carts 16 = .ok (.istore 5, 2) := by decide +kernel
theorem dX8_carts_18 : decode cX8_carts 18 = .ok (.iload 4, 2) := by decide +kernel
theorem dX8_carts_20 : decode cX8_carts 20 = .ok (.ifCond .lt 10, 3) := by decide +kernel
theorem dX8_carts_23 : decode cX8_carts 23 = .ok (.iload 5, 2) := by decide +kernel
theorem dX8_carts_25 : decode cX8_carts 25 = .ok (.bipush (-2), 2) := by decide +kernel
theorem dX8_carts_27 : decode cX8_carts 27 = .ok (.if_icmp .ne 4, 3) := by decide +kernel
theorem dX8_carts_30 : decode cX8_carts 30 = .ok (.return_, 1) := by decide +kernel
theorem dX8_carts_31 : decode cX8_carts 31 = .ok (.aload_n 0, 1) := by decide +kernel
theorem dX8_carts_32 : decode cX8_carts 32 = .ok (.iload_n 1, 1) := by decide +kernel
theorem dX8_carts_33 : decode cX8_carts 33 = .ok (.iload_n 2, 1) := by decide +kernel
theorem dX8_carts_34 : decode cX8_carts 34 = .ok (.iload 5, 2) := by decide +kernel
theorem dX8_carts_36 : decode cX8_carts 36 = .ok (.invokevirtual 422, 3) := by decide +kernel
theorem dX8_carts_39 : decode cX8_carts 39 = .ok (.istore 6, 2) := by decide +kernel
theorem dX8_carts_41 : decode cX8_carts 41 = .ok (.iload 6, 2) := by decide +kernel
theorem dX8_carts_43 : decode cX8_carts 43 = .ok (.aload_n 0, 1) := by decide +kernel
theorem dX8_carts_44 : decode cX8_carts 44 = .ok (.iload_n 1, 1) := by decide +kernel
theorem dX8_carts_45 : decode cX8_carts 45 = .ok (.iload 5, 2) := by decide +kernel
theorem dX8_carts_47 : decode cX8_carts 47 = .ok (.invokevirtual 401, 3) := by decide +kernel
theorem dX8_carts_50 : decode cX8_carts 50 = .ok (.if_icmp .le 13, 3) := by decide +kernel
theorem dX8_carts_53 : decode cX8_carts 53 = .ok (.aload_n 0, 1) := by decide +kernel
theorem dX8_carts_54 : decode cX8_carts 54 = .ok (.iload_n 1, 1) := by decide +kernel
theorem dX8_carts_55 : decode cX8_carts 55 = .ok (.iload 5, 2) := by decide +kernel
theorem dX8_carts_57 : decode cX8_carts 57 = .ok (.invokevirtual 401, 3) := by decide +kernel
theorem dX8_carts_60 : decode cX8_carts 60 = .ok (.goto 5, 3) := by decide +kernel
theorem dX8_carts_63 : decode cX8_carts 63 = .ok (.iload 6, 2) := by decide +kernel
theorem dX8_carts_65 : decode cX8_carts 65 = .ok (.istore 6, 2) := by decide +kernel
theorem dX8_carts_67 : decode cX8_carts 67 = .ok (.aload_n 0, 1) := by decide +kernel
theorem dX8_carts_68 : decode cX8_carts 68 = .ok (.iload_n 1, 1) := by decide +kernel
theorem dX8_carts_69 : decode cX8_carts 69 = .ok (.iload 4, 2) := by decide +kernel
theorem dX8_carts_71 : decode cX8_carts 71 = .ok (.invokevirtual 412, 3) := by decide +kernel
theorem dX8_carts_74 : decode cX8_carts 74 = .ok (.istore 7, 2) := by decide +kernel
theorem dX8_carts_76 : decode cX8_carts 76 = .ok (.aload_n 0, 1) := by decide +kernel
theorem dX8_carts_77 : decode cX8_carts 77 = .ok (.iload_n 1, 1) := by decide +kernel
theorem dX8_carts_78 : decode cX8_carts 78 = .ok (.iload 5, 2) := by decide +kernel
theorem dX8_carts_80 : decode cX8_carts 80 = .ok (.iload 6, 2) := by decide +kernel
theorem dX8_carts_82 : decode cX8_carts 82 = .ok (.invokevirtual 425, 3) := by decide +kernel
theorem dX8_carts_85 : decode cX8_carts 85 = .ok (.aload_n 0, 1) := by decide +kernel
theorem dX8_carts_86 : decode cX8_carts 86 = .ok (.getfield 106, 3) := by decide +kernel
theorem dX8_carts_89 : decode cX8_carts 89 = .ok (.bipush 6, 2) := by decide +kernel
theorem dX8_carts_91 : decode cX8_carts 91 = .ok (.iload_n 1, 1) := by decide +kernel
theorem dX8_carts_92 : decode cX8_carts 92 = .ok (.imul, 1) := by decide +kernel
theorem dX8_carts_93 : decode cX8_carts 93 = .ok (.iload 4, 2) := by decide +kernel
theorem dX8_carts_95 : decode cX8_carts 95 = .ok (.iadd, 1) := by decide +kernel
theorem dX8_carts_96 : decode cX8_carts 96 = .ok (.dup2, 1) := by decide +kernel
theorem dX8_carts_97 : decode cX8_carts 97 = .ok (.iaload, 1) := by decide +kernel
theorem dX8_carts_98 : decode cX8_carts 98 = .ok (.iload 6, 2) := by decide +kernel
theorem dX8_carts_100 : decode cX8_carts 100 = .ok (.iadd, 1) := by decide +kernel
theorem dX8_carts_101 : decode cX8_carts 101 = .ok (.iastore, 1) := by decide +kernel
theorem dX8_carts_102 : decode cX8_carts 102 = .ok (.aload_n 0, 1) := by decide +kernel
theorem dX8_carts_103 : decode cX8_carts 103 = .ok (.getfield 100, 3) := by decide +kernel
theorem dX8_carts_106 : decode cX8_carts 106 = .ok (.iconst 4, 1) := by decide +kernel
theorem dX8_carts_107 : decode cX8_carts 107 = .ok (.iload_n 1, 1) := by decide +kernel
theorem dX8_carts_108 : decode cX8_carts 108 = .ok (.imul, 1) := by decide +kernel
theorem dX8_carts_109 : decode cX8_carts 109 = .ok (.iload_n 2, 1) := by decide +kernel
theorem dX8_carts_110 : decode cX8_carts 110 = .ok (.iadd, 1) := by decide +kernel
theorem dX8_carts_111 : decode cX8_carts 111 = .ok (.dup2, 1) := by decide +kernel
theorem dX8_carts_112 : decode cX8_carts 112 = .ok (.iaload, 1) := by decide +kernel
theorem dX8_carts_113 : decode cX8_carts 113 = .ok (.iload 7, 2) := by decide +kernel
theorem dX8_carts_115 : decode cX8_carts 115 = .ok (.iload 6, 2) := by decide +kernel
theorem dX8_carts_117 : decode cX8_carts 117 = .ok (.imul, 1) := by decide +kernel
theorem dX8_carts_118 : decode cX8_carts 118 = .ok (.iadd, 1) := by decide +kernel
theorem dX8_carts_119 : decode cX8_carts 119 = .ok (.iastore, 1) := by decide +kernel
theorem dX8_carts_120 : decode cX8_carts 120 = .ok (.return_, 1) := by decide +kernel
def f_X8_boundLaw (N : Nat) (h : Hp) (p1 : Int32) (p2 : Int32) (p3 : Int32) : Option (Int32 × Hp) :=
  grd (inb p1 8) <|
  if ¬ (b2i (gY h 8 0 13 p1.toNatClampNeg)) = 0 then
    bd2 (f_X8_lawOf N h p1) fun v2 h1 =>
    if (b2i (gZ h1 8 0 49)) = 0 then
      jn (fun (v3 : Int32) =>
        some (v3, h1)) fun (j53 : Int32 → Option (Int32 × Hp)) =>
      if 0 ≤ (lg_cmp v2 (0 : Int64)) then
        if (lg_cmp v2 (p3).toInt64) ≤ 0 then
          j53 (v2).toInt32
        else
        j53 p3
      else
      j53 0
    else
    some (p2, h1)
  else
  some (p2, h)
abbrev rmX8_boundLaw : Room := { frames := 3, cells := 0, slots := 0, locals := 72 }
set_option maxRecDepth 100000 in
set_option maxHeartbeats 4000000 in
theorem w_X8_boundLaw (X : Cx) (F : Fx X cX8_boundLaw RX8 (some .int) rmX8_boundLaw) (hA : xA X = Aw (xG X)) (hL : xL X = 6) (N : Nat) (h : Hp) (p1 : Int32) (p2 : Int32) (p3 : Int32) : Wm X (fun v => some (.int v.1)) (fun v => v.2) (fun _ => True) 0 [(0, .ref (adr (xG X) 8 0 0)), (1, .int p1), (2, .int p2), (3, .int p3)] [] h (f_X8_boundLaw N h p1 p2 p3) := by
  have hS : ∀ i : Nat, i < 6 → i < xL X := fun i z => by rw [hL]; exact z
  unfold f_X8_boundLaw
  refine r_aload_n F 0 rfl dX8_boundLaw_0 rfl ?_
  refine r_getA F frX8_54 (by decide) dX8_boundLaw_1 ?_
  refine r_iload_n F 1 rfl dX8_boundLaw_4 rfl ?_
  refine r_baload F (ar_8_13 0 (by decide)) dX8_boundLaw_5 ?_
  refine r_ifne F (tgt := 11) dX8_boundLaw_6 (by decide) ?_ ?_
  · skip
    refine r_aload_n F 0 rfl dX8_boundLaw_11 rfl ?_
    refine r_iload_n F 1 rfl dX8_boundLaw_12 rfl ?_
    refine k_lH (run_V F cvX8_398 (by decide) (c_X8_lawOf (xG X) _ N h p1) rfl rfl ⟨⟨rfl, rfl⟩, Nat.le_of_ble_eq_true rfl, Nat.le_of_ble_eq_true rfl⟩ (Nat.le_of_ble_eq_true rfl) dX8_boundLaw_13) fun v2 h1 => ?_
    refine r_lstore F [(4, .long v2), (0, .ref (adr (xG X) 8 0 0)), (1, .int p1), (2, .int p2), (3, .int p3)] rfl dX8_boundLaw_16 (hS _ (by decide)) ?_
    refine r_aload_n F 1 rfl dX8_boundLaw_18 rfl ?_
    refine r_getZ F frX8_341 (by decide) dX8_boundLaw_19 ?_
    refine r_ifeq F (tgt := 27) dX8_boundLaw_22 (by decide) ?_ ?_
    · skip
      refine r_lload F 0 rfl dX8_boundLaw_27 ?_
      refine r_lconst F (v := 0) dX8_boundLaw_29 (by decide) ?_
      refine r_lcmp F dX8_boundLaw_30 ?_
      refine Wt_jn (fun (j53 : Int32 → Option (Int32 × Hp)) => ∀ v3 : Int32, Wm X (fun v => some (.int v.1)) (fun v => v.2) (fun _ => True) 53 [] [.int v3] h1 (j53 v3)) ?_ fun j53 hj53 => ?_
      · intro v3
        exact r_iret F hA rfl rfl trivial dX8_boundLaw_53
      refine r_ifge F (tgt := 38) dX8_boundLaw_31 (by decide) ?_ ?_
      · skip
        refine r_lload F 0 rfl dX8_boundLaw_38 ?_
        refine r_iload_n F 4 rfl dX8_boundLaw_40 rfl ?_
        refine r_i2l F dX8_boundLaw_41 ?_
        refine r_lcmp F dX8_boundLaw_42 ?_
        refine r_ifle F (tgt := 50) dX8_boundLaw_43 (by decide) ?_ ?_
        · skip
          refine r_lload F 0 rfl dX8_boundLaw_50 ?_
          refine r_l2i F dX8_boundLaw_52 ?_
          exact Wt_pick [] rfl (hj53 (v2).toInt32)
        refine r_iload_n F 4 rfl dX8_boundLaw_46 rfl ?_
        refine r_goto F (tgt := 53) dX8_boundLaw_47 (by decide) ?_
        exact Wt_pick [] rfl (hj53 p3)
      refine r_iconst F (v := 0) dX8_boundLaw_34 (by decide) ?_
      refine r_goto F (tgt := 53) dX8_boundLaw_35 (by decide) ?_
      exact Wt_pick [] rfl (hj53 0)
    refine r_iload_n F 3 rfl dX8_boundLaw_25 rfl ?_
    exact r_iret F hA rfl rfl trivial dX8_boundLaw_26
  refine r_iload_n F 2 rfl dX8_boundLaw_9 rfl ?_
  exact r_iret F hA rfl rfl trivial dX8_boundLaw_10
theorem c_X8_boundLaw (G : Gx) (l : Launch) (N : Nat) (h : Hp) (p1 : Int32) (p2 : Int32) (p3 : Int32) : Ctr G l yX8_boundLaw (.code yX8_boundLaw cX8_boundLaw 6 (some .int) :: GT) rmX8_boundLaw [.ref (adr G 8 0 0), .int p1, .int p2, .int p3] h (f_X8_boundLaw N h p1 p2 p3) (fun v => some (.int v.1)) (fun v => v.2) (fun _ => True) :=
  ctr_of (by decide) (Nat.le_of_ble_eq_true rfl) ⟨rfl, rfl⟩ fun X _ e2 hA hL F => by subst e2; exact w_X8_boundLaw X F hA hL N h p1 p2 p3
def f_X8_liesAt (h : Hp) (p1 : Int32) (p2 : Int32) : Option Int32 :=
  jn (fun (v1 : Int32) =>
    some v1) fun (j26 : Int32 → Option Int32) =>
  if ¬ p2 = (-3) then
    grd (inb ((8 * p1) + p2) 16) <|
    j26 (gA h 8 0 23 ((8 * p1) + p2).toNatClampNeg)
  else
  grd (inb p1 2) <|
  j26 (gA h 8 0 31 p1.toNatClampNeg)
abbrev rmX8_liesAt : Room := { frames := 0, cells := 0, slots := 0, locals := 0 }
set_option maxRecDepth 100000 in
set_option maxHeartbeats 4000000 in
theorem w_X8_liesAt (X : Cx) (F : Fx X cX8_liesAt RX8 (some .int) rmX8_liesAt) (hA : xA X = Aw (xG X)) (hL : xL X = 3) (h : Hp) (p1 : Int32) (p2 : Int32) : Wm X (fun v => some (.int v)) (fun _ => h) (fun _ => True) 0 [(0, .ref (adr (xG X) 8 0 0)), (1, .int p1), (2, .int p2)] [] h (f_X8_liesAt h p1 p2) := by
  have hS : ∀ i : Nat, i < 3 → i < xL X := fun i z => by rw [hL]; exact z
  unfold f_X8_liesAt
  refine r_iload_n F 2 rfl dX8_liesAt_0 rfl ?_
  refine r_bipush F (v := (-3)) dX8_liesAt_1 (by decide) ?_
  refine Wt_jn (fun (j26 : Int32 → Option Int32) => ∀ v1 : Int32, Wm X (fun v => some (.int v)) (fun _ => h) (fun _ => True) 26 [] [.int v1] h (j26 v1)) ?_ fun j26 hj26 => ?_
  · intro v1
    exact r_iret F hA rfl rfl trivial dX8_liesAt_26
  refine r_icmpne F (tgt := 15) dX8_liesAt_3 (by decide) ?_ ?_
  · skip
    refine r_aload_n F 0 rfl dX8_liesAt_15 rfl ?_
    refine r_getA F frX8_85 (by decide) dX8_liesAt_16 ?_
    refine r_bipush F (v := 8) dX8_liesAt_19 (by decide) ?_
    refine r_iload_n F 1 rfl dX8_liesAt_21 rfl ?_
    refine r_imul F dX8_liesAt_22 ?_
    refine r_iload_n F 2 rfl dX8_liesAt_23 rfl ?_
    refine r_iadd F dX8_liesAt_24 ?_
    refine r_iaload F (ar_8_23 0 (by decide)) dX8_liesAt_25 ?_
    exact Wt_pick [] rfl (hj26 (gA h 8 0 23 ((8 * p1) + p2).toNatClampNeg))
  refine r_aload_n F 0 rfl dX8_liesAt_6 rfl ?_
  refine r_getA F frX8_109 (by decide) dX8_liesAt_7 ?_
  refine r_iload_n F 1 rfl dX8_liesAt_10 rfl ?_
  refine r_iaload F (ar_8_31 0 (by decide)) dX8_liesAt_11 ?_
  refine r_goto F (tgt := 26) dX8_liesAt_12 (by decide) ?_
  exact Wt_pick [] rfl (hj26 (gA h 8 0 31 p1.toNatClampNeg))
theorem c_X8_liesAt (G : Gx) (l : Launch) (h : Hp) (p1 : Int32) (p2 : Int32) : Ctr G l yX8_liesAt (.code yX8_liesAt cX8_liesAt 3 (some .int) :: GT) rmX8_liesAt [.ref (adr G 8 0 0), .int p1, .int p2] h (f_X8_liesAt h p1 p2) (fun v => some (.int v)) (fun _ => h) (fun _ => True) :=
  ctr_of (by decide) (Nat.le_of_ble_eq_true rfl) ⟨rfl, rfl⟩ fun X _ e2 hA hL F => by subst e2; exact w_X8_liesAt X F hA hL h p1 p2
def f_X8_loadOf (N : Nat) (h : Hp) (p1 : Int32) (p2 : Int32) (p3 : Int32) : Option (Int32 × Hp) :=
  (f_X8_liesAt h p1 p3).bind fun v1 =>
  (f_X8_layNames h p1 v1 p2).bind fun h2 =>
  grd (inb ((4 * p1) + p2) 8) <|
  jn (fun (v3 : Int32) =>
    lt_ (((5 * (gA h2 8 0 25 ((4 * p1) + p2).toNatClampNeg)) - v3)) fun v4 =>
    jn (fun (v5 : Int32) =>
      bd2 (f_X8_boundLaw N h2 0 v5 99) fun v7 h6 =>
      some (v7, h6)) fun (j57 : Int32 → Option (Int32 × Hp)) =>
    if 0 ≤ v4 then
      j57 v4
    else
    j57 0) fun (j41 : Int32 → Option (Int32 × Hp)) =>
  if (b2i (gZ h2 8 0 64)) = 0 then
    grd (inb p2 8) <|
    j41 (gA h2 8 0 7 p2.toNatClampNeg)
  else
  j41 0
abbrev rmX8_loadOf : Room := { frames := 4, cells := 0, slots := 0, locals := 97 }
set_option maxRecDepth 100000 in
set_option maxHeartbeats 4000000 in
theorem w_X8_loadOf (X : Cx) (F : Fx X cX8_loadOf RX8 (some .int) rmX8_loadOf) (hA : xA X = Aw (xG X)) (hL : xL X = 5) (N : Nat) (h : Hp) (p1 : Int32) (p2 : Int32) (p3 : Int32) : Wm X (fun v => some (.int v.1)) (fun v => v.2) (fun _ => True) 0 [(0, .ref (adr (xG X) 8 0 0)), (1, .int p1), (2, .int p2), (3, .int p3)] [] h (f_X8_loadOf N h p1 p2 p3) := by
  have hS : ∀ i : Nat, i < 5 → i < xL X := fun i z => by rw [hL]; exact z
  unfold f_X8_loadOf
  refine r_aload_n F 0 rfl dX8_loadOf_0 rfl ?_
  refine r_iload_n F 1 rfl dX8_loadOf_1 rfl ?_
  refine r_aload_n F 0 rfl dX8_loadOf_2 rfl ?_
  refine r_iload_n F 1 rfl dX8_loadOf_3 rfl ?_
  refine r_iload_n F 3 rfl dX8_loadOf_4 rfl ?_
  refine k_iP (run_V F cvX8_401 (by decide) (c_X8_liesAt (xG X) _ h p1 p3) rfl rfl ⟨⟨rfl, rfl⟩, Nat.le_of_ble_eq_true rfl, Nat.le_of_ble_eq_true rfl⟩ (Nat.le_of_ble_eq_true rfl) dX8_loadOf_5) fun v1 _ => ?_
  refine r_iload_n F 2 rfl dX8_loadOf_8 rfl ?_
  refine k_vH (run_V F cvX8_391 (by decide) (c_X8_layNames (xG X) _ h p1 v1 p2) rfl rfl ⟨⟨rfl, rfl⟩, Nat.le_of_ble_eq_true rfl, Nat.le_of_ble_eq_true rfl⟩ (Nat.le_of_ble_eq_true rfl) dX8_loadOf_9) fun h2 => ?_
  refine r_iconst F (v := 5) dX8_loadOf_12 (by decide) ?_
  refine r_aload_n F 0 rfl dX8_loadOf_13 rfl ?_
  refine r_getA F frX8_91 (by decide) dX8_loadOf_14 ?_
  refine r_iconst F (v := 4) dX8_loadOf_17 (by decide) ?_
  refine r_iload_n F 1 rfl dX8_loadOf_18 rfl ?_
  refine r_imul F dX8_loadOf_19 ?_
  refine r_iload_n F 2 rfl dX8_loadOf_20 rfl ?_
  refine r_iadd F dX8_loadOf_21 ?_
  refine r_iaload F (ar_8_25 0 (by decide)) dX8_loadOf_22 ?_
  refine r_imul F dX8_loadOf_23 ?_
  refine r_aload_n F 0 rfl dX8_loadOf_24 rfl ?_
  refine r_getZ F frX8_385 (by decide) dX8_loadOf_25 ?_
  refine Wt_jn (fun (j41 : Int32 → Option (Int32 × Hp)) => ∀ v3 : Int32, Wm X (fun v => some (.int v.1)) (fun v => v.2) (fun _ => True) 41 [(0, .ref (adr (xG X) 8 0 0))] [.int v3, .int (5 * (gA h2 8 0 25 ((4 * p1) + p2).toNatClampNeg))] h2 (j41 v3)) ?_ fun j41 hj41 => ?_
  · intro v3
    refine r_isub F dX8_loadOf_41 ?_
    refine r_nmI fun v4 => ?_
    refine r_istore F [(4, .int v4), (0, .ref (adr (xG X) 8 0 0))] rfl dX8_loadOf_42 (hS _ (by decide)) ?_
    refine r_aload_n F 1 rfl dX8_loadOf_44 rfl ?_
    refine r_iconst F (v := 0) dX8_loadOf_45 (by decide) ?_
    refine r_iload F 0 rfl dX8_loadOf_46 ?_
    refine Wt_jn (fun (j57 : Int32 → Option (Int32 × Hp)) => ∀ v5 : Int32, Wm X (fun v => some (.int v.1)) (fun v => v.2) (fun _ => True) 57 [] [.int v5, .int 0, .ref (adr (xG X) 8 0 0)] h2 (j57 v5)) ?_ fun j57 hj57 => ?_
    · intro v5
      refine r_bipush F (v := 99) dX8_loadOf_57 (by decide) ?_
      refine k_iH (run_V F cvX8_404 (by decide) (c_X8_boundLaw (xG X) _ N h2 0 v5 99) rfl rfl ⟨⟨rfl, rfl⟩, Nat.le_of_ble_eq_true rfl, Nat.le_of_ble_eq_true rfl⟩ (Nat.le_of_ble_eq_true rfl) dX8_loadOf_59) fun v7 h6 => ?_
      exact r_iret F hA rfl rfl trivial dX8_loadOf_62
    refine r_ifge F (tgt := 55) dX8_loadOf_48 (by decide) ?_ ?_
    · skip
      refine r_iload F 0 rfl dX8_loadOf_55 ?_
      exact Wt_pick [] rfl (hj57 v4)
    refine r_iconst F (v := 0) dX8_loadOf_51 (by decide) ?_
    refine r_goto F (tgt := 57) dX8_loadOf_52 (by decide) ?_
    exact Wt_pick [] rfl (hj57 0)
  refine r_ifeq F (tgt := 35) dX8_loadOf_28 (by decide) ?_ ?_
  · skip
    refine r_aload_n F 0 rfl dX8_loadOf_35 rfl ?_
    refine r_getA F frX8_36 (by decide) dX8_loadOf_36 ?_
    refine r_iload_n F 2 rfl dX8_loadOf_39 rfl ?_
    refine r_iaload F (ar_8_7 0 (by decide)) dX8_loadOf_40 ?_
    exact Wt_pick [0] rfl (hj41 (gA h2 8 0 7 p2.toNatClampNeg))
  refine r_iconst F (v := 0) dX8_loadOf_31 (by decide) ?_
  refine r_goto F (tgt := 41) dX8_loadOf_32 (by decide) ?_
  exact Wt_pick [0] rfl (hj41 0)
theorem c_X8_loadOf (G : Gx) (l : Launch) (N : Nat) (h : Hp) (p1 : Int32) (p2 : Int32) (p3 : Int32) : Ctr G l yX8_loadOf (.code yX8_loadOf cX8_loadOf 5 (some .int) :: GT) rmX8_loadOf [.ref (adr G 8 0 0), .int p1, .int p2, .int p3] h (f_X8_loadOf N h p1 p2 p3) (fun v => some (.int v.1)) (fun v => v.2) (fun _ => True) :=
  ctr_of (by decide) (Nat.le_of_ble_eq_true rfl) ⟨rfl, rfl⟩ fun X _ e2 hA hL F => by subst e2; exact w_X8_loadOf X F hA hL N h p1 p2 p3
def f_X8_forkOf (N : Nat) (h : Hp) (p1 : Int32) (p2 : Int32) (p3 : Int32) : Option (Int32 × Hp) :=
  (f_X8_liesAt h p1 p3).bind fun v1 =>
  (f_X8_layNames h p1 v1 p2).bind fun h2 =>
  bd2 (f_X8_boundLaw N h2 1 8 99) fun v4 h3 =>
  some (v4, h3)
abbrev rmX8_forkOf : Room := { frames := 4, cells := 0, slots := 0, locals := 97 }
set_option maxRecDepth 100000 in
set_option maxHeartbeats 4000000 in
theorem w_X8_forkOf (X : Cx) (F : Fx X cX8_forkOf RX8 (some .int) rmX8_forkOf) (hA : xA X = Aw (xG X)) (hL : xL X = 4) (N : Nat) (h : Hp) (p1 : Int32) (p2 : Int32) (p3 : Int32) : Wm X (fun v => some (.int v.1)) (fun v => v.2) (fun _ => True) 0 [(0, .ref (adr (xG X) 8 0 0)), (1, .int p1), (2, .int p2), (3, .int p3)] [] h (f_X8_forkOf N h p1 p2 p3) := by
  have hS : ∀ i : Nat, i < 4 → i < xL X := fun i z => by rw [hL]; exact z
  unfold f_X8_forkOf
  refine r_aload_n F 0 rfl dX8_forkOf_0 rfl ?_
  refine r_iload_n F 1 rfl dX8_forkOf_1 rfl ?_
  refine r_aload_n F 0 rfl dX8_forkOf_2 rfl ?_
  refine r_iload_n F 1 rfl dX8_forkOf_3 rfl ?_
  refine r_iload_n F 3 rfl dX8_forkOf_4 rfl ?_
  refine k_iP (run_V F cvX8_401 (by decide) (c_X8_liesAt (xG X) _ h p1 p3) rfl rfl ⟨⟨rfl, rfl⟩, Nat.le_of_ble_eq_true rfl, Nat.le_of_ble_eq_true rfl⟩ (Nat.le_of_ble_eq_true rfl) dX8_forkOf_5) fun v1 _ => ?_
  refine r_iload_n F 2 rfl dX8_forkOf_8 rfl ?_
  refine k_vH (run_V F cvX8_391 (by decide) (c_X8_layNames (xG X) _ h p1 v1 p2) rfl rfl ⟨⟨rfl, rfl⟩, Nat.le_of_ble_eq_true rfl, Nat.le_of_ble_eq_true rfl⟩ (Nat.le_of_ble_eq_true rfl) dX8_forkOf_9) fun h2 => ?_
  refine r_aload_n F 0 rfl dX8_forkOf_12 rfl ?_
  refine r_iconst F (v := 1) dX8_forkOf_13 (by decide) ?_
  refine r_bipush F (v := 8) dX8_forkOf_14 (by decide) ?_
  refine r_bipush F (v := 99) dX8_forkOf_16 (by decide) ?_
  refine k_iH (run_V F cvX8_404 (by decide) (c_X8_boundLaw (xG X) _ N h2 1 8 99) rfl rfl ⟨⟨rfl, rfl⟩, Nat.le_of_ble_eq_true rfl, Nat.le_of_ble_eq_true rfl⟩ (Nat.le_of_ble_eq_true rfl) dX8_forkOf_18) fun v4 h3 => ?_
  exact r_iret F hA rfl rfl trivial dX8_forkOf_21
theorem c_X8_forkOf (G : Gx) (l : Launch) (N : Nat) (h : Hp) (p1 : Int32) (p2 : Int32) (p3 : Int32) : Ctr G l yX8_forkOf (.code yX8_forkOf cX8_forkOf 4 (some .int) :: GT) rmX8_forkOf [.ref (adr G 8 0 0), .int p1, .int p2, .int p3] h (f_X8_forkOf N h p1 p2 p3) (fun v => some (.int v.1)) (fun v => v.2) (fun _ => True) :=
  ctr_of (by decide) (Nat.le_of_ble_eq_true rfl) ⟨rfl, rfl⟩ fun X _ e2 hA hL F => by subst e2; exact w_X8_forkOf X F hA hL N h p1 p2 p3
def f_X8_ebbOf (N : Nat) (h : Hp) (p1 : Int32) (p2 : Int32) : Option (Int32 × Hp) :=
  grd (inb ((8 * p1) + p2) 16) <|
  lt_ ((gA h 8 0 23 ((8 * p1) + p2).toNatClampNeg)) fun v1 =>
  (f_X8_layNames h p1 v1 (-1)).bind fun h2 =>
  bd2 (f_X8_boundLaw N h2 2 (v1 / 2) v1) fun v4 h3 =>
  some (v4, h3)
abbrev rmX8_ebbOf : Room := { frames := 4, cells := 0, slots := 0, locals := 97 }
set_option maxRecDepth 100000 in
set_option maxHeartbeats 4000000 in
theorem w_X8_ebbOf (X : Cx) (F : Fx X cX8_ebbOf RX8 (some .int) rmX8_ebbOf) (hA : xA X = Aw (xG X)) (hL : xL X = 4) (N : Nat) (h : Hp) (p1 : Int32) (p2 : Int32) : Wm X (fun v => some (.int v.1)) (fun v => v.2) (fun _ => True) 0 [(0, .ref (adr (xG X) 8 0 0)), (1, .int p1), (2, .int p2)] [] h (f_X8_ebbOf N h p1 p2) := by
  have hS : ∀ i : Nat, i < 4 → i < xL X := fun i z => by rw [hL]; exact z
  unfold f_X8_ebbOf
  refine r_aload_n F 0 rfl dX8_ebbOf_0 rfl ?_
  refine r_getA F frX8_85 (by decide) dX8_ebbOf_1 ?_
  refine r_bipush F (v := 8) dX8_ebbOf_4 (by decide) ?_
  refine r_iload_n F 1 rfl dX8_ebbOf_6 rfl ?_
  refine r_imul F dX8_ebbOf_7 ?_
  refine r_iload_n F 2 rfl dX8_ebbOf_8 rfl ?_
  refine r_iadd F dX8_ebbOf_9 ?_
  refine r_iaload F (ar_8_23 0 (by decide)) dX8_ebbOf_10 ?_
  refine r_nmI fun v1 => ?_
  refine r_istore_n F [(3, .int v1), (0, .ref (adr (xG X) 8 0 0)), (1, .int p1), (2, .int p2)] rfl dX8_ebbOf_11 rfl (hS _ (by decide)) ?_
  refine r_aload_n F 1 rfl dX8_ebbOf_12 rfl ?_
  refine r_iload_n F 2 rfl dX8_ebbOf_13 rfl ?_
  refine r_iload_n F 0 rfl dX8_ebbOf_14 rfl ?_
  refine r_iconst F (v := (-1)) dX8_ebbOf_15 (by decide) ?_
  refine k_vH (run_V F cvX8_391 (by decide) (c_X8_layNames (xG X) _ h p1 v1 (-1)) rfl rfl ⟨⟨rfl, rfl⟩, Nat.le_of_ble_eq_true rfl, Nat.le_of_ble_eq_true rfl⟩ (Nat.le_of_ble_eq_true rfl) dX8_ebbOf_16) fun h2 => ?_
  refine r_aload_n F 1 rfl dX8_ebbOf_19 rfl ?_
  refine r_iconst F (v := 2) dX8_ebbOf_20 (by decide) ?_
  refine r_iload_n F 0 rfl dX8_ebbOf_21 rfl ?_
  refine r_iconst F (v := 2) dX8_ebbOf_22 (by decide) ?_
  refine r_idivc F (by decide) dX8_ebbOf_23 ?_
  refine r_iload_n F 0 rfl dX8_ebbOf_24 rfl ?_
  refine k_iH (run_V F cvX8_404 (by decide) (c_X8_boundLaw (xG X) _ N h2 2 (v1 / 2) v1) rfl rfl ⟨⟨rfl, rfl⟩, Nat.le_of_ble_eq_true rfl, Nat.le_of_ble_eq_true rfl⟩ (Nat.le_of_ble_eq_true rfl) dX8_ebbOf_25) fun v4 h3 => ?_
  exact r_iret F hA rfl rfl trivial dX8_ebbOf_28
theorem c_X8_ebbOf (G : Gx) (l : Launch) (N : Nat) (h : Hp) (p1 : Int32) (p2 : Int32) : Ctr G l yX8_ebbOf (.code yX8_ebbOf cX8_ebbOf 4 (some .int) :: GT) rmX8_ebbOf [.ref (adr G 8 0 0), .int p1, .int p2] h (f_X8_ebbOf N h p1 p2) (fun v => some (.int v.1)) (fun v => v.2) (fun _ => True) :=
  ctr_of (by decide) (Nat.le_of_ble_eq_true rfl) ⟨rfl, rfl⟩ fun X _ e2 hA hL F => by subst e2; exact w_X8_ebbOf X F hA hL N h p1 p2
def f_X8_worthOf (N : Nat) (h : Hp) (p1 : Int32) (p2 : Int32) : Option (Int32 × Hp) :=
  grd (inb p2 12) <|
  grd (inb ((6 * p1) + p2) 12) <|
  lt_ (((gA h 8 0 10 p2.toNatClampNeg) - (gA h 8 0 30 ((6 * p1) + p2).toNatClampNeg))) fun v1 =>
  (f_X8_layField h p1 p2).bind fun h2 =>
  jn (fun (v3 : Int32) =>
    bd2 (f_X8_boundLaw N h2 3 v3 99) fun v5 h4 =>
    some (v5, h4)) fun (j36 : Int32 → Option (Int32 × Hp)) =>
  if 0 ≤ v1 then
    j36 v1
  else
  j36 0
abbrev rmX8_worthOf : Room := { frames := 4, cells := 0, slots := 0, locals := 97 }
set_option maxRecDepth 100000 in
set_option maxHeartbeats 4000000 in
theorem w_X8_worthOf (X : Cx) (F : Fx X cX8_worthOf RX8 (some .int) rmX8_worthOf) (hA : xA X = Aw (xG X)) (hL : xL X = 4) (N : Nat) (h : Hp) (p1 : Int32) (p2 : Int32) : Wm X (fun v => some (.int v.1)) (fun v => v.2) (fun _ => True) 0 [(0, .ref (adr (xG X) 8 0 0)), (1, .int p1), (2, .int p2)] [] h (f_X8_worthOf N h p1 p2) := by
  have hS : ∀ i : Nat, i < 4 → i < xL X := fun i z => by rw [hL]; exact z
  unfold f_X8_worthOf
  refine r_aload_n F 0 rfl dX8_worthOf_0 rfl ?_
  refine r_getA F frX8_45 (by decide) dX8_worthOf_1 ?_
  refine r_iload_n F 2 rfl dX8_worthOf_4 rfl ?_
  refine r_iaload F (ar_8_10 0 (by decide)) dX8_worthOf_5 ?_
  refine r_aload_n F 0 rfl dX8_worthOf_6 rfl ?_
  refine r_getA F frX8_106 (by decide) dX8_worthOf_7 ?_
  refine r_bipush F (v := 6) dX8_worthOf_10 (by decide) ?_
  refine r_iload_n F 1 rfl dX8_worthOf_12 rfl ?_
  refine r_imul F dX8_worthOf_13 ?_
  refine r_iload_n F 2 rfl dX8_worthOf_14 rfl ?_
  refine r_iadd F dX8_worthOf_15 ?_
  refine r_iaload F (ar_8_30 0 (by decide)) dX8_worthOf_16 ?_
  refine r_isub F dX8_worthOf_17 ?_
  refine r_nmI fun v1 => ?_
  refine r_istore_n F [(3, .int v1), (0, .ref (adr (xG X) 8 0 0)), (1, .int p1), (2, .int p2)] rfl dX8_worthOf_18 rfl (hS _ (by decide)) ?_
  refine r_aload_n F 1 rfl dX8_worthOf_19 rfl ?_
  refine r_iload_n F 2 rfl dX8_worthOf_20 rfl ?_
  refine r_iload_n F 3 rfl dX8_worthOf_21 rfl ?_
  refine k_vH (run_V F cvX8_408 (by decide) (c_X8_layField (xG X) _ h p1 p2) rfl rfl ⟨⟨rfl, rfl⟩, Nat.le_of_ble_eq_true rfl, Nat.le_of_ble_eq_true rfl⟩ (Nat.le_of_ble_eq_true rfl) dX8_worthOf_22) fun h2 => ?_
  refine r_aload_n F 1 rfl dX8_worthOf_25 rfl ?_
  refine r_iconst F (v := 3) dX8_worthOf_26 (by decide) ?_
  refine r_iload_n F 0 rfl dX8_worthOf_27 rfl ?_
  refine Wt_jn (fun (j36 : Int32 → Option (Int32 × Hp)) => ∀ v3 : Int32, Wm X (fun v => some (.int v.1)) (fun v => v.2) (fun _ => True) 36 [] [.int v3, .int 3, .ref (adr (xG X) 8 0 0)] h2 (j36 v3)) ?_ fun j36 hj36 => ?_
  · intro v3
    refine r_bipush F (v := 99) dX8_worthOf_36 (by decide) ?_
    refine k_iH (run_V F cvX8_404 (by decide) (c_X8_boundLaw (xG X) _ N h2 3 v3 99) rfl rfl ⟨⟨rfl, rfl⟩, Nat.le_of_ble_eq_true rfl, Nat.le_of_ble_eq_true rfl⟩ (Nat.le_of_ble_eq_true rfl) dX8_worthOf_38) fun v5 h4 => ?_
    exact r_iret F hA rfl rfl trivial dX8_worthOf_41
  refine r_ifge F (tgt := 35) dX8_worthOf_28 (by decide) ?_ ?_
  · skip
    refine r_iload_n F 0 rfl dX8_worthOf_35 rfl ?_
    exact Wt_pick [] rfl (hj36 v1)
  refine r_iconst F (v := 0) dX8_worthOf_31 (by decide) ?_
  refine r_goto F (tgt := 36) dX8_worthOf_32 (by decide) ?_
  exact Wt_pick [] rfl (hj36 0)
theorem c_X8_worthOf (G : Gx) (l : Launch) (N : Nat) (h : Hp) (p1 : Int32) (p2 : Int32) : Ctr G l yX8_worthOf (.code yX8_worthOf cX8_worthOf 4 (some .int) :: GT) rmX8_worthOf [.ref (adr G 8 0 0), .int p1, .int p2] h (f_X8_worthOf N h p1 p2) (fun v => some (.int v.1)) (fun v => v.2) (fun _ => True) :=
  ctr_of (by decide) (Nat.le_of_ble_eq_true rfl) ⟨rfl, rfl⟩ fun X _ e2 hA hL F => by subst e2; exact w_X8_worthOf X F hA hL N h p1 p2
def f_X8_sourceOf_28 (h : Hp) (p1 : Int32) (p2 : Int32) (p3 : Int32) (p4 : Bool) (r28 : Int32 → Int32 → Option Int32) (v1 : Int32) (v2 : Int32) : Option Int32 :=
  if (gI h 8 0 12) ≤ v2 then
    if v1 < 0 then
      jn (fun (v3 : Int32) =>
        some v3) fun (j147 : Int32 → Option Int32) =>
      jn (
        j147 (-2)) fun (j145 : Option Int32) =>
      if ¬ (b2i p4) = 0 then
        j145
      else
      grd (inb p1 2) <|
      if (gA h 8 0 31 p1.toNatClampNeg) ≤ 0 then
        j145
      else
      j147 (-3)
    else
    some v1
  else
  grd (inb ((8 * p1) + v2) 16) <|
  jn (fun (v4 : Int32) =>
    lt_ (v2 + 1) fun v5 =>
    r28 v4 v5) fun (j112 : Int32 → Option Int32) =>
  if (gA h 8 0 23 ((8 * p1) + v2).toNatClampNeg) = 0 then
    j112 v1
  else
  jn (
    jn (
      j112 v2) fun (j108 : Option Int32) =>
    if v1 < 0 then
      j108
    else
    grd (inb ((8 * p1) + v2) 16) <|
    grd (inb ((8 * p1) + v1) 16) <|
    if (gA h 8 0 23 ((8 * p1) + v2).toNatClampNeg) ≤ (gA h 8 0 23 ((8 * p1) + v1).toNatClampNeg) then
      j112 v1
    else
    j108) fun (j76 : Option Int32) =>
  if ¬ p3 = 1 then
    j76
  else
  grd (inb ((8 * p1) + v2) 16) <|
  if (gA h 8 0 24 ((8 * p1) + v2).toNatClampNeg) = p2 then
    j76
  else
  j112 v1
def f_X8_sourceOf (N : Nat) (h : Hp) (p1 : Int32) (p2 : Int32) (p3 : Int32) (p4 : Bool) : Option Int32 :=
  jn (
    iter (fun _ _ => none) (f_X8_sourceOf_28 h p1 p2 p3 p4) N (-1) 0) fun (j22 : Option Int32) =>
  if ¬ p3 = 2 then
    j22
  else
  if ¬ (b2i p4) = 0 then
    j22
  else
  grd (inb p1 2) <|
  if (gA h 8 0 31 p1.toNatClampNeg) ≤ 0 then
    j22
  else
  some (-3)
abbrev rmX8_sourceOf : Room := { frames := 0, cells := 0, slots := 0, locals := 0 }
set_option maxRecDepth 100000 in
set_option maxHeartbeats 4000000 in
theorem w_X8_sourceOf (X : Cx) (F : Fx X cX8_sourceOf RX8 (some .int) rmX8_sourceOf) (hA : xA X = Aw (xG X)) (hL : xL X = 7) (N : Nat) (h : Hp) (p1 : Int32) (p2 : Int32) (p3 : Int32) (p4 : Bool) : Wm X (fun v => some (.int v)) (fun _ => h) (fun _ => True) 0 [(0, .ref (adr (xG X) 8 0 0)), (1, .int p1), (2, .int p2), (3, .int p3), (4, .int (b2i p4))] [] h (f_X8_sourceOf N h p1 p2 p3 p4) := by
  have hS : ∀ i : Nat, i < 7 → i < xL X := fun i z => by rw [hL]; exact z
  unfold f_X8_sourceOf
  refine r_iload_n F 3 rfl dX8_sourceOf_0 rfl ?_
  refine r_iconst F (v := 2) dX8_sourceOf_1 (by decide) ?_
  refine Wt_jn (fun (j22 : Option Int32) => Wm X (fun v => some (.int v)) (fun _ => h) (fun _ => True) 22 [(0, .ref (adr (xG X) 8 0 0)), (1, .int p1), (2, .int p2), (3, .int p3), (4, .int (b2i p4))] [] h (j22)) ?_ fun j22 hj22 => ?_
  · skip
    refine r_iconst F (v := (-1)) dX8_sourceOf_22 (by decide) ?_
    refine r_istore F [(5, .int (-1)), (0, .ref (adr (xG X) 8 0 0)), (1, .int p1), (2, .int p2), (3, .int p3), (4, .int (b2i p4))] rfl dX8_sourceOf_23 (hS _ (by decide)) ?_
    refine r_iconst F (v := 0) dX8_sourceOf_25 (by decide) ?_
    refine r_istore F [(6, .int 0), (5, .int (-1)), (0, .ref (adr (xG X) 8 0 0)), (1, .int p1), (2, .int p2), (3, .int p3), (4, .int (b2i p4))] rfl dX8_sourceOf_26 (hS _ (by decide)) ?_
    have hl28 : ∀ n : Nat, ∀ v1 : Int32, ∀ v2 : Int32, Wm X (fun v => some (.int v)) (fun _ => h) (fun _ => True) 28 [(0, .ref (adr (xG X) 8 0 0)), (1, .int p1), (2, .int p2), (3, .int p3), (4, .int (b2i p4)), (5, .int v1), (6, .int v2)] [] h (iter (fun _ _ => none) (f_X8_sourceOf_28 h p1 p2 p3 p4) n v1 v2) := by
      intro n
      induction n with
      | zero => intro v1 v2; exact Wt_none
      | succ n ih =>
        revert ih
        show (∀ v1 : Int32, ∀ v2 : Int32, Wm X (fun v => some (.int v)) (fun _ => h) (fun _ => True) 28 [(0, .ref (adr (xG X) 8 0 0)), (1, .int p1), (2, .int p2), (3, .int p3), (4, .int (b2i p4)), (5, .int v1), (6, .int v2)] [] h (iter (fun _ _ => none) (f_X8_sourceOf_28 h p1 p2 p3 p4) n v1 v2)) → _
        intro ih28 v1 v2
        show Wm X (fun v => some (.int v)) (fun _ => h) (fun _ => True) 28 [(0, .ref (adr (xG X) 8 0 0)), (1, .int p1), (2, .int p2), (3, .int p3), (4, .int (b2i p4)), (5, .int v1), (6, .int v2)] [] h (f_X8_sourceOf_28 h p1 p2 p3 p4 (iter (fun _ _ => none) (f_X8_sourceOf_28 h p1 p2 p3 p4) n) v1 v2)
        revert ih28
        generalize iter (fun _ _ => none) (f_X8_sourceOf_28 h p1 p2 p3 p4) n = r28
        intro ih28
        unfold f_X8_sourceOf_28
        refine r_iload F 6 rfl dX8_sourceOf_28 ?_
        refine r_aload_n F 0 rfl dX8_sourceOf_30 rfl ?_
        refine r_getI F frX8_243 (by decide) dX8_sourceOf_31 ?_
        refine r_icmpge F (tgt := 118) dX8_sourceOf_34 (by decide) ?_ ?_
        · skip
          refine r_iload F 5 rfl dX8_sourceOf_118 ?_
          refine r_iflt F (tgt := 126) dX8_sourceOf_120 (by decide) ?_ ?_
          · skip
            refine r_iload F 4 rfl dX8_sourceOf_126 ?_
            refine Wt_jn (fun (j147 : Int32 → Option Int32) => ∀ v3 : Int32, Wm X (fun v => some (.int v)) (fun _ => h) (fun _ => True) 147 [] [.int v3] h (j147 v3)) ?_ fun j147 hj147 => ?_
            · intro v3
              exact r_iret F hA rfl rfl trivial dX8_sourceOf_147
            refine Wt_jn (fun (j145 : Option Int32) => Wm X (fun v => some (.int v)) (fun _ => h) (fun _ => True) 145 [] [] h (j145)) ?_ fun j145 hj145 => ?_
            · skip
              refine r_bipush F (v := (-2)) dX8_sourceOf_145 (by decide) ?_
              exact Wt_pick [] rfl (hj147 (-2))
            refine r_ifne F (tgt := 145) dX8_sourceOf_128 (by decide) ?_ ?_
            · skip
              exact Wt_pick [] rfl (hj145)
            refine r_aload_n F 0 rfl dX8_sourceOf_131 rfl ?_
            refine r_getA F frX8_109 (by decide) dX8_sourceOf_132 ?_
            refine r_iload_n F 1 rfl dX8_sourceOf_135 rfl ?_
            refine r_iaload F (ar_8_31 0 (by decide)) dX8_sourceOf_136 ?_
            refine r_ifle F (tgt := 145) dX8_sourceOf_137 (by decide) ?_ ?_
            · skip
              exact Wt_pick [] rfl (hj145)
            refine r_bipush F (v := (-3)) dX8_sourceOf_140 (by decide) ?_
            refine r_goto F (tgt := 147) dX8_sourceOf_142 (by decide) ?_
            exact Wt_pick [] rfl (hj147 (-3))
          refine r_iload F 5 rfl dX8_sourceOf_123 ?_
          exact r_iret F hA rfl rfl trivial dX8_sourceOf_125
        refine r_aload_n F 0 rfl dX8_sourceOf_37 rfl ?_
        refine r_getA F frX8_85 (by decide) dX8_sourceOf_38 ?_
        refine r_bipush F (v := 8) dX8_sourceOf_41 (by decide) ?_
        refine r_iload_n F 1 rfl dX8_sourceOf_43 rfl ?_
        refine r_imul F dX8_sourceOf_44 ?_
        refine r_iload F 6 rfl dX8_sourceOf_45 ?_
        refine r_iadd F dX8_sourceOf_47 ?_
        refine r_iaload F (ar_8_23 0 (by decide)) dX8_sourceOf_48 ?_
        refine Wt_jn (fun (j112 : Int32 → Option Int32) => ∀ v4 : Int32, Wm X (fun v => some (.int v)) (fun _ => h) (fun _ => True) 112 [(0, .ref (adr (xG X) 8 0 0)), (1, .int p1), (2, .int p2), (3, .int p3), (4, .int (b2i p4)), (5, .int v4), (6, .int v2)] [] h (j112 v4)) ?_ fun j112 hj112 => ?_
        · intro v4
          refine r_iinc F (v := 1) 6 rfl (by decide) (fun v5 => [(6, .int v5), (0, .ref (adr (xG X) 8 0 0)), (1, .int p1), (2, .int p2), (3, .int p3), (4, .int (b2i p4)), (5, .int v4)]) (fun _ => rfl) dX8_sourceOf_112 (hS _ (by decide)) fun v5 => ?_
          refine r_goto F (tgt := 28) dX8_sourceOf_115 (by decide) ?_
          exact Wt_pick [1, 2, 3, 4, 5, 6, 0] rfl (ih28 v4 v5)
        refine r_ifeq F (tgt := 112) dX8_sourceOf_49 (by decide) ?_ ?_
        · skip
          exact Wt_pick [0, 1, 2, 3, 4, 5, 6] rfl (hj112 v1)
        refine r_iload_n F 3 rfl dX8_sourceOf_52 rfl ?_
        refine r_iconst F (v := 1) dX8_sourceOf_53 (by decide) ?_
        refine Wt_jn (fun (j76 : Option Int32) => Wm X (fun v => some (.int v)) (fun _ => h) (fun _ => True) 76 [(0, .ref (adr (xG X) 8 0 0)), (1, .int p1), (2, .int p2), (3, .int p3), (4, .int (b2i p4)), (5, .int v1), (6, .int v2)] [] h (j76)) ?_ fun j76 hj76 => ?_
        · skip
          refine r_iload F 5 rfl dX8_sourceOf_76 ?_
          refine Wt_jn (fun (j108 : Option Int32) => Wm X (fun v => some (.int v)) (fun _ => h) (fun _ => True) 108 [(0, .ref (adr (xG X) 8 0 0)), (1, .int p1), (2, .int p2), (3, .int p3), (4, .int (b2i p4)), (6, .int v2)] [] h (j108)) ?_ fun j108 hj108 => ?_
          · skip
            refine r_iload F 5 rfl dX8_sourceOf_108 ?_
            refine r_istore F [(5, .int v2), (0, .ref (adr (xG X) 8 0 0)), (1, .int p1), (2, .int p2), (3, .int p3), (4, .int (b2i p4)), (6, .int v2)] rfl dX8_sourceOf_110 (hS _ (by decide)) ?_
            exact Wt_pick [1, 2, 3, 4, 5, 0, 6] rfl (hj112 v2)
          refine r_iflt F (tgt := 108) dX8_sourceOf_78 (by decide) ?_ ?_
          · skip
            exact Wt_pick [0, 1, 2, 3, 4, 6] rfl (hj108)
          refine r_aload_n F 0 rfl dX8_sourceOf_81 rfl ?_
          refine r_getA F frX8_85 (by decide) dX8_sourceOf_82 ?_
          refine r_bipush F (v := 8) dX8_sourceOf_85 (by decide) ?_
          refine r_iload_n F 1 rfl dX8_sourceOf_87 rfl ?_
          refine r_imul F dX8_sourceOf_88 ?_
          refine r_iload F 6 rfl dX8_sourceOf_89 ?_
          refine r_iadd F dX8_sourceOf_91 ?_
          refine r_iaload F (ar_8_23 0 (by decide)) dX8_sourceOf_92 ?_
          refine r_aload_n F 0 rfl dX8_sourceOf_93 rfl ?_
          refine r_getA F frX8_85 (by decide) dX8_sourceOf_94 ?_
          refine r_bipush F (v := 8) dX8_sourceOf_97 (by decide) ?_
          refine r_iload_n F 1 rfl dX8_sourceOf_99 rfl ?_
          refine r_imul F dX8_sourceOf_100 ?_
          refine r_iload F 5 rfl dX8_sourceOf_101 ?_
          refine r_iadd F dX8_sourceOf_103 ?_
          refine r_iaload F (ar_8_23 0 (by decide)) dX8_sourceOf_104 ?_
          refine r_icmple F (tgt := 112) dX8_sourceOf_105 (by decide) ?_ ?_
          · skip
            exact Wt_pick [0, 1, 2, 3, 4, 5, 6] rfl (hj112 v1)
          exact Wt_pick [0, 1, 2, 3, 4, 6] rfl (hj108)
        refine r_icmpne F (tgt := 76) dX8_sourceOf_54 (by decide) ?_ ?_
        · skip
          exact Wt_pick [0, 1, 2, 3, 4, 5, 6] rfl (hj76)
        refine r_aload_n F 0 rfl dX8_sourceOf_57 rfl ?_
        refine r_getA F frX8_88 (by decide) dX8_sourceOf_58 ?_
        refine r_bipush F (v := 8) dX8_sourceOf_61 (by decide) ?_
        refine r_iload_n F 1 rfl dX8_sourceOf_63 rfl ?_
        refine r_imul F dX8_sourceOf_64 ?_
        refine r_iload F 6 rfl dX8_sourceOf_65 ?_
        refine r_iadd F dX8_sourceOf_67 ?_
        refine r_iaload F (ar_8_24 0 (by decide)) dX8_sourceOf_68 ?_
        refine r_iload_n F 2 rfl dX8_sourceOf_69 rfl ?_
        refine r_icmpeq F (tgt := 76) dX8_sourceOf_70 (by decide) ?_ ?_
        · skip
          exact Wt_pick [0, 1, 2, 3, 4, 5, 6] rfl (hj76)
        refine r_goto F (tgt := 112) dX8_sourceOf_73 (by decide) ?_
        exact Wt_pick [0, 1, 2, 3, 4, 5, 6] rfl (hj112 v1)
    exact Wt_pick [2, 3, 4, 5, 6, 1, 0] rfl (hl28 N (-1) 0)
  refine r_icmpne F (tgt := 22) dX8_sourceOf_2 (by decide) ?_ ?_
  · skip
    exact Wt_pick [0, 1, 2, 3, 4] rfl (hj22)
  refine r_iload F 4 rfl dX8_sourceOf_5 ?_
  refine r_ifne F (tgt := 22) dX8_sourceOf_7 (by decide) ?_ ?_
  · skip
    exact Wt_pick [0, 1, 2, 3, 4] rfl (hj22)
  refine r_aload_n F 0 rfl dX8_sourceOf_10 rfl ?_
  refine r_getA F frX8_109 (by decide) dX8_sourceOf_11 ?_
  refine r_iload_n F 1 rfl dX8_sourceOf_14 rfl ?_
  refine r_iaload F (ar_8_31 0 (by decide)) dX8_sourceOf_15 ?_
  refine r_ifle F (tgt := 22) dX8_sourceOf_16 (by decide) ?_ ?_
  · skip
    exact Wt_pick [0, 1, 2, 3, 4] rfl (hj22)
  refine r_bipush F (v := (-3)) dX8_sourceOf_19 (by decide) ?_
  exact r_iret F hA rfl rfl trivial dX8_sourceOf_21
theorem c_X8_sourceOf (G : Gx) (l : Launch) (N : Nat) (h : Hp) (p1 : Int32) (p2 : Int32) (p3 : Int32) (p4 : Bool) : Ctr G l yX8_sourceOf (.code yX8_sourceOf cX8_sourceOf 7 (some .int) :: GT) rmX8_sourceOf [.ref (adr G 8 0 0), .int p1, .int p2, .int p3, .int (b2i p4)] h (f_X8_sourceOf N h p1 p2 p3 p4) (fun v => some (.int v)) (fun _ => h) (fun _ => True) :=
  ctr_of (by decide) (Nat.le_of_ble_eq_true rfl) ⟨rfl, rfl⟩ fun X _ e2 hA hL F => by subst e2; exact w_X8_sourceOf X F hA hL N h p1 p2 p3 p4
def f_X8_fieldFor_5 (N : Nat) (p1 : Int32) (p2 : Int32) (r5 : Int32 → Int32 → Hp → Option (Int32 × Hp)) (v1 : Int32) (v2 : Int32) (h3 : Hp) : Option (Int32 × Hp) :=
  if (gI h3 8 0 14) ≤ v2 then
    some (v1, h3)
  else
  grd (inb v2 12) <|
  jn (fun (v4 : Int32) (h5 : Hp) =>
    lt_ (v2 + 1) fun v6 =>
    r5 v4 v6 h5) fun (j48 : Int32 → Hp → Option (Int32 × Hp)) =>
  if ¬ (gA h3 8 0 9 v2.toNatClampNeg) = p2 then
    j48 v1 h3
  else
  jn (fun (h7 : Hp) =>
    j48 v2 h7) fun (j45 : Hp → Option (Int32 × Hp)) =>
  if v1 < 0 then
    j45 h3
  else
  bd2 (f_X8_worthOf N h3 p1 v2) fun v9 h8 =>
  bd2 (f_X8_worthOf N h8 p1 v1) fun v11 h10 =>
  if v9 ≤ v11 then
    j48 v1 h10
  else
  j45 h10
def f_X8_fieldFor (N : Nat) (h : Hp) (p1 : Int32) (p2 : Int32) : Option (Int32 × Hp) :=
  iter (fun _ _ _ => none) (f_X8_fieldFor_5 N p1 p2) N (-1) 0 h
abbrev rmX8_fieldFor : Room := { frames := 5, cells := 0, slots := 0, locals := 120 }
set_option maxRecDepth 100000 in
set_option maxHeartbeats 4000000 in
theorem w_X8_fieldFor (X : Cx) (F : Fx X cX8_fieldFor RX8 (some .int) rmX8_fieldFor) (hA : xA X = Aw (xG X)) (hL : xL X = 5) (N : Nat) (h : Hp) (p1 : Int32) (p2 : Int32) : Wm X (fun v => some (.int v.1)) (fun v => v.2) (fun _ => True) 0 [(0, .ref (adr (xG X) 8 0 0)), (1, .int p1), (2, .int p2)] [] h (f_X8_fieldFor N h p1 p2) := by
  have hS : ∀ i : Nat, i < 5 → i < xL X := fun i z => by rw [hL]; exact z
  unfold f_X8_fieldFor
  refine r_iconst F (v := (-1)) dX8_fieldFor_0 (by decide) ?_
  refine r_istore_n F [(3, .int (-1)), (0, .ref (adr (xG X) 8 0 0)), (1, .int p1), (2, .int p2)] rfl dX8_fieldFor_1 rfl (hS _ (by decide)) ?_
  refine r_iconst F (v := 0) dX8_fieldFor_2 (by decide) ?_
  refine r_istore F [(4, .int 0), (3, .int (-1)), (0, .ref (adr (xG X) 8 0 0)), (1, .int p1), (2, .int p2)] rfl dX8_fieldFor_3 (hS _ (by decide)) ?_
  have hl5 : ∀ n : Nat, ∀ v1 : Int32, ∀ v2 : Int32, ∀ h3 : Hp, Wm X (fun v => some (.int v.1)) (fun v => v.2) (fun _ => True) 5 [(0, .ref (adr (xG X) 8 0 0)), (1, .int p1), (2, .int p2), (3, .int v1), (4, .int v2)] [] h3 (iter (fun _ _ _ => none) (f_X8_fieldFor_5 N p1 p2) n v1 v2 h3) := by
    intro n
    induction n with
    | zero => intro v1 v2 h3; exact Wt_none
    | succ n ih =>
      revert ih
      show (∀ v1 : Int32, ∀ v2 : Int32, ∀ h3 : Hp, Wm X (fun v => some (.int v.1)) (fun v => v.2) (fun _ => True) 5 [(0, .ref (adr (xG X) 8 0 0)), (1, .int p1), (2, .int p2), (3, .int v1), (4, .int v2)] [] h3 (iter (fun _ _ _ => none) (f_X8_fieldFor_5 N p1 p2) n v1 v2 h3)) → _
      intro ih5 v1 v2 h3
      show Wm X (fun v => some (.int v.1)) (fun v => v.2) (fun _ => True) 5 [(0, .ref (adr (xG X) 8 0 0)), (1, .int p1), (2, .int p2), (3, .int v1), (4, .int v2)] [] h3 (f_X8_fieldFor_5 N p1 p2 (iter (fun _ _ _ => none) (f_X8_fieldFor_5 N p1 p2) n) v1 v2 h3)
      revert ih5
      generalize iter (fun _ _ _ => none) (f_X8_fieldFor_5 N p1 p2) n = r5
      intro ih5
      unfold f_X8_fieldFor_5
      refine r_iload F 4 rfl dX8_fieldFor_5 ?_
      refine r_aload_n F 0 rfl dX8_fieldFor_7 rfl ?_
      refine r_getI F frX8_249 (by decide) dX8_fieldFor_8 ?_
      refine r_icmpge F (tgt := 54) dX8_fieldFor_11 (by decide) ?_ ?_
      · skip
        refine r_iload_n F 3 rfl dX8_fieldFor_54 rfl ?_
        exact r_iret F hA rfl rfl trivial dX8_fieldFor_55
      refine r_aload_n F 0 rfl dX8_fieldFor_14 rfl ?_
      refine r_getA F frX8_42 (by decide) dX8_fieldFor_15 ?_
      refine r_iload F 4 rfl dX8_fieldFor_18 ?_
      refine r_iaload F (ar_8_9 0 (by decide)) dX8_fieldFor_20 ?_
      refine r_iload_n F 2 rfl dX8_fieldFor_21 rfl ?_
      refine Wt_jn (fun (j48 : Int32 → Hp → Option (Int32 × Hp)) => ∀ v4 : Int32, ∀ h5 : Hp, Wm X (fun v => some (.int v.1)) (fun v => v.2) (fun _ => True) 48 [(0, .ref (adr (xG X) 8 0 0)), (1, .int p1), (2, .int p2), (3, .int v4), (4, .int v2)] [] h5 (j48 v4 h5)) ?_ fun j48 hj48 => ?_
      · intro v4 h5
        refine r_iinc F (v := 1) 4 rfl (by decide) (fun v6 => [(4, .int v6), (0, .ref (adr (xG X) 8 0 0)), (1, .int p1), (2, .int p2), (3, .int v4)]) (fun _ => rfl) dX8_fieldFor_48 (hS _ (by decide)) fun v6 => ?_
        refine r_goto F (tgt := 5) dX8_fieldFor_51 (by decide) ?_
        exact Wt_pick [1, 2, 3, 4, 0] rfl (ih5 v4 v6 h5)
      refine r_icmpne F (tgt := 48) dX8_fieldFor_22 (by decide) ?_ ?_
      · skip
        exact Wt_pick [0, 1, 2, 3, 4] rfl (hj48 v1 h3)
      refine r_iload_n F 3 rfl dX8_fieldFor_25 rfl ?_
      refine Wt_jn (fun (j45 : Hp → Option (Int32 × Hp)) => ∀ h7 : Hp, Wm X (fun v => some (.int v.1)) (fun v => v.2) (fun _ => True) 45 [(0, .ref (adr (xG X) 8 0 0)), (1, .int p1), (2, .int p2), (4, .int v2)] [] h7 (j45 h7)) ?_ fun j45 hj45 => ?_
      · intro h7
        refine r_iload F 3 rfl dX8_fieldFor_45 ?_
        refine r_istore_n F [(3, .int v2), (0, .ref (adr (xG X) 8 0 0)), (1, .int p1), (2, .int p2), (4, .int v2)] rfl dX8_fieldFor_47 rfl (hS _ (by decide)) ?_
        exact Wt_pick [1, 2, 3, 0, 4] rfl (hj48 v2 h7)
      refine r_iflt F (tgt := 45) dX8_fieldFor_26 (by decide) ?_ ?_
      · skip
        exact Wt_pick [0, 1, 2, 4] rfl (hj45 h3)
      refine r_aload_n F 0 rfl dX8_fieldFor_29 rfl ?_
      refine r_iload_n F 1 rfl dX8_fieldFor_30 rfl ?_
      refine r_iload F 4 rfl dX8_fieldFor_31 ?_
      refine k_iH (run_V F cvX8_412 (by decide) (c_X8_worthOf (xG X) _ N h3 p1 v2) rfl rfl ⟨⟨rfl, rfl⟩, Nat.le_of_ble_eq_true rfl, Nat.le_of_ble_eq_true rfl⟩ (Nat.le_of_ble_eq_true rfl) dX8_fieldFor_33) fun v9 h8 => ?_
      refine r_aload_n F 0 rfl dX8_fieldFor_36 rfl ?_
      refine r_iload_n F 1 rfl dX8_fieldFor_37 rfl ?_
      refine r_iload_n F 3 rfl dX8_fieldFor_38 rfl ?_
      refine k_iH (run_V F cvX8_412 (by decide) (c_X8_worthOf (xG X) _ N h8 p1 v1) rfl rfl ⟨⟨rfl, rfl⟩, Nat.le_of_ble_eq_true rfl, Nat.le_of_ble_eq_true rfl⟩ (Nat.le_of_ble_eq_true rfl) dX8_fieldFor_39) fun v11 h10 => ?_
      refine r_icmple F (tgt := 48) dX8_fieldFor_42 (by decide) ?_ ?_
      · skip
        exact Wt_pick [0, 1, 2, 3, 4] rfl (hj48 v1 h10)
      exact Wt_pick [0, 1, 2, 4] rfl (hj45 h10)
  exact Wt_pick [2, 3, 4, 1, 0] rfl (hl5 N (-1) 0 h)
theorem c_X8_fieldFor (G : Gx) (l : Launch) (N : Nat) (h : Hp) (p1 : Int32) (p2 : Int32) : Ctr G l yX8_fieldFor (.code yX8_fieldFor cX8_fieldFor 5 (some .int) :: GT) rmX8_fieldFor [.ref (adr G 8 0 0), .int p1, .int p2] h (f_X8_fieldFor N h p1 p2) (fun v => some (.int v.1)) (fun v => v.2) (fun _ => True) :=
  ctr_of (by decide) (Nat.le_of_ble_eq_true rfl) ⟨rfl, rfl⟩ fun X _ e2 hA hL F => by subst e2; exact w_X8_fieldFor X F hA hL N h p1 p2
def f_X8_lessAt (h : Hp) (p1 : Int32) (p2 : Int32) (p3 : Int32) : Option Hp :=
  jn (fun (h1 : Hp) =>
    some h1) fun (j34 : Hp → Option Hp) =>
  if ¬ p2 = (-3) then
    grd (inb ((8 * p1) + p2) 16) <|
    grd (inb ((8 * p1) + p2) 16) <| lt_ (sA h 8 0 23 ((8 * p1) + p2).toNatClampNeg ((gA h 8 0 23 ((8 * p1) + p2).toNatClampNeg) - p3)) fun h2 =>
    j34 h2
  else
  grd (inb p1 2) <|
  grd (inb p1 2) <| lt_ (sA h 8 0 31 p1.toNatClampNeg ((gA h 8 0 31 p1.toNatClampNeg) - p3)) fun h3 =>
  j34 h3
abbrev rmX8_lessAt : Room := { frames := 0, cells := 0, slots := 0, locals := 0 }
set_option maxRecDepth 100000 in
set_option maxHeartbeats 4000000 in
theorem w_X8_lessAt (X : Cx) (F : Fx X cX8_lessAt RX8 none rmX8_lessAt) (hA : xA X = Aw (xG X)) (hL : xL X = 4) (h : Hp) (p1 : Int32) (p2 : Int32) (p3 : Int32) : Wm X (fun _ => none) (fun v => v) (fun _ => True) 0 [(0, .ref (adr (xG X) 8 0 0)), (1, .int p1), (2, .int p2), (3, .int p3)] [] h (f_X8_lessAt h p1 p2 p3) := by
  have hS : ∀ i : Nat, i < 4 → i < xL X := fun i z => by rw [hL]; exact z
  unfold f_X8_lessAt
  refine r_iload_n F 2 rfl dX8_lessAt_0 rfl ?_
  refine r_bipush F (v := (-3)) dX8_lessAt_1 (by decide) ?_
  refine Wt_jn (fun (j34 : Hp → Option Hp) => ∀ h1 : Hp, Wm X (fun _ => none) (fun v => v) (fun _ => True) 34 [] [] h1 (j34 h1)) ?_ fun j34 hj34 => ?_
  · intro h1
    exact r_vret F hA rfl rfl trivial dX8_lessAt_34
  refine r_icmpne F (tgt := 19) dX8_lessAt_3 (by decide) ?_ ?_
  · skip
    refine r_aload_n F 0 rfl dX8_lessAt_19 rfl ?_
    refine r_getA F frX8_85 (by decide) dX8_lessAt_20 ?_
    refine r_bipush F (v := 8) dX8_lessAt_23 (by decide) ?_
    refine r_iload_n F 1 rfl dX8_lessAt_25 rfl ?_
    refine r_imul F dX8_lessAt_26 ?_
    refine r_iload_n F 2 rfl dX8_lessAt_27 rfl ?_
    refine r_iadd F dX8_lessAt_28 ?_
    refine r_dup2 F rfl rfl dX8_lessAt_29 ?_
    refine r_iaload F (ar_8_23 0 (by decide)) dX8_lessAt_30 ?_
    refine r_iload_n F 3 rfl dX8_lessAt_31 rfl ?_
    refine r_isub F dX8_lessAt_32 ?_
    refine r_iastore F (ar_8_23 0 (by decide)) dX8_lessAt_33 fun h2 => ?_
    exact Wt_pick [] rfl (hj34 h2)
  refine r_aload_n F 0 rfl dX8_lessAt_6 rfl ?_
  refine r_getA F frX8_109 (by decide) dX8_lessAt_7 ?_
  refine r_iload_n F 1 rfl dX8_lessAt_10 rfl ?_
  refine r_dup2 F rfl rfl dX8_lessAt_11 ?_
  refine r_iaload F (ar_8_31 0 (by decide)) dX8_lessAt_12 ?_
  refine r_iload_n F 3 rfl dX8_lessAt_13 rfl ?_
  refine r_isub F dX8_lessAt_14 ?_
  refine r_iastore F (ar_8_31 0 (by decide)) dX8_lessAt_15 fun h3 => ?_
  refine r_goto F (tgt := 34) dX8_lessAt_16 (by decide) ?_
  exact Wt_pick [] rfl (hj34 h3)
theorem c_X8_lessAt (G : Gx) (l : Launch) (h : Hp) (p1 : Int32) (p2 : Int32) (p3 : Int32) : Ctr G l yX8_lessAt (.code yX8_lessAt cX8_lessAt 4 none :: GT) rmX8_lessAt [.ref (adr G 8 0 0), .int p1, .int p2, .int p3] h (f_X8_lessAt h p1 p2 p3) (fun _ => none) (fun v => v) (fun _ => True) :=
  ctr_of (by decide) (Nat.le_of_ble_eq_true rfl) ⟨rfl, rfl⟩ fun X _ e2 hA hL F => by subst e2; exact w_X8_lessAt X F hA hL h p1 p2 p3
def f_X8_carts (N : Nat) (h : Hp) (p1 : Int32) (p2 : Int32) (p3 : Int32) : Option Hp :=
  bd2 (f_X8_fieldFor N h p1 p2) fun v2 h1 =>
  (f_X8_sourceOf N h1 p1 p2 p3 false).bind fun v3 =>
  jn (
    some h1) fun (j30 : Option Hp) =>
  if v2 < 0 then
    j30
  else
  if ¬ v3 = (-2) then
    bd2 (f_X8_loadOf N h1 p1 p2 v3) fun v5 h4 =>
    (f_X8_liesAt h4 p1 v3).bind fun v6 =>
    jn (fun (v7 : Int32) =>
      bd2 (f_X8_worthOf N h4 p1 v2) fun v9 h8 =>
      (f_X8_lessAt h8 p1 v3 v7).bind fun h10 =>
      grd (inb ((6 * p1) + v2) 12) <|
      grd (inb ((6 * p1) + v2) 12) <| lt_ (sA h10 8 0 30 ((6 * p1) + v2).toNatClampNeg ((gA h10 8 0 30 ((6 * p1) + v2).toNatClampNeg) + v7)) fun h11 =>
      grd (inb ((4 * p1) + p2) 8) <|
      grd (inb ((4 * p1) + p2) 8) <| lt_ (sA h11 8 0 28 ((4 * p1) + p2).toNatClampNeg ((gA h11 8 0 28 ((4 * p1) + p2).toNatClampNeg) + (v9 * v7))) fun h12 =>
      some h12) fun (j65 : Int32 → Option Hp) =>
    if v5 ≤ v6 then
      j65 v5
    else
    (f_X8_liesAt h4 p1 v3).bind fun v13 =>
    j65 v13
  else
  j30
abbrev rmX8_carts : Room := { frames := 6, cells := 0, slots := 0, locals := 144 }
set_option maxRecDepth 100000 in
set_option maxHeartbeats 4000000 in
theorem w_X8_carts (X : Cx) (F : Fx X cX8_carts RX8 none rmX8_carts) (hA : xA X = Aw (xG X)) (hL : xL X = 8) (N : Nat) (h : Hp) (p1 : Int32) (p2 : Int32) (p3 : Int32) : Wm X (fun _ => none) (fun v => v) (fun _ => True) 0 [(0, .ref (adr (xG X) 8 0 0)), (1, .int p1), (2, .int p2), (3, .int p3)] [] h (f_X8_carts N h p1 p2 p3) := by
  have hS : ∀ i : Nat, i < 8 → i < xL X := fun i z => by rw [hL]; exact z
  unfold f_X8_carts
  refine r_aload_n F 0 rfl dX8_carts_0 rfl ?_
  refine r_iload_n F 1 rfl dX8_carts_1 rfl ?_
  refine r_iload_n F 2 rfl dX8_carts_2 rfl ?_
  refine k_iH (run_V F cvX8_415 (by decide) (c_X8_fieldFor (xG X) _ N h p1 p2) rfl rfl ⟨⟨rfl, rfl⟩, Nat.le_of_ble_eq_true rfl, Nat.le_of_ble_eq_true rfl⟩ (Nat.le_of_ble_eq_true rfl) dX8_carts_3) fun v2 h1 => ?_
  refine r_istore F [(4, .int v2), (0, .ref (adr (xG X) 8 0 0)), (1, .int p1), (2, .int p2), (3, .int p3)] rfl dX8_carts_6 (hS _ (by decide)) ?_
  refine r_aload_n F 1 rfl dX8_carts_8 rfl ?_
  refine r_iload_n F 2 rfl dX8_carts_9 rfl ?_
  refine r_iload_n F 3 rfl dX8_carts_10 rfl ?_
  refine r_iload_n F 4 rfl dX8_carts_11 rfl ?_
  refine r_iconst F (v := 0) dX8_carts_12 (by decide) ?_
  refine k_iP (run_V F cvX8_418 (by decide) (c_X8_sourceOf (xG X) _ N h1 p1 p2 p3 false) rfl rfl ⟨⟨rfl, rfl⟩, Nat.le_of_ble_eq_true rfl, Nat.le_of_ble_eq_true rfl⟩ (Nat.le_of_ble_eq_true rfl) dX8_carts_13) fun v3 _ => ?_
  refine r_istore F [(5, .int v3), (4, .int v2), (0, .ref (adr (xG X) 8 0 0)), (1, .int p1), (2, .int p2), (3, .int p3)] rfl dX8_carts_16 (hS _ (by decide)) ?_
  refine r_iload F 1 rfl dX8_carts_18 ?_
  refine Wt_jn (fun (j30 : Option Hp) => Wm X (fun _ => none) (fun v => v) (fun _ => True) 30 [] [] h1 (j30)) ?_ fun j30 hj30 => ?_
  · skip
    exact r_vret F hA rfl rfl trivial dX8_carts_30
  refine r_iflt F (tgt := 30) dX8_carts_20 (by decide) ?_ ?_
  · skip
    exact Wt_pick [] rfl (hj30)
  refine r_iload F 0 rfl dX8_carts_23 ?_
  refine r_bipush F (v := (-2)) dX8_carts_25 (by decide) ?_
  refine r_icmpne F (tgt := 31) dX8_carts_27 (by decide) ?_ ?_
  · skip
    refine r_aload_n F 2 rfl dX8_carts_31 rfl ?_
    refine r_iload_n F 3 rfl dX8_carts_32 rfl ?_
    refine r_iload_n F 4 rfl dX8_carts_33 rfl ?_
    refine r_iload F 0 rfl dX8_carts_34 ?_
    refine k_iH (run_V F cvX8_422 (by decide) (c_X8_loadOf (xG X) _ N h1 p1 p2 v3) rfl rfl ⟨⟨rfl, rfl⟩, Nat.le_of_ble_eq_true rfl, Nat.le_of_ble_eq_true rfl⟩ (Nat.le_of_ble_eq_true rfl) dX8_carts_36) fun v5 h4 => ?_
    refine r_istore F [(6, .int v5), (5, .int v3), (4, .int v2), (0, .ref (adr (xG X) 8 0 0)), (1, .int p1), (2, .int p2), (3, .int p3)] rfl dX8_carts_39 (hS _ (by decide)) ?_
    refine r_iload F 0 rfl dX8_carts_41 ?_
    refine r_aload_n F 3 rfl dX8_carts_43 rfl ?_
    refine r_iload_n F 4 rfl dX8_carts_44 rfl ?_
    refine r_iload F 1 rfl dX8_carts_45 ?_
    refine k_iP (run_V F cvX8_401 (by decide) (c_X8_liesAt (xG X) _ h4 p1 v3) rfl rfl ⟨⟨rfl, rfl⟩, Nat.le_of_ble_eq_true rfl, Nat.le_of_ble_eq_true rfl⟩ (Nat.le_of_ble_eq_true rfl) dX8_carts_47) fun v6 _ => ?_
    refine Wt_jn (fun (j65 : Int32 → Option Hp) => ∀ v7 : Int32, Wm X (fun _ => none) (fun v => v) (fun _ => True) 65 [(0, .ref (adr (xG X) 8 0 0)), (1, .int p1), (2, .int p2), (4, .int v2), (5, .int v3)] [.int v7] h4 (j65 v7)) ?_ fun j65 hj65 => ?_
    · intro v7
      refine r_istore F [(6, .int v7), (0, .ref (adr (xG X) 8 0 0)), (1, .int p1), (2, .int p2), (4, .int v2), (5, .int v3)] rfl dX8_carts_65 (hS _ (by decide)) ?_
      refine r_aload_n F 1 rfl dX8_carts_67 rfl ?_
      refine r_iload_n F 2 rfl dX8_carts_68 rfl ?_
      refine r_iload F 4 rfl dX8_carts_69 ?_
      refine k_iH (run_V F cvX8_412 (by decide) (c_X8_worthOf (xG X) _ N h4 p1 v2) rfl rfl ⟨⟨rfl, rfl⟩, Nat.le_of_ble_eq_true rfl, Nat.le_of_ble_eq_true rfl⟩ (Nat.le_of_ble_eq_true rfl) dX8_carts_71) fun v9 h8 => ?_
      refine r_istore F [(7, .int v9), (6, .int v7), (0, .ref (adr (xG X) 8 0 0)), (1, .int p1), (2, .int p2), (4, .int v2), (5, .int v3)] rfl dX8_carts_74 (hS _ (by decide)) ?_
      refine r_aload_n F 2 rfl dX8_carts_76 rfl ?_
      refine r_iload_n F 3 rfl dX8_carts_77 rfl ?_
      refine r_iload F 6 rfl dX8_carts_78 ?_
      refine r_iload F 1 rfl dX8_carts_80 ?_
      refine k_vH (run_V F cvX8_425 (by decide) (c_X8_lessAt (xG X) _ h8 p1 v3 v7) rfl rfl ⟨⟨rfl, rfl⟩, Nat.le_of_ble_eq_true rfl, Nat.le_of_ble_eq_true rfl⟩ (Nat.le_of_ble_eq_true rfl) dX8_carts_82) fun h10 => ?_
      refine r_aload_n F 2 rfl dX8_carts_85 rfl ?_
      refine r_getA F frX8_106 (by decide) dX8_carts_86 ?_
      refine r_bipush F (v := 6) dX8_carts_89 (by decide) ?_
      refine r_iload_n F 3 rfl dX8_carts_91 rfl ?_
      refine r_imul F dX8_carts_92 ?_
      refine r_iload F 5 rfl dX8_carts_93 ?_
      refine r_iadd F dX8_carts_95 ?_
      refine r_dup2 F rfl rfl dX8_carts_96 ?_
      refine r_iaload F (ar_8_30 0 (by decide)) dX8_carts_97 ?_
      refine r_iload F 1 rfl dX8_carts_98 ?_
      refine r_iadd F dX8_carts_100 ?_
      refine r_iastore F (ar_8_30 0 (by decide)) dX8_carts_101 fun h11 => ?_
      refine r_aload_n F 2 rfl dX8_carts_102 rfl ?_
      refine r_getA F frX8_100 (by decide) dX8_carts_103 ?_
      refine r_iconst F (v := 4) dX8_carts_106 (by decide) ?_
      refine r_iload_n F 3 rfl dX8_carts_107 rfl ?_
      refine r_imul F dX8_carts_108 ?_
      refine r_iload_n F 4 rfl dX8_carts_109 rfl ?_
      refine r_iadd F dX8_carts_110 ?_
      refine r_dup2 F rfl rfl dX8_carts_111 ?_
      refine r_iaload F (ar_8_28 0 (by decide)) dX8_carts_112 ?_
      refine r_iload F 0 rfl dX8_carts_113 ?_
      refine r_iload F 1 rfl dX8_carts_115 ?_
      refine r_imul F dX8_carts_117 ?_
      refine r_iadd F dX8_carts_118 ?_
      refine r_iastore F (ar_8_28 0 (by decide)) dX8_carts_119 fun h12 => ?_
      exact r_vret F hA rfl rfl trivial dX8_carts_120
    refine r_icmple F (tgt := 63) dX8_carts_50 (by decide) ?_ ?_
    · skip
      refine r_iload F 0 rfl dX8_carts_63 ?_
      exact Wt_pick [3, 4, 5, 2, 1] rfl (hj65 v5)
    refine r_aload_n F 3 rfl dX8_carts_53 rfl ?_
    refine r_iload_n F 4 rfl dX8_carts_54 rfl ?_
    refine r_iload F 1 rfl dX8_carts_55 ?_
    refine k_iP (run_V F cvX8_401 (by decide) (c_X8_liesAt (xG X) _ h4 p1 v3) rfl rfl ⟨⟨rfl, rfl⟩, Nat.le_of_ble_eq_true rfl, Nat.le_of_ble_eq_true rfl⟩ (Nat.le_of_ble_eq_true rfl) dX8_carts_57) fun v13 _ => ?_
    refine r_goto F (tgt := 65) dX8_carts_60 (by decide) ?_
    exact Wt_pick [3, 4, 5, 2, 1] rfl (hj65 v13)
  exact Wt_pick [] rfl (hj30)
theorem c_X8_carts (G : Gx) (l : Launch) (N : Nat) (h : Hp) (p1 : Int32) (p2 : Int32) (p3 : Int32) : Ctr G l yX8_carts (.code yX8_carts cX8_carts 8 none :: GT) rmX8_carts [.ref (adr G 8 0 0), .int p1, .int p2, .int p3] h (f_X8_carts N h p1 p2 p3) (fun _ => none) (fun v => v) (fun _ => True) :=
  ctr_of (by decide) (Nat.le_of_ble_eq_true rfl) ⟨rfl, rfl⟩ fun X _ e2 hA hL F => by subst e2; exact w_X8_carts X F hA hL N h p1 p2 p3
