theorem dX3_blow_0 : decode cX3_blow 0 = .ok (.iconst 0, 1) := by decide +kernel
theorem dX3_blow_1 : decode cX3_blow 1 = .ok (.istore_n 1, 1) := by decide +kernel
theorem dX3_blow_2 : decode cX3_blow 2 = .ok (.iload_n 1, 1) := by decide +kernel
theorem dX3_blow_3 : decode cX3_blow 3 = .ok (.aload_n 0, 1) := by decide +kernel
theorem dX3_blow_4 : decode cX3_blow 4 = .ok (.getfield 44, 3) := by decide +kernel
theorem dX3_blow_7 : decode cX3_blow 7 = .ok (.getfield 108, 3) := by decide +kernel
theorem dX3_blow_10 : decode cX3_blow 10 = .ok (.if_icmp .ge 35, 3) := by decide +kernel
theorem dX3_blow_13 : decode cX3_blow 13 = .ok (.aload_n 0, 1) := by decide +kernel
theorem dX3_blow_14 : decode cX3_blow 14 = .ok (.getfield 11, 3) := by decide +kernel
theorem dX3_blow_17 : decode cX3_blow 17 = .ok (.iload_n 1, 1) := by decide +kernel
theorem dX3_blow_18 : decode cX3_blow 18 = .ok (.aload_n 0, 1) := by decide +kernel
theorem dX3_blow_19 : decode cX3_blow 19 = .ok (.getfield 11, 3) := by decide +kernel
theorem dX3_blow_22 : decode cX3_blow 22 = .ok (.iload_n 1, 1) := by decide +kernel
theorem dX3_blow_23 : decode cX3_blow 23 = .ok (.iaload, 1) := by decide +kernel
theorem dX3_blow_24 : decode cX3_blow 24 = .ok (.aload_n 0, 1) := by decide +kernel
theorem dX3_blow_25 : decode cX3_blow 25 = .ok (.getfield 44, 3) := by decide +kernel
theorem dX3_blow_28 : decode cX3_blow 28 = .ok (.getfield 111, 3) := by decide +kernel
theorem dX3_blow_31 : decode cX3_blow 31 = .ok (.iadd, 1) := by decide +kernel
theorem dX3_blow_32 : decode cX3_blow 32 = .ok (.sipush 9999, 3) := by decide +kernel
theorem dX3_blow_35 : decode cX3_blow 35 = .ok (.invokestatic 114, 3) := by decide +kernel
theorem dX3_blow_38 : decode cX3_blow 38 = .ok (.iastore, 1) := by decide +kernel
theorem dX3_blow_39 : decode cX3_blow 39 = .ok (.iinc 1 1, 3) := by decide +kernel
theorem dX3_blow_42 : decode cX3_blow 42 = .ok (.goto (-40), 3) := by decide +kernel
theorem dX3_blow_45 : decode cX3_blow 45 = .ok (.return_, 1) := by decide +kernel
theorem dX3_passHoursWithGales_0 : decode cX3_passHoursWithGales 0 = .ok (.iconst 0, 1) := by decide +kernel
theorem dX3_passHoursWithGales_1 : decode cX3_passHoursWithGales 1 = .ok (.istore_n 2, 1) := by decide +kernel
theorem dX3_passHoursWithGales_2 : decode cX3_passHoursWithGales 2 = .ok (.iload_n 2, 1) := by decide +kernel
theorem dX3_passHoursWithGales_3 : decode cX3_passHoursWithGales 3 = .ok (.iload_n 1, 1) := by decide +kernel
theorem dX3_passHoursWithGales_4 : decode cX3_passHoursWithGales 4 = .ok (.if_icmp .ge 44, 3) := by decide +kernel
theorem dX3_passHoursWithGales_7 : decode cX3_passHoursWithGales 7 = .ok (.aload_n 0, 1) := by decide +kernel
theorem dX3_passHoursWithGales_8 : decode cX3_passHoursWithGales 8 = .ok (.getfield 44, 3) := by decide +kernel
theorem dX3_passHoursWithGales_11 : decode cX3_passHoursWithGales 11 = .ok (.getfield 91, 3) := by decide +kernel
theorem dX3_passHoursWithGales_14 : decode cX3_passHoursWithGales 14 = .ok (.ifCond .le 24, 3) := by decide +kernel
theorem dX3_passHoursWithGales_17 : decode cX3_passHoursWithGales 17 = .ok (.aload_n 0, 1) := by decide +kernel
theorem dX3_passHoursWithGales_18 : decode cX3_passHoursWithGales 18 = .ok (.invokevirtual 94, 3) := by decide +kernel
theorem dX3_passHoursWithGales_21 : decode cX3_passHoursWithGales 21 = .ok (.bipush 100, 2) := by decide +kernel
theorem dX3_passHoursWithGales_23 : decode cX3_passHoursWithGales 23 = .ok (.irem, 1) := by decide +kernel
theorem dX3_passHoursWithGales_24 : decode cX3_passHoursWithGales 24 = .ok (.aload_n 0, 1) := by decide +kernel
theorem dX3_passHoursWithGales_25 : decode cX3_passHoursWithGales 25 = .ok (.getfield 44, 3) := by decide +kernel
theorem dX3_passHoursWithGales_28 : decode cX3_passHoursWithGales 28 = .ok (.getfield 91, 3) := by decide +kernel
theorem dX3_passHoursWithGales_31 : decode cX3_passHoursWithGales 31 = .ok (.if_icmp .ge 7, 3) := by decide +kernel
theorem dX3_passHoursWithGales_34 : decode cX3_passHoursWithGales 34 = .ok (.aload_n 0, 1) := by decide +kernel
theorem dX3_passHoursWithGales_35 : decode cX3_passHoursWithGales 35 = .ok (.invokevirtual 98, 3) := by decide +kernel
theorem dX3_passHoursWithGales_38 : decode cX3_passHoursWithGales 38 = .ok (.aload_n 0, 1) := by decide +kernel
theorem dX3_passHoursWithGales_39 : decode cX3_passHoursWithGales 39 = .ok (.invokevirtual 88, 3) := by decide +kernel
theorem dX3_passHoursWithGales_42 : decode cX3_passHoursWithGales 42 = .ok (.iinc 2 1, 3) := by decide +kernel
theorem dX3_passHoursWithGales_45 : decode cX3_passHoursWithGales 45 = .ok (.goto (-43), 3) := by decide +kernel
theorem dX3_passHoursWithGales_48 : decode cX3_passHoursWithGales 48 = .ok (.return_, 1) := by decide +kernel
theorem dX3_liesOnLots_0 : decode cX3_liesOnLots 0 = .ok (.iconst 0, 1) := by decide +kernel
theorem dX3_liesOnLots_1 : decode cX3_liesOnLots 1 = .ok (.istore_n 2, 1) := by decide +kernel
theorem dX3_liesOnLots_2 : decode cX3_liesOnLots 2 = .ok (.iconst 0, 1) := by decide +kernel
theorem dX3_liesOnLots_3 : decode cX3_liesOnLots 3 = .ok (.istore_n 3, 1) := by decide +kernel
theorem dX3_liesOnLots_4 : decode cX3_liesOnLots 4 = .ok (.iload_n 3, 1) := by decide +kernel
theorem dX3_liesOnLots_5 : decode cX3_liesOnLots 5 = .ok (.aload_n 0, 1) := by decide +kernel
theorem dX3_liesOnLots_6 : decode cX3_liesOnLots 6 = .ok (.getfield 44, 3) := by decide +kernel
theorem dX3_liesOnLots_9 : decode cX3_liesOnLots 9 = .ok (.getfield 108, 3) := by decide +kernel
theorem dX3_liesOnLots_12 : decode cX3_liesOnLots 12 = .ok (.if_icmp .ge 28, 3) := by decide +kernel
theorem dX3_liesOnLots_15 : decode cX3_liesOnLots 15 = .ok (.aload_n 0, 1) := by decide +kernel
theorem dX3_liesOnLots_16 : decode cX3_liesOnLots 16 = .ok (.getfield 17, 3) := by decide +kernel
theorem dX3_liesOnLots_19 : decode cX3_liesOnLots 19 = .ok (.iload_n 3, 1) := by decide +kernel
theorem dX3_liesOnLots_20 : decode cX3_liesOnLots 20 = .ok (.iaload, 1) := by decide +kernel
theorem dX3_liesOnLots_21 : decode cX3_liesOnLots 21 = .ok (.iload_n 1, 1) := by decide +kernel
theorem dX3_liesOnLots_22 : decode cX3_liesOnLots 22 = .ok (.if_icmp .ne 12, 3) := by decide +kernel
theorem dX3_liesOnLots_25 : decode cX3_liesOnLots 25 = .ok (.iload_n 2, 1) := by decide +kernel
theorem dX3_liesOnLots_26 : decode cX3_liesOnLots 26 = .ok (.aload_n 0, 1) := by decide +kernel
theorem dX3_liesOnLots_27 : decode cX3_liesOnLots 27 = .ok (.getfield 11, 3) := by decide +kernel
theorem dX3_liesOnLots_30 : decode cX3_liesOnLots 30 = .ok (.iload_n 3, 1) := by decide +kernel
theorem dX3_liesOnLots_31 : decode cX3_liesOnLots 31 = .ok (.iaload, 1) := by decide +kernel
theorem dX3_liesOnLots_32 : decode cX3_liesOnLots 32 = .ok (.iadd, 1) := by decide +kernel
theorem dX3_liesOnLots_33 : decode cX3_liesOnLots 33 = .ok (.istore_n 2, 1) := by decide +kernel
theorem dX3_liesOnLots_34 : decode cX3_liesOnLots 34 = .ok (.iinc 3 1, 3) := by decide +kernel
theorem dX3_liesOnLots_37 : decode cX3_liesOnLots 37 = .ok (.goto (-33), 3) := by decide +kernel
theorem dX3_liesOnLots_40 : decode cX3_liesOnLots 40 = .ok (.iload_n 2, 1) := by decide +kernel
theorem dX3_liesOnLots_41 : decode cX3_liesOnLots 41 = .ok (.ireturn, 1) := by decide +kernel
theorem dX7_spread_0 : decode cX7_spread 0 = .ok (.ldc_w 377, 3) := by decide +kernel
theorem dX7_spread_3 : decode cX7_spread 3 = .ok (.istore_n 2, 1) := by decide +kernel
theorem dX7_spread_4 : decode cX7_spread 4 = .ok (.ldc_w 378, 3) := by decide +kernel
theorem dX7_spread_7 : decode cX7_spread 7 = .ok (.istore_n 3, 1) := by decide +kernel
theorem dX7_spread_8 : decode cX7_spread 8 = .ok (.iconst 0, 1) := by decide +kernel
theorem dX7_spread_9 : decode cX7_spread 9 = .ok (.istore 4, 2) := by decide +kernel
theorem dX7_spread_11 : decode cX7_spread 11 = .ok (.iload 4, 2) := by decide +kernel
theorem dX7_spread_13 : decode cX7_spread 13 = .ok (.iload_n 1, 1) := by decide +kernel
theorem dX7_spread_14 : decode cX7_spread 14 = .ok (.if_icmp .ge 34, 3) := by decide +kernel
theorem dX7_spread_17 : decode cX7_spread 17 = .ok (.iload 4, 2) := by decide +kernel
theorem dX7_spread_19 : decode cX7_spread 19 = .ok (.aload_n 0, 1) := by decide +kernel
theorem dX7_spread_20 : decode cX7_spread 20 = .ok (.arraylength, 1) := by decide +kernel
theorem dX7_spread_21 : decode cX7_spread 21 = .ok (.if_icmp .ge 27, 3) := by decide +kernel
theorem dX7_spread_24 : decode cX7_spread 24 = .ok (.iload_n 2, 1) := by decide +kernel
theorem dX7_spread_25 : decode cX7_spread 25 = .ok (.aload_n 0, 1) := by decide +kernel
theorem dX7_spread_26 : decode cX7_spread 26 = .ok (.iload 4, 2) := by decide +kernel
theorem dX7_spread_28 : decode cX7_spread 28 = .ok (.iaload, 1) := by decide +kernel
theorem dX7_spread_29 : decode cX7_spread 29 = .ok (.invokestatic 379, 3) := by decide +kernel
theorem dX7_spread_32 : decode cX7_spread 32 = .ok (.istore_n 2, 1) := by decide +kernel
theorem dX7_spread_33 : decode cX7_spread 33 = .ok (.iload_n 3, 1) := by decide +kernel
theorem dX7_spread_34 : decode cX7_spread 34 = .ok (.aload_n 0, 1) := by decide +kernel
theorem dX7_spread_35 : decode cX7_spread 35 = .ok (.iload 4, 2) := by decide +kernel
theorem dX7_spread_37 : decode cX7_spread 37 = .ok (.iaload, 1) := by decide +kernel
theorem dX7_spread_38 : decode cX7_spread 38 = .ok (.invokestatic 310, 3) := by decide +kernel
theorem dX7_spread_41 : decode cX7_spread 41 = .ok (.istore_n 3, 1) := by decide +kernel
theorem dX7_spread_42 : decode cX7_spread 42 = .ok (.iinc 4 1, 3) := by decide +kernel
theorem dX7_spread_45 : decode cX7_spread 45 = .ok (.goto (-34), 3) := by decide +kernel
theorem dX7_spread_48 : decode cX7_spread 48 = .ok (.iload_n 1, 1) := by decide +kernel
theorem dX7_spread_49 : decode cX7_spread 49 = .ok (.ifCond .le 9, 3) := by decide +kernel
theorem dX7_spread_52 : decode cX7_spread 52 = .ok (.iload_n 3, 1) := by decide +kernel
theorem dX7_spread_53 : decode cX7_spread 53 = .ok (.iload_n 2, 1) := by decide +kernel
theorem dX7_spread_54 : decode cX7_spread 54 = .ok (.isub, 1) := by decide +kernel
theorem dX7_spread_55 : decode cX7_spread 55 = .ok (.goto 4, 3) := by decide +kernel
theorem dX7_spread_58 : decode cX7_spread 58 = .ok (.iconst 0, 1) := by decide +kernel
theorem dX7_spread_59 : decode cX7_spread 59 = .ok (.ireturn, 1) := by decide +kernel
theorem dX3_unlikeLots_0 : decode cX3_unlikeLots 0 = .ok (.iconst 0, 1) := by decide +kernel
theorem dX3_unlikeLots_1 : decode cX3_unlikeLots 1 = .ok (.istore_n 1, 1) := by decide +kernel
theorem dX3_unlikeLots_2 : decode cX3_unlikeLots 2 = .ok (.iload_n 1, 1) := by decide +kernel
theorem dX3_unlikeLots_3 : decode cX3_unlikeLots 3 = .ok (.aload_n 0, 1) := by decide +kernel
theorem dX3_unlikeLots_4 : decode cX3_unlikeLots 4 = .ok (.getfield 44, 3) := by decide +kernel
theorem dX3_unlikeLots_7 : decode cX3_unlikeLots 7 = .ok (.getfield 76, 3) := by decide +kernel
theorem dX3_unlikeLots_10 : decode cX3_unlikeLots 10 = .ok (.if_icmp .ge 20, 3) := by decide +kernel
theorem dX3_unlikeLots_13 : decode cX3_unlikeLots 13 = .ok (.aload_n 0, 1) := by decide +kernel
theorem dX3_unlikeLots_14 : decode cX3_unlikeLots 14 = .ok (.getfield 38, 3) := by decide +kernel
theorem dX3_unlikeLots_17 : decode cX3_unlikeLots 17 = .ok (.iload_n 1, 1) := by decide +kernel
theorem dX3_unlikeLots_18 : decode cX3_unlikeLots 18 = .ok (.aload_n 0, 1) := by decide +kernel
theorem dX3_unlikeLots_19 : decode cX3_unlikeLots 19 = .ok (.iload_n 1, 1) := by decide +kernel
theorem dX3_unlikeLots_20 : decode cX3_unlikeLots 20 = .ok (.invokevirtual 190, 3) := by decide +kernel
theorem dX3_unlikeLots_23 : decode cX3_unlikeLots 23 = .ok (.iastore, 1) := by decide +kernel
theorem dX3_unlikeLots_24 : decode cX3_unlikeLots 24 = .ok (.iinc 1 1, 3) := by decide +kernel
theorem dX3_unlikeLots_27 : decode cX3_unlikeLots 27 = .ok (.goto (-25), 3) := by decide +kernel
theorem dX3_unlikeLots_30 : decode cX3_unlikeLots 30 = .ok (.aload_n 0, 1) := by decide +kernel
theorem dX3_unlikeLots_31 : decode cX3_unlikeLots 31 = .ok (.getfield 38, 3) := by decide +kernel
theorem dX3_unlikeLots_34 : decode cX3_unlikeLots 34 = .ok (.aload_n 0, 1) := by decide +kernel
theorem dX3_unlikeLots_35 : decode cX3_unlikeLots 35 = .ok (.getfield 44, 3) := by decide +kernel
theorem dX3_unlikeLots_38 : decode cX3_unlikeLots 38 = .ok (.getfield 76, 3) := by decide +kernel
theorem dX3_unlikeLots_41 : decode cX3_unlikeLots 41 = .ok (.invokestatic 193, 3) := by decide +kernel
theorem dX3_unlikeLots_44 : decode cX3_unlikeLots 44 = .ok (.ireturn, 1) := by decide +kernel
theorem dX3_moveCart_0 : decode cX3_moveCart 0 = .ok (.aload_n 0, 1) := by decide +kernel
theorem dX3_moveCart_1 : decode cX3_moveCart 1 = .ok (.getfield 20, 3) := by decide +kernel
theorem dX3_moveCart_4 : decode cX3_moveCart 4 = .ok (.iload_n 1, 1) := by decide +kernel
theorem dX3_moveCart_5 : decode cX3_moveCart 5 = .ok (.dup2, 1) := by decide +kernel
theorem dX3_moveCart_6 : decode cX3_moveCart 6 = .ok (.iaload, 1) := by decide +kernel
theorem dX3_moveCart_7 : decode cX3_moveCart 7 = .ok (.iconst 1, 1) := by decide +kernel
theorem dX3_moveCart_8 : decode cX3_moveCart 8 = .ok (.isub, 1) := by decide +kernel
theorem dX3_moveCart_9 : decode cX3_moveCart 9 = .ok (.iastore, 1) := by decide +kernel
theorem dX3_moveCart_10 : decode cX3_moveCart 10 = .ok (.aload_n 0, 1) := by decide +kernel
theorem dX3_moveCart_11 : decode cX3_moveCart 11 = .ok (.getfield 20, 3) := by decide +kernel
theorem dX3_moveCart_14 : decode cX3_moveCart 14 = .ok (.iload_n 2, 1) := by decide +kernel
theorem dX3_moveCart_15 : decode cX3_moveCart 15 = .ok (.dup2, 1) := by decide +kernel
theorem dX3_moveCart_16 : decode cX3_moveCart 16 = .ok (.iaload, 1) := by decide +kernel
theorem dX3_moveCart_17 : decode cX3_moveCart 17 = .ok (.iconst 1, 1) := by decide +kernel
theorem dX3_moveCart_18 : decode cX3_moveCart 18 = .ok (.iadd, 1) := by decide +kernel
theorem dX3_moveCart_19 : decode cX3_moveCart 19 = .ok (.iastore, 1) := by decide +kernel
theorem dX3_moveCart_20 : decode cX3_moveCart 20 = .ok (.return_, 1) := by decide +kernel
theorem dX3_letForkAlone_0 : decode cX3_letForkAlone 0 = .ok (.iconst 0, 1) := by decide +kernel
theorem dX3_letForkAlone_1 : decode cX3_letForkAlone 1 = .ok (.istore_n 2, 1) := by decide +kernel
theorem dX3_letForkAlone_2 : decode cX3_letForkAlone 2 = .ok (.iload_n 2, 1) := by decide +kernel
theorem dX3_letForkAlone_3 : decode cX3_letForkAlone 3 = .ok (.aload_n 0, 1) := by decide +kernel
theorem dX3_letForkAlone_4 : decode cX3_letForkAlone 4 = .ok (.getfield 44, 3) := by decide +kernel
theorem dX3_letForkAlone_7 : decode cX3_letForkAlone 7 = .ok (.getfield 76, 3) := by decide +kernel
theorem dX3_letForkAlone_10 : decode cX3_letForkAlone 10 = .ok (.if_icmp .ge 25, 3) := by decide +kernel
theorem dX3_letForkAlone_13 : decode cX3_letForkAlone 13 = .ok (.aload_n 0, 1) := by decide +kernel
theorem dX3_letForkAlone_14 : decode cX3_letForkAlone 14 = .ok (.getfield 29, 3) := by decide +kernel
theorem dX3_letForkAlone_17 : decode cX3_letForkAlone 17 = .ok (.iload_n 2, 1) := by decide +kernel
theorem dX3_letForkAlone_18 : decode cX3_letForkAlone 18 = .ok (.iload_n 2, 1) := by decide +kernel
theorem dX3_letForkAlone_19 : decode cX3_letForkAlone 19 = .ok (.iload_n 1, 1) := by decide +kernel
theorem dX3_letForkAlone_20 : decode cX3_letForkAlone 20 = .ok (.if_icmp .ne 7, 3) := by decide +kernel
theorem dX3_letForkAlone_23 : decode cX3_letForkAlone 23 = .ok (.iconst 2, 1) := by decide +kernel
theorem dX3_letForkAlone_24 : decode cX3_letForkAlone 24 = .ok (.goto 4, 3) := by decide +kernel
theorem dX3_letForkAlone_27 : decode cX3_letForkAlone 27 = .ok (.iconst 3, 1) := by decide +kernel
theorem dX3_letForkAlone_28 : decode cX3_letForkAlone 28 = .ok (.iastore, 1) := by decide +kernel
theorem dX3_letForkAlone_29 : decode cX3_letForkAlone 29 = .ok (.iinc 2 1, 3) := by decide +kernel
theorem dX3_letForkAlone_32 : decode cX3_letForkAlone 32 = .ok (.goto (-30), 3) := by decide +kernel
theorem dX3_letForkAlone_35 : decode cX3_letForkAlone 35 = .ok (.return_, 1) := by decide +kernel
theorem dX3_tryOut_0 : decode cX3_tryOut 0 = .ok (.iload_n 1, 1) := by decide +kernel
theorem dX3_tryOut_1 : decode cX3_tryOut 1 = .ok (.ifCond .ne 11, 3) := by decide +kernel
theorem dX3_tryOut_4 : decode cX3_tryOut 4 = .ok (.aload_n 0, 1) := by decide +kernel
theorem dX3_tryOut_5 : decode cX3_tryOut 5 = .ok (.iconst 0, 1) := by decide +kernel
theorem dX3_tryOut_6 : decode cX3_tryOut 6 = .ok (.putfield 48, 3) := by decide +kernel
theorem dX3_tryOut_9 : decode cX3_tryOut 9 = .ok (.goto 29, 3) := by decide +kernel
theorem dX3_tryOut_12 : decode cX3_tryOut 12 = .ok (.iload_n 1, 1) := by decide +kernel
theorem dX3_tryOut_13 : decode cX3_tryOut 13 = .ok (.iconst 1, 1) := by decide +kernel
theorem dX3_tryOut_14 : decode cX3_tryOut 14 = .ok (.if_icmp .ne 14, 3) := by decide +kernel
theorem dX3_tryOut_17 : decode cX3_tryOut 17 = .ok (.aload_n 0, 1) := by decide +kernel
theorem dX3_tryOut_18 : decode cX3_tryOut 18 = .ok (.getfield 26, 3) := by decide +kernel
theorem dX3_tryOut_21 : decode cX3_tryOut 21 = .ok (.iload_n 2, 1) := by decide +kernel
theorem dX3_tryOut_22 : decode cX3_tryOut 22 = .ok (.ldc 197, 2) := by decide +kernel
theorem dX3_tryOut_24 : decode cX3_tryOut 24 = .ok (.iastore, 1) := by decide +kernel
theorem dX3_tryOut_25 : decode cX3_tryOut 25 = .ok (.goto 13, 3) := by decide +kernel
theorem dX3_tryOut_28 : decode cX3_tryOut 28 = .ok (.iload_n 1, 1) := by decide +kernel
theorem dX3_tryOut_29 : decode cX3_tryOut 29 = .ok (.iconst 4, 1) := by decide +kernel
theorem dX3_tryOut_30 : decode cX3_tryOut 30 = .ok (.if_icmp .ne 8, 3) := by decide +kernel
theorem dX3_tryOut_33 : decode cX3_tryOut 33 = .ok (.aload_n 0, 1) := by decide +kernel
theorem dX3_tryOut_34 : decode cX3_tryOut 34 = .ok (.iconst 0, 1) := by decide +kernel
theorem dX3_tryOut_35 : decode cX3_tryOut 35 = .ok (.putfield 61, 3) := by decide +kernel
theorem dX3_tryOut_38 : decode cX3_tryOut 38 = .ok (.iconst 0, 1) := by decide +kernel
theorem dX3_tryOut_39 : decode cX3_tryOut 39 = .ok (.istore_n 3, 1) := by decide +kernel
theorem dX3_tryOut_40 : decode cX3_tryOut 40 = .ok (.iload_n 3, 1) := by decide +kernel
theorem dX3_tryOut_41 : decode cX3_tryOut 41 = .ok (.aload_n 0, 1) := by decide +kernel
theorem dX3_tryOut_42 : decode cX3_tryOut 42 = .ok (.getfield 44, 3) := by decide +kernel
theorem dX3_tryOut_45 : decode cX3_tryOut 45 = .ok (.getfield 76, 3) := by decide +kernel
theorem dX3_tryOut_48 : decode cX3_tryOut 48 = .ok (.if_icmp .ge 49, 3) := by decide +kernel
theorem dX3_tryOut_51 : decode cX3_tryOut 51 = .ok (.aload_n 0, 1) := by decide +kernel
theorem dX3_tryOut_52 : decode cX3_tryOut 52 = .ok (.getfield 20, 3) := by decide +kernel
theorem dX3_tryOut_55 : decode cX3_tryOut 55 = .ok (.iload_n 3, 1) := by decide +kernel
theorem dX3_tryOut_56 : decode cX3_tryOut 56 = .ok (.dup2, 1) := by decide +kernel
theorem dX3_tryOut_57 : decode cX3_tryOut 57 = .ok (.iaload, 1) := by decide +kernel
theorem dX3_tryOut_58 : decode cX3_tryOut 58 = .ok (.iload_n 1, 1) := by decide +kernel
theorem dX3_tryOut_59 : decode cX3_tryOut 59 = .ok (.iconst 2, 1) := by decide +kernel
theorem dX3_tryOut_60 : decode cX3_tryOut 60 = .ok (.if_icmp .ne 7, 3) := by decide +kernel
theorem dX3_tryOut_63 : decode cX3_tryOut 63 = .ok (.iconst 1, 1) := by decide +kernel
theorem dX3_tryOut_64 : decode cX3_tryOut 64 = .ok (.goto 4, 3) := by decide +kernel
theorem dX3_tryOut_67 : decode cX3_tryOut 67 = .ok (.iconst 0, 1) := by decide +kernel
theorem dX3_tryOut_68 : decode cX3_tryOut 68 = .ok (.iadd, 1) := by decide +kernel
theorem dX3_tryOut_69 : decode cX3_tryOut 69 = .ok (.iastore, 1) := by decide +kernel
theorem dX3_tryOut_70 : decode cX3_tryOut 70 = .ok (.aload_n 0, 1) := by decide +kernel
theorem dX3_tryOut_71 : decode cX3_tryOut 71 = .ok (.getfield 23, 3) := by decide +kernel
theorem dX3_tryOut_74 : decode cX3_tryOut 74 = .ok (.iload_n 3, 1) := by decide +kernel
theorem dX3_tryOut_75 : decode cX3_tryOut 75 = .ok (.iload_n 1, 1) := by decide +kernel
theorem dX3_tryOut_76 : decode cX3_tryOut 76 = .ok (.iconst 3, 1) := by decide +kernel
theorem dX3_tryOut_77 : decode cX3_tryOut 77 = .ok (.if_icmp .ne 7, 3) := by decide +kernel
theorem dX3_tryOut_80 : decode cX3_tryOut 80 = .ok (.iconst 0, 1) := by decide +kernel
theorem dX3_tryOut_81 : decode cX3_tryOut 81 = .ok (.goto 9, 3) := by decide +kernel
theorem dX3_tryOut_84 : decode cX3_tryOut 84 = .ok (.aload_n 0, 1) := by decide +kernel
theorem dX3_tryOut_85 : decode cX3_tryOut 85 = .ok (.getfield 23, 3) := by decide +kernel
theorem dX3_tryOut_88 : decode cX3_tryOut 88 = .ok (.iload_n 3, 1) := by decide +kernel
theorem dX3_tryOut_89 : decode cX3_tryOut 89 = .ok (.iaload, 1) := by decide +kernel
theorem dX3_tryOut_90 : decode cX3_tryOut 90 = .ok (.iastore, 1) := by decide +kernel
theorem dX3_tryOut_91 : decode cX3_tryOut 91 = .ok (.iinc 3 1, 3) := by decide +kernel
theorem dX3_tryOut_94 : decode cX3_tryOut 94 = .ok (.goto (-54), 3) := by decide +kernel
theorem dX3_tryOut_97 : decode cX3_tryOut 97 = .ok (.return_, 1) := by decide +kernel
theorem dX3_allGot_0 : decode cX3_allGot 0 = .ok (.aload_n 0, 1) := by decide +kernel
theorem dX3_allGot_1 : decode cX3_allGot 1 = .ok (.getfield 41, 3) := by decide +kernel
theorem dX3_allGot_4 : decode cX3_allGot 4 = .ok (.aload_n 0, 1) := by decide +kernel
theorem dX3_allGot_5 : decode cX3_allGot 5 = .ok (.getfield 44, 3) := by decide +kernel
theorem dX3_allGot_8 : decode cX3_allGot 8 = .ok (.getfield 144, 3) := by decide +kernel
theorem dX3_allGot_11 : decode cX3_allGot 11 = .ok (.invokestatic 198, 3) := by decide +kernel
theorem dX3_allGot_14 : decode cX3_allGot 14 = .ok (.ireturn, 1) := by decide +kernel
theorem dX3_allGains_0 : decode cX3_allGains 0 = .ok (.aload_n 0, 1) := by decide +kernel
theorem dX3_allGains_1 : decode cX3_allGains 1 = .ok (.getfield 32, 3) := by decide +kernel
theorem dX3_allGains_4 : decode cX3_allGains 4 = .ok (.aload_n 0, 1) := by decide +kernel
theorem dX3_allGains_5 : decode cX3_allGains 5 = .ok (.getfield 44, 3) := by decide +kernel
theorem dX3_allGains_8 : decode cX3_allGains 8 = .ok (.getfield 76, 3) := by decide +kernel
theorem dX3_allGains_11 : decode cX3_allGains 11 = .ok (.invokestatic 198, 3) := by decide +kernel
theorem dX3_allGains_14 : decode cX3_allGains 14 = .ok (.ireturn, 1) := by decide +kernel
theorem dX4_append_0 : decode cX4_append 0 = .ok (.bipush 24, 2) := by decide +kernel
theorem dX4_append_2 : decode cX4_append 2 = .ok (.istore_n 2, 1) := by decide +kernel
theorem dX4_append_3 : decode cX4_append 3 = .ok (.iload_n 2, 1) := by decide +kernel
theorem dX4_append_4 : decode cX4_append 4 = .ok (.ifCond .lt 47, 3) := by decide +kernel
theorem dX4_append_7 : decode cX4_append 7 = .ok (.aload_n 0, 1) := by decide +kernel
theorem dX4_append_8 : decode cX4_append 8 = .ok (.getfield 30, 3) := by decide +kernel
theorem dX4_append_11 : decode cX4_append 11 = .ok (.aload_n 0, 1) := by decide +kernel
theorem dX4_append_12 : decode cX4_append 12 = .ok (.getfield 9, 3) := by decide +kernel
theorem dX4_append_15 : decode cX4_append 15 = .ok (.arraylength, 1) := by decide +kernel
theorem dX4_append_16 : decode cX4_append 16 = .ok (.if_icmp .ge 35, 3) := by decide +kernel
theorem dX4_append_19 : decode cX4_append 19 = .ok (.aload_n 0, 1) := by decide +kernel
theorem dX4_append_20 : decode cX4_append 20 = .ok (.getfield 9, 3) := by decide +kernel
theorem dX4_append_23 : decode cX4_append 23 = .ok (.aload_n 0, 1) := by decide +kernel
theorem dX4_append_24 : decode cX4_append 24 = .ok (.getfield 30, 3) := by decide +kernel
theorem dX4_append_27 : decode cX4_append 27 = .ok (.iload_n 1, 1) := by decide +kernel
theorem dX4_append_28 : decode cX4_append 28 = .ok (.iload_n 2, 1) := by decide +kernel
theorem dX4_append_29 : decode cX4_append 29 = .ok (.iushr, 1) := by decide +kernel
theorem dX4_append_30 : decode cX4_append 30 = .ok (.sipush 255, 3) := by decide +kernel
theorem dX4_append_33 : decode cX4_append 33 = .ok (.iand, 1) := by decide +kernel
theorem dX4_append_34 : decode cX4_append 34 = .ok (.iastore, 1) := by decide +kernel
theorem dX4_append_35 : decode cX4_append 35 = .ok (.aload_n 0, 1) := by decide +kernel
theorem dX4_append_36 : decode cX4_append 36 = .ok (.dup, 1) := by decide +kernel
theorem dX4_append_37 : decode cX4_append 37 = .ok (.getfield 30, 3) := by decide +kernel
theorem dX4_append_40 : decode cX4_append 40 = .ok (.iconst 1, 1) := by decide +kernel
theorem dX4_append_41 : decode cX4_append 41 = .ok (.iadd, 1) := by decide +kernel
theorem dX4_append_42 : decode cX4_append 42 = .ok (.putfield 30, 3) := by decide +kernel
theorem dX4_append_45 : decode cX4_append 45 = .ok (.iinc 2 (-8), 3) := by decide +kernel
theorem dX4_append_48 : decode cX4_append 48 = .ok (.goto (-45), 3) := by decide +kernel
theorem dX4_append_51 : decode cX4_append 51 = .ok (.return_, 1) := by decide +kernel
theorem dX6_add_0 : decode cX6_add 0 = .ok (.aload_n 0, 1) := by decide +kernel
theorem dX6_add_1 : decode cX6_add 1 = .ok (.getfield 21, 3) := by decide +kernel
theorem dX6_add_4 : decode cX6_add 4 = .ok (.bipush 20, 2) := by decide +kernel
theorem dX6_add_6 : decode cX6_add 6 = .ok (.if_icmp .lt 54, 3) := by decide +kernel
theorem dX6_add_9 : decode cX6_add 9 = .ok (.aload_n 0, 1) := by decide +kernel
theorem dX6_add_10 : decode cX6_add 10 = .ok (.getfield 9, 3) := by decide +kernel
theorem dX6_add_13 : decode cX6_add 13 = .ok (.iconst 1, 1) := by decide +kernel
theorem dX6_add_14 : decode cX6_add 14 = .ok (.aload_n 0, 1) := by decide +kernel
theorem dX6_add_15 : decode cX6_add 15 = .ok (.getfield 9, 3) := by decide +kernel
theorem dX6_add_18 : decode cX6_add 18 = .ok (.iconst 0, 1) := by decide +kernel
theorem dX6_add_19 : decode cX6_add 19 = .ok (.bipush 19, 2) := by decide +kernel
theorem dX6_add_21 : decode cX6_add 21 = .ok (.invokestatic 25, 3) := by decide +kernel
theorem dX6_add_24 : decode cX6_add 24 = .ok (.aload_n 0, 1) := by decide +kernel
theorem dX6_add_25 : decode cX6_add 25 = .ok (.getfield 15, 3) := by decide +kernel
theorem dX6_add_28 : decode cX6_add 28 = .ok (.iconst 1, 1) := by decide +kernel
theorem dX6_add_29 : decode cX6_add 29 = .ok (.aload_n 0, 1) := by decide +kernel
theorem dX6_add_30 : decode cX6_add 30 = .ok (.getfield 15, 3) := by decide +kernel
theorem dX6_add_33 : decode cX6_add 33 = .ok (.iconst 0, 1) := by decide +kernel
theorem dX6_add_34 : decode cX6_add 34 = .ok (.bipush 19, 2) := by decide +kernel
theorem dX6_add_36 : decode cX6_add 36 = .ok (.invokestatic 25, 3) := by decide +kernel
theorem dX6_add_39 : decode cX6_add 39 = .ok (.aload_n 0, 1) := by decide +kernel
theorem dX6_add_40 : decode cX6_add 40 = .ok (.getfield 18, 3) := by decide +kernel
theorem dX6_add_43 : decode cX6_add 43 = .ok (.iconst 1, 1) := by decide +kernel
theorem dX6_add_44 : decode cX6_add 44 = .ok (.aload_n 0, 1) := by decide +kernel
theorem dX6_add_45 : decode cX6_add 45 = .ok (.getfield 18, 3) := by decide +kernel
theorem dX6_add_48 : decode cX6_add 48 = .ok (.iconst 0, 1) := by decide +kernel
theorem dX6_add_49 : decode cX6_add 49 = .ok (.bipush 19, 2) := by decide +kernel
theorem dX6_add_51 : decode cX6_add 51 = .ok (.invokestatic 25, 3) := by decide +kernel
theorem dX6_add_54 : decode cX6_add 54 = .ok (.aload_n 0, 1) := by decide +kernel
theorem dX6_add_55 : decode cX6_add 55 = .ok (.bipush 19, 2) := by decide +kernel
theorem dX6_add_57 : decode cX6_add 57 = .ok (.putfield 21, 3) := by decide +kernel
theorem dX6_add_60 : decode cX6_add 60 = .ok (.aload_n 0, 1) := by decide +kernel
theorem dX6_add_61 : decode cX6_add 61 = .ok (.getfield 9, 3) := by decide +kernel
theorem dX6_add_64 : decode cX6_add 64 = .ok (.aload_n 0, 1) := by decide +kernel
theorem dX6_add_65 : decode cX6_add 65 = .ok (.getfield 21, 3) := by decide +kernel
theorem dX6_add_68 : decode cX6_add 68 = .ok (.iload_n 1, 1) := by decide +kernel
theorem dX6_add_69 : decode cX6_add 69 = .ok (.iastore, 1) := by decide +kernel
theorem dX6_add_70 : decode cX6_add 70 = .ok (.aload_n 0, 1) := by decide +kernel
theorem dX6_add_71 : decode cX6_add 71 = .ok (.getfield 15, 3) := by decide +kernel
theorem dX6_add_74 : decode cX6_add 74 = .ok (.aload_n 0, 1) := by decide +kernel
theorem dX6_add_75 : decode cX6_add 75 = .ok (.getfield 21, 3) := by decide +kernel
theorem dX6_add_78 : decode cX6_add 78 = .ok (.iload_n 2, 1) := by decide +kernel
theorem dX6_add_79 : decode cX6_add 79 = .ok (.iastore, 1) := by decide +kernel
theorem dX6_add_80 : decode cX6_add 80 = .ok (.aload_n 0, 1) := by decide +kernel
theorem dX6_add_81 : decode cX6_add 81 = .ok (.getfield 18, 3) := by decide +kernel
theorem dX6_add_84 : decode cX6_add 84 = .ok (.aload_n 0, 1) := by decide +kernel
theorem dX6_add_85 : decode cX6_add 85 = .ok (.getfield 21, 3) := by decide +kernel
theorem dX6_add_88 : decode cX6_add 88 = .ok (.iload_n 3, 1) := by decide +kernel
theorem dX6_add_89 : decode cX6_add 89 = .ok (.iastore, 1) := by decide +kernel
theorem dX6_add_90 : decode cX6_add 90 = .ok (.aload_n 0, 1) := by decide +kernel
theorem dX6_add_91 : decode cX6_add 91 = .ok (.dup, 1) := by decide +kernel
theorem dX6_add_92 : decode cX6_add 92 = .ok (.getfield 21, 3) := by decide +kernel
theorem dX6_add_95 : decode cX6_add 95 = .ok (.iconst 1, 1) := by decide +kernel
theorem dX6_add_96 : decode cX6_add 96 = .ok (.iadd, 1) := by decide +kernel
theorem dX6_add_97 : decode cX6_add 97 = .ok (.putfield 21, 3) := by decide +kernel
theorem dX6_add_100 : decode cX6_add 100 = .ok (.return_, 1) := by decide +kernel
def f_X3_blow_2 (o : Nat) (r2 : Int32 → Hp → Option Hp) (v1 : Int32) (h2 : Hp) : Option Hp :=
  onO (gO h2 3 o 10) fun o3 =>
  if (gI h2 5 o3 11) ≤ v1 then
    some h2
  else
  grd (inb v1 8) <|
  onO (gO h2 3 o 10) fun o4 =>
  grd (inb v1 8) <| lt_ (sA h2 3 o 0 v1.toNatClampNeg (if 9999 < ((gA h2 3 o 0 v1.toNatClampNeg) + (gI h2 5 o4 18)) then 9999 else ((gA h2 3 o 0 v1.toNatClampNeg) + (gI h2 5 o4 18)))) fun h5 =>
  lt_ (v1 + 1) fun v6 =>
  r2 v6 h5
def f_X3_blow (N : Nat) (h : Hp) (o : Nat) : Option Hp :=
  iter (fun _ _ => none) (f_X3_blow_2 o) N 0 h
abbrev rmX3_blow : Room := { frames := 1, cells := 0, slots := 0, locals := 21 }
set_option maxRecDepth 100000 in
set_option maxHeartbeats 4000000 in
theorem w_X3_blow (X : Cx) (F : Fx X cX3_blow RX3 none rmX3_blow) (hA : xA X = Aw (xG X)) (hL : xL X = 2) (N : Nat) (h : Hp) (o : Nat) (h_o : o < cnt 3) : Wm X (fun _ => none) (fun v => v) (fun _ => True) 0 [(0, .ref (adr (xG X) 3 o 0))] [] h (f_X3_blow N h o) := by
  have hS : ∀ i : Nat, i < 2 → i < xL X := fun i z => by rw [hL]; exact z
  unfold f_X3_blow
  refine r_iconst F (v := 0) dX3_blow_0 (by decide) ?_
  refine r_istore_n F [(1, .int 0), (0, .ref (adr (xG X) 3 o 0))] rfl dX3_blow_1 rfl (hS _ (by decide)) ?_
  have hl2 : ∀ n : Nat, ∀ v1 : Int32, ∀ h2 : Hp, Wm X (fun _ => none) (fun v => v) (fun _ => True) 2 [(0, .ref (adr (xG X) 3 o 0)), (1, .int v1)] [] h2 (iter (fun _ _ => none) (f_X3_blow_2 o) n v1 h2) := by
    intro n
    induction n with
    | zero => intro v1 h2; exact Wt_none
    | succ n ih =>
      revert ih
      show (∀ v1 : Int32, ∀ h2 : Hp, Wm X (fun _ => none) (fun v => v) (fun _ => True) 2 [(0, .ref (adr (xG X) 3 o 0)), (1, .int v1)] [] h2 (iter (fun _ _ => none) (f_X3_blow_2 o) n v1 h2)) → _
      intro ih2 v1 h2
      show Wm X (fun _ => none) (fun v => v) (fun _ => True) 2 [(0, .ref (adr (xG X) 3 o 0)), (1, .int v1)] [] h2 (f_X3_blow_2 o (iter (fun _ _ => none) (f_X3_blow_2 o) n) v1 h2)
      revert ih2
      generalize iter (fun _ _ => none) (f_X3_blow_2 o) n = r2
      intro ih2
      unfold f_X3_blow_2
      refine r_iload_n F 1 rfl dX3_blow_2 rfl ?_
      refine r_aload_n F 0 rfl dX3_blow_3 rfl ?_
      refine r_getO F frX3_44 h_o dX3_blow_4 fun o3 hp_o3 => ?_
      refine r_getI F frX3_108 hp_o3 dX3_blow_7 ?_
      refine r_icmpge F (tgt := 45) dX3_blow_10 (by decide) ?_ ?_
      · skip
        exact r_vret F hA rfl rfl trivial dX3_blow_45
      refine r_aload_n F 0 rfl dX3_blow_13 rfl ?_
      refine r_getA F frX3_11 h_o dX3_blow_14 ?_
      refine r_iload_n F 1 rfl dX3_blow_17 rfl ?_
      refine r_aload_n F 0 rfl dX3_blow_18 rfl ?_
      refine r_getA F frX3_11 h_o dX3_blow_19 ?_
      refine r_iload_n F 1 rfl dX3_blow_22 rfl ?_
      refine r_iaload F (ar_3_0 o h_o) dX3_blow_23 ?_
      refine r_aload_n F 0 rfl dX3_blow_24 rfl ?_
      refine r_getO F frX3_44 h_o dX3_blow_25 fun o4 hp_o4 => ?_
      refine r_getI F frX3_111 hp_o4 dX3_blow_28 ?_
      refine r_iadd F dX3_blow_31 ?_
      refine r_sipush F (v := 9999) dX3_blow_32 (by decide) ?_
      refine r_min F wd_736 ws_min ⟨Nat.le_of_ble_eq_true rfl, Nat.le_of_ble_eq_true rfl⟩ dX3_blow_35 ?_
      refine r_iastore F (ar_3_0 o h_o) dX3_blow_38 fun h5 => ?_
      refine r_iinc F (v := 1) 1 rfl (by decide) (fun v6 => [(1, .int v6), (0, .ref (adr (xG X) 3 o 0))]) (fun _ => rfl) dX3_blow_39 (hS _ (by decide)) fun v6 => ?_
      refine r_goto F (tgt := 2) dX3_blow_42 (by decide) ?_
      exact Wt_pick [1, 0] rfl (ih2 v6 h5)
  exact Wt_pick [1, 0] rfl (hl2 N 0 h)
theorem c_X3_blow (G : Gx) (l : Launch) (N : Nat) (h : Hp) (o : Nat) (h_o : o < cnt 3) : Ctr G l yX3_blow (.code yX3_blow cX3_blow 2 none :: GT) rmX3_blow [.ref (adr G 3 o 0)] h (f_X3_blow N h o) (fun _ => none) (fun v => v) (fun _ => True) :=
  ctr_of (by decide) (Nat.le_of_ble_eq_true rfl) ⟨rfl, rfl⟩ fun X _ e2 hA hL F => by subst e2; exact w_X3_blow X F hA hL N h o h_o
def f_X3_passHoursWithGales_2 (N : Nat) (o : Nat) (p1 : Int32) (r2 : Int32 → Hp → Option Hp) (v1 : Int32) (h2 : Hp) : Option Hp :=
  if p1 ≤ v1 then
    some h2
  else
  onO (gO h2 3 o 10) fun o3 =>
  jn (fun (h4 : Hp) =>
    (f_X3_passHour N h4 o).bind fun h5 =>
    lt_ (v1 + 1) fun v6 =>
    r2 v6 h5) fun (j38 : Hp → Option Hp) =>
  if (gI h2 5 o3 17) ≤ 0 then
    j38 h2
  else
  bd2 (f_X3_drawNumber h2 o) fun v8 h7 =>
  onO (gO h7 3 o 10) fun o9 =>
  if (gI h7 5 o9 17) ≤ (v8 - v8 / 100 * 100) then
    j38 h7
  else
  (f_X3_blow N h7 o).bind fun h10 =>
  j38 h10
def f_X3_passHoursWithGales (N : Nat) (h : Hp) (o : Nat) (p1 : Int32) : Option Hp :=
  iter (fun _ _ => none) (f_X3_passHoursWithGales_2 N o p1) N 0 h
abbrev rmX3_passHoursWithGales : Room := { frames := 5, cells := 0, slots := 0, locals := 126 }
set_option maxRecDepth 100000 in
set_option maxHeartbeats 4000000 in
theorem w_X3_passHoursWithGales (X : Cx) (F : Fx X cX3_passHoursWithGales RX3 none rmX3_passHoursWithGales) (hA : xA X = Aw (xG X)) (hL : xL X = 3) (N : Nat) (h : Hp) (o : Nat) (h_o : o < cnt 3) (p1 : Int32) : Wm X (fun _ => none) (fun v => v) (fun _ => True) 0 [(0, .ref (adr (xG X) 3 o 0)), (1, .int p1)] [] h (f_X3_passHoursWithGales N h o p1) := by
  have hS : ∀ i : Nat, i < 3 → i < xL X := fun i z => by rw [hL]; exact z
  unfold f_X3_passHoursWithGales
  refine r_iconst F (v := 0) dX3_passHoursWithGales_0 (by decide) ?_
  refine r_istore_n F [(2, .int 0), (0, .ref (adr (xG X) 3 o 0)), (1, .int p1)] rfl dX3_passHoursWithGales_1 rfl (hS _ (by decide)) ?_
  have hl2 : ∀ n : Nat, ∀ v1 : Int32, ∀ h2 : Hp, Wm X (fun _ => none) (fun v => v) (fun _ => True) 2 [(0, .ref (adr (xG X) 3 o 0)), (1, .int p1), (2, .int v1)] [] h2 (iter (fun _ _ => none) (f_X3_passHoursWithGales_2 N o p1) n v1 h2) := by
    intro n
    induction n with
    | zero => intro v1 h2; exact Wt_none
    | succ n ih =>
      revert ih
      show (∀ v1 : Int32, ∀ h2 : Hp, Wm X (fun _ => none) (fun v => v) (fun _ => True) 2 [(0, .ref (adr (xG X) 3 o 0)), (1, .int p1), (2, .int v1)] [] h2 (iter (fun _ _ => none) (f_X3_passHoursWithGales_2 N o p1) n v1 h2)) → _
      intro ih2 v1 h2
      show Wm X (fun _ => none) (fun v => v) (fun _ => True) 2 [(0, .ref (adr (xG X) 3 o 0)), (1, .int p1), (2, .int v1)] [] h2 (f_X3_passHoursWithGales_2 N o p1 (iter (fun _ _ => none) (f_X3_passHoursWithGales_2 N o p1) n) v1 h2)
      revert ih2
      generalize iter (fun _ _ => none) (f_X3_passHoursWithGales_2 N o p1) n = r2
      intro ih2
      unfold f_X3_passHoursWithGales_2
      refine r_iload_n F 2 rfl dX3_passHoursWithGales_2 rfl ?_
      refine r_iload_n F 1 rfl dX3_passHoursWithGales_3 rfl ?_
      refine r_icmpge F (tgt := 48) dX3_passHoursWithGales_4 (by decide) ?_ ?_
      · skip
        exact r_vret F hA rfl rfl trivial dX3_passHoursWithGales_48
      refine r_aload_n F 0 rfl dX3_passHoursWithGales_7 rfl ?_
      refine r_getO F frX3_44 h_o dX3_passHoursWithGales_8 fun o3 hp_o3 => ?_
      refine r_getI F frX3_91 hp_o3 dX3_passHoursWithGales_11 ?_
      refine Wt_jn (fun (j38 : Hp → Option Hp) => ∀ h4 : Hp, Wm X (fun _ => none) (fun v => v) (fun _ => True) 38 [(0, .ref (adr (xG X) 3 o 0)), (1, .int p1), (2, .int v1)] [] h4 (j38 h4)) ?_ fun j38 hj38 => ?_
      · intro h4
        refine r_aload_n F 0 rfl dX3_passHoursWithGales_38 rfl ?_
        refine k_vH (run_V F cvX3_88 h_o (c_X3_passHour (xG X) _ N h4 o h_o) rfl rfl ⟨⟨rfl, rfl⟩, Nat.le_of_ble_eq_true rfl, Nat.le_of_ble_eq_true rfl⟩ (Nat.le_of_ble_eq_true rfl) dX3_passHoursWithGales_39) fun h5 => ?_
        refine r_iinc F (v := 1) 2 rfl (by decide) (fun v6 => [(2, .int v6), (0, .ref (adr (xG X) 3 o 0)), (1, .int p1)]) (fun _ => rfl) dX3_passHoursWithGales_42 (hS _ (by decide)) fun v6 => ?_
        refine r_goto F (tgt := 2) dX3_passHoursWithGales_45 (by decide) ?_
        exact Wt_pick [1, 2, 0] rfl (ih2 v6 h5)
      refine r_ifle F (tgt := 38) dX3_passHoursWithGales_14 (by decide) ?_ ?_
      · skip
        exact Wt_pick [0, 1, 2] rfl (hj38 h2)
      refine r_aload_n F 0 rfl dX3_passHoursWithGales_17 rfl ?_
      refine k_iH (run_V F cvX3_94 h_o (c_X3_drawNumber (xG X) _ h2 o h_o) rfl rfl ⟨⟨rfl, rfl⟩, Nat.le_of_ble_eq_true rfl, Nat.le_of_ble_eq_true rfl⟩ (Nat.le_of_ble_eq_true rfl) dX3_passHoursWithGales_18) fun v8 h7 => ?_
      refine r_bipush F (v := 100) dX3_passHoursWithGales_21 (by decide) ?_
      refine r_iremc F (by decide) dX3_passHoursWithGales_23 ?_
      refine r_aload_n F 0 rfl dX3_passHoursWithGales_24 rfl ?_
      refine r_getO F frX3_44 h_o dX3_passHoursWithGales_25 fun o9 hp_o9 => ?_
      refine r_getI F frX3_91 hp_o9 dX3_passHoursWithGales_28 ?_
      refine r_icmpge F (tgt := 38) dX3_passHoursWithGales_31 (by decide) ?_ ?_
      · skip
        exact Wt_pick [0, 1, 2] rfl (hj38 h7)
      refine r_aload_n F 0 rfl dX3_passHoursWithGales_34 rfl ?_
      refine k_vH (run_V F cvX3_98 h_o (c_X3_blow (xG X) _ N h7 o h_o) rfl rfl ⟨⟨rfl, rfl⟩, Nat.le_of_ble_eq_true rfl, Nat.le_of_ble_eq_true rfl⟩ (Nat.le_of_ble_eq_true rfl) dX3_passHoursWithGales_35) fun h10 => ?_
      exact Wt_pick [0, 1, 2] rfl (hj38 h10)
  exact Wt_pick [1, 2, 0] rfl (hl2 N 0 h)
theorem c_X3_passHoursWithGales (G : Gx) (l : Launch) (N : Nat) (h : Hp) (o : Nat) (h_o : o < cnt 3) (p1 : Int32) : Ctr G l yX3_passHoursWithGales (.code yX3_passHoursWithGales cX3_passHoursWithGales 3 none :: GT) rmX3_passHoursWithGales [.ref (adr G 3 o 0), .int p1] h (f_X3_passHoursWithGales N h o p1) (fun _ => none) (fun v => v) (fun _ => True) :=
  ctr_of (by decide) (Nat.le_of_ble_eq_true rfl) ⟨rfl, rfl⟩ fun X _ e2 hA hL F => by subst e2; exact w_X3_passHoursWithGales X F hA hL N h o h_o p1
def f_X3_liesOnLots_4 (h : Hp) (o : Nat) (p1 : Int32) (r4 : Int32 → Int32 → Option Int32) (v1 : Int32) (v2 : Int32) : Option Int32 :=
  onO (gO h 3 o 10) fun o3 =>
  if (gI h 5 o3 11) ≤ v2 then
    some v1
  else
  grd (inb v2 8) <|
  jn (fun (v4 : Int32) =>
    lt_ (v2 + 1) fun v5 =>
    r4 v4 v5) fun (j34 : Int32 → Option Int32) =>
  if ¬ (gA h 3 o 1 v2.toNatClampNeg) = p1 then
    j34 v1
  else
  grd (inb v2 8) <|
  lt_ ((v1 + (gA h 3 o 0 v2.toNatClampNeg))) fun v6 =>
  j34 v6
def f_X3_liesOnLots (N : Nat) (h : Hp) (o : Nat) (p1 : Int32) : Option Int32 :=
  iter (fun _ _ => none) (f_X3_liesOnLots_4 h o p1) N 0 0
abbrev rmX3_liesOnLots : Room := { frames := 0, cells := 0, slots := 0, locals := 0 }
set_option maxRecDepth 100000 in
set_option maxHeartbeats 4000000 in
theorem w_X3_liesOnLots (X : Cx) (F : Fx X cX3_liesOnLots RX3 (some .int) rmX3_liesOnLots) (hA : xA X = Aw (xG X)) (hL : xL X = 4) (N : Nat) (h : Hp) (o : Nat) (h_o : o < cnt 3) (p1 : Int32) : Wm X (fun v => some (.int v)) (fun _ => h) (fun _ => True) 0 [(0, .ref (adr (xG X) 3 o 0)), (1, .int p1)] [] h (f_X3_liesOnLots N h o p1) := by
  have hS : ∀ i : Nat, i < 4 → i < xL X := fun i z => by rw [hL]; exact z
  unfold f_X3_liesOnLots
  refine r_iconst F (v := 0) dX3_liesOnLots_0 (by decide) ?_
  refine r_istore_n F [(2, .int 0), (0, .ref (adr (xG X) 3 o 0)), (1, .int p1)] rfl dX3_liesOnLots_1 rfl (hS _ (by decide)) ?_
  refine r_iconst F (v := 0) dX3_liesOnLots_2 (by decide) ?_
  refine r_istore_n F [(3, .int 0), (2, .int 0), (0, .ref (adr (xG X) 3 o 0)), (1, .int p1)] rfl dX3_liesOnLots_3 rfl (hS _ (by decide)) ?_
  have hl4 : ∀ n : Nat, ∀ v1 : Int32, ∀ v2 : Int32, Wm X (fun v => some (.int v)) (fun _ => h) (fun _ => True) 4 [(0, .ref (adr (xG X) 3 o 0)), (1, .int p1), (2, .int v1), (3, .int v2)] [] h (iter (fun _ _ => none) (f_X3_liesOnLots_4 h o p1) n v1 v2) := by
    intro n
    induction n with
    | zero => intro v1 v2; exact Wt_none
    | succ n ih =>
      revert ih
      show (∀ v1 : Int32, ∀ v2 : Int32, Wm X (fun v => some (.int v)) (fun _ => h) (fun _ => True) 4 [(0, .ref (adr (xG X) 3 o 0)), (1, .int p1), (2, .int v1), (3, .int v2)] [] h (iter (fun _ _ => none) (f_X3_liesOnLots_4 h o p1) n v1 v2)) → _
      intro ih4 v1 v2
      show Wm X (fun v => some (.int v)) (fun _ => h) (fun _ => True) 4 [(0, .ref (adr (xG X) 3 o 0)), (1, .int p1), (2, .int v1), (3, .int v2)] [] h (f_X3_liesOnLots_4 h o p1 (iter (fun _ _ => none) (f_X3_liesOnLots_4 h o p1) n) v1 v2)
      revert ih4
      generalize iter (fun _ _ => none) (f_X3_liesOnLots_4 h o p1) n = r4
      intro ih4
      unfold f_X3_liesOnLots_4
      refine r_iload_n F 3 rfl dX3_liesOnLots_4 rfl ?_
      refine r_aload_n F 0 rfl dX3_liesOnLots_5 rfl ?_
      refine r_getO F frX3_44 h_o dX3_liesOnLots_6 fun o3 hp_o3 => ?_
      refine r_getI F frX3_108 hp_o3 dX3_liesOnLots_9 ?_
      refine r_icmpge F (tgt := 40) dX3_liesOnLots_12 (by decide) ?_ ?_
      · skip
        refine r_iload_n F 2 rfl dX3_liesOnLots_40 rfl ?_
        exact r_iret F hA rfl rfl trivial dX3_liesOnLots_41
      refine r_aload_n F 0 rfl dX3_liesOnLots_15 rfl ?_
      refine r_getA F frX3_17 h_o dX3_liesOnLots_16 ?_
      refine r_iload_n F 3 rfl dX3_liesOnLots_19 rfl ?_
      refine r_iaload F (ar_3_1 o h_o) dX3_liesOnLots_20 ?_
      refine r_iload_n F 1 rfl dX3_liesOnLots_21 rfl ?_
      refine Wt_jn (fun (j34 : Int32 → Option Int32) => ∀ v4 : Int32, Wm X (fun v => some (.int v)) (fun _ => h) (fun _ => True) 34 [(0, .ref (adr (xG X) 3 o 0)), (1, .int p1), (2, .int v4), (3, .int v2)] [] h (j34 v4)) ?_ fun j34 hj34 => ?_
      · intro v4
        refine r_iinc F (v := 1) 3 rfl (by decide) (fun v5 => [(3, .int v5), (0, .ref (adr (xG X) 3 o 0)), (1, .int p1), (2, .int v4)]) (fun _ => rfl) dX3_liesOnLots_34 (hS _ (by decide)) fun v5 => ?_
        refine r_goto F (tgt := 4) dX3_liesOnLots_37 (by decide) ?_
        exact Wt_pick [1, 2, 3, 0] rfl (ih4 v4 v5)
      refine r_icmpne F (tgt := 34) dX3_liesOnLots_22 (by decide) ?_ ?_
      · skip
        exact Wt_pick [0, 1, 2, 3] rfl (hj34 v1)
      refine r_iload_n F 2 rfl dX3_liesOnLots_25 rfl ?_
      refine r_aload_n F 0 rfl dX3_liesOnLots_26 rfl ?_
      refine r_getA F frX3_11 h_o dX3_liesOnLots_27 ?_
      refine r_iload_n F 3 rfl dX3_liesOnLots_30 rfl ?_
      refine r_iaload F (ar_3_0 o h_o) dX3_liesOnLots_31 ?_
      refine r_iadd F dX3_liesOnLots_32 ?_
      refine r_nmI fun v6 => ?_
      refine r_istore_n F [(2, .int v6), (0, .ref (adr (xG X) 3 o 0)), (1, .int p1), (3, .int v2)] rfl dX3_liesOnLots_33 rfl (hS _ (by decide)) ?_
      exact Wt_pick [1, 2, 0, 3] rfl (hj34 v6)
  exact Wt_pick [2, 3, 1, 0] rfl (hl4 N 0 0)
theorem c_X3_liesOnLots (G : Gx) (l : Launch) (N : Nat) (h : Hp) (o : Nat) (h_o : o < cnt 3) (p1 : Int32) : Ctr G l yX3_liesOnLots (.code yX3_liesOnLots cX3_liesOnLots 4 (some .int) :: GT) rmX3_liesOnLots [.ref (adr G 3 o 0), .int p1] h (f_X3_liesOnLots N h o p1) (fun v => some (.int v)) (fun _ => h) (fun _ => True) :=
  ctr_of (by decide) (Nat.le_of_ble_eq_true rfl) ⟨rfl, rfl⟩ fun X _ e2 hA hL F => by subst e2; exact w_X3_liesOnLots X F hA hL N h o h_o p1
def f_X7_spread_11 (h : Hp) (p0c : Nat) (p0o : Nat) (p0a : Nat) (p1 : Int32) (r11 : Int32 → Int32 → Int32 → Option Int32) (v1 : Int32) (v2 : Int32) (v3 : Int32) : Option Int32 :=
  jn (
    jn (fun (v4 : Int32) =>
      some v4) fun (j59 : Int32 → Option Int32) =>
    if p1 ≤ 0 then
      j59 0
    else
    j59 (v2 - v1)) fun (j48 : Option Int32) =>
  if p1 ≤ v3 then
    j48
  else
  if (Int32.ofNat (ak p0c p0a).2) ≤ v3 then
    j48
  else
  grd (inb v3 (ak p0c p0a).2) <|
  lt_ ((if (gA h p0c p0o p0a v3.toNatClampNeg) < v1 then (gA h p0c p0o p0a v3.toNatClampNeg) else v1)) fun v5 =>
  grd (inb v3 (ak p0c p0a).2) <|
  lt_ ((if v2 < (gA h p0c p0o p0a v3.toNatClampNeg) then (gA h p0c p0o p0a v3.toNatClampNeg) else v2)) fun v6 =>
  lt_ (v3 + 1) fun v7 =>
  r11 v5 v6 v7
def f_X7_spread (N : Nat) (h : Hp) (p0c p0o p0a : Nat) (p1 : Int32) : Option Int32 :=
  iter (fun _ _ _ => none) (f_X7_spread_11 h p0c p0o p0a p1) N 2147483647 (-2147483648) 0
abbrev rmX7_spread : Room := { frames := 1, cells := 0, slots := 0, locals := 21 }
set_option maxRecDepth 100000 in
set_option maxHeartbeats 4000000 in
theorem w_X7_spread (X : Cx) (F : Fx X cX7_spread RX7 (some .int) rmX7_spread) (hA : xA X = Aw (xG X)) (hL : xL X = 5) (N : Nat) (h : Hp) (p0c p0o p0a : Nat) (h_p0 : AR p0c p0o p0a 0 (ak p0c p0a).2) (p1 : Int32) : Wm X (fun v => some (.int v)) (fun _ => h) (fun _ => True) 0 [(0, .ref (adr (xG X) p0c p0o (p0a + 1))), (1, .int p1)] [] h (f_X7_spread N h p0c p0o p0a p1) := by
  have hS : ∀ i : Nat, i < 5 → i < xL X := fun i z => by rw [hL]; exact z
  unfold f_X7_spread
  refine r_ldcw F wd_865 dX7_spread_0 ?_
  refine r_istore_n F [(2, .int 2147483647), (0, .ref (adr (xG X) p0c p0o (p0a + 1))), (1, .int p1)] rfl dX7_spread_3 rfl (hS _ (by decide)) ?_
  refine r_ldcw F wd_866 dX7_spread_4 ?_
  refine r_istore_n F [(3, .int (-2147483648)), (2, .int 2147483647), (0, .ref (adr (xG X) p0c p0o (p0a + 1))), (1, .int p1)] rfl dX7_spread_7 rfl (hS _ (by decide)) ?_
  refine r_iconst F (v := 0) dX7_spread_8 (by decide) ?_
  refine r_istore F [(4, .int 0), (3, .int (-2147483648)), (2, .int 2147483647), (0, .ref (adr (xG X) p0c p0o (p0a + 1))), (1, .int p1)] rfl dX7_spread_9 (hS _ (by decide)) ?_
  have hl11 : ∀ n : Nat, ∀ v1 : Int32, ∀ v2 : Int32, ∀ v3 : Int32, Wm X (fun v => some (.int v)) (fun _ => h) (fun _ => True) 11 [(0, .ref (adr (xG X) p0c p0o (p0a + 1))), (1, .int p1), (2, .int v1), (3, .int v2), (4, .int v3)] [] h (iter (fun _ _ _ => none) (f_X7_spread_11 h p0c p0o p0a p1) n v1 v2 v3) := by
    intro n
    induction n with
    | zero => intro v1 v2 v3; exact Wt_none
    | succ n ih =>
      revert ih
      show (∀ v1 : Int32, ∀ v2 : Int32, ∀ v3 : Int32, Wm X (fun v => some (.int v)) (fun _ => h) (fun _ => True) 11 [(0, .ref (adr (xG X) p0c p0o (p0a + 1))), (1, .int p1), (2, .int v1), (3, .int v2), (4, .int v3)] [] h (iter (fun _ _ _ => none) (f_X7_spread_11 h p0c p0o p0a p1) n v1 v2 v3)) → _
      intro ih11 v1 v2 v3
      show Wm X (fun v => some (.int v)) (fun _ => h) (fun _ => True) 11 [(0, .ref (adr (xG X) p0c p0o (p0a + 1))), (1, .int p1), (2, .int v1), (3, .int v2), (4, .int v3)] [] h (f_X7_spread_11 h p0c p0o p0a p1 (iter (fun _ _ _ => none) (f_X7_spread_11 h p0c p0o p0a p1) n) v1 v2 v3)
      revert ih11
      generalize iter (fun _ _ _ => none) (f_X7_spread_11 h p0c p0o p0a p1) n = r11
      intro ih11
      unfold f_X7_spread_11
      refine r_iload F 4 rfl dX7_spread_11 ?_
      refine r_iload_n F 1 rfl dX7_spread_13 rfl ?_
      refine Wt_jn (fun (j48 : Option Int32) => Wm X (fun v => some (.int v)) (fun _ => h) (fun _ => True) 48 [(1, .int p1), (2, .int v1), (3, .int v2)] [] h (j48)) ?_ fun j48 hj48 => ?_
      · skip
        refine r_iload_n F 0 rfl dX7_spread_48 rfl ?_
        refine Wt_jn (fun (j59 : Int32 → Option Int32) => ∀ v4 : Int32, Wm X (fun v => some (.int v)) (fun _ => h) (fun _ => True) 59 [] [.int v4] h (j59 v4)) ?_ fun j59 hj59 => ?_
        · intro v4
          exact r_iret F hA rfl rfl trivial dX7_spread_59
        refine r_ifle F (tgt := 58) dX7_spread_49 (by decide) ?_ ?_
        · skip
          refine r_iconst F (v := 0) dX7_spread_58 (by decide) ?_
          exact Wt_pick [] rfl (hj59 0)
        refine r_iload_n F 2 rfl dX7_spread_52 rfl ?_
        refine r_iload_n F 1 rfl dX7_spread_53 rfl ?_
        refine r_isub F dX7_spread_54 ?_
        refine r_goto F (tgt := 59) dX7_spread_55 (by decide) ?_
        exact Wt_pick [] rfl (hj59 (v2 - v1))
      refine r_icmpge F (tgt := 48) dX7_spread_14 (by decide) ?_ ?_
      · skip
        exact Wt_pick [1, 2, 3] rfl (hj48)
      refine r_iload F 4 rfl dX7_spread_17 ?_
      refine r_aload_n F 0 rfl dX7_spread_19 rfl ?_
      refine r_alen0 F h_p0 rfl dX7_spread_20 ?_
      refine r_icmpge F (tgt := 48) dX7_spread_21 (by decide) ?_ ?_
      · skip
        exact Wt_pick [1, 2, 3] rfl (hj48)
      refine r_iload_n F 2 rfl dX7_spread_24 rfl ?_
      refine r_aload_n F 0 rfl dX7_spread_25 rfl ?_
      refine r_iload F 4 rfl dX7_spread_26 ?_
      refine r_iaload F h_p0 dX7_spread_28 ?_
      refine r_min F wd_867 ws_min ⟨Nat.le_of_ble_eq_true rfl, Nat.le_of_ble_eq_true rfl⟩ dX7_spread_29 ?_
      refine r_nmI fun v5 => ?_
      refine r_istore_n F [(2, .int v5), (0, .ref (adr (xG X) p0c p0o (p0a + 1))), (1, .int p1), (3, .int v2), (4, .int v3)] rfl dX7_spread_32 rfl (hS _ (by decide)) ?_
      refine r_iload_n F 3 rfl dX7_spread_33 rfl ?_
      refine r_aload_n F 1 rfl dX7_spread_34 rfl ?_
      refine r_iload F 4 rfl dX7_spread_35 ?_
      refine r_iaload F h_p0 dX7_spread_37 ?_
      refine r_max F wd_868 ws_max ⟨Nat.le_of_ble_eq_true rfl, Nat.le_of_ble_eq_true rfl⟩ dX7_spread_38 ?_
      refine r_nmI fun v6 => ?_
      refine r_istore_n F [(3, .int v6), (2, .int v5), (0, .ref (adr (xG X) p0c p0o (p0a + 1))), (1, .int p1), (4, .int v3)] rfl dX7_spread_41 rfl (hS _ (by decide)) ?_
      refine r_iinc F (v := 1) 4 rfl (by decide) (fun v7 => [(4, .int v7), (3, .int v6), (2, .int v5), (0, .ref (adr (xG X) p0c p0o (p0a + 1))), (1, .int p1)]) (fun _ => rfl) dX7_spread_42 (hS _ (by decide)) fun v7 => ?_
      refine r_goto F (tgt := 11) dX7_spread_45 (by decide) ?_
      exact Wt_pick [3, 4, 2, 1, 0] rfl (ih11 v5 v6 v7)
  exact Wt_pick [3, 4, 2, 1, 0] rfl (hl11 N 2147483647 (-2147483648) 0)
theorem c_X7_spread (G : Gx) (l : Launch) (N : Nat) (h : Hp) (p0c p0o p0a : Nat) (h_p0 : AR p0c p0o p0a 0 (ak p0c p0a).2) (p1 : Int32) : Ctr G l yX7_spread (.code yX7_spread cX7_spread 5 (some .int) :: GT) rmX7_spread [.ref (adr G p0c p0o (p0a + 1)), .int p1] h (f_X7_spread N h p0c p0o p0a p1) (fun v => some (.int v)) (fun _ => h) (fun _ => True) :=
  ctr_of (by decide) (Nat.le_of_ble_eq_true rfl) ⟨rfl, rfl⟩ fun X _ e2 hA hL F => by subst e2; exact w_X7_spread X F hA hL N h p0c p0o p0a h_p0 p1
def f_X3_unlikeLots_2 (N : Nat) (o : Nat) (r2 : Int32 → Hp → Option (Int32 × Hp)) (v1 : Int32) (h2 : Hp) : Option (Int32 × Hp) :=
  onO (gO h2 3 o 10) fun o3 =>
  if (gI h2 5 o3 12) ≤ v1 then
    onO (gO h2 3 o 10) fun o4 =>
    (f_X7_spread N h2 3 o 8 (gI h2 5 o4 12)).bind fun v5 =>
    some (v5, h2)
  else
  (f_X3_liesOnLots N h2 o v1).bind fun v6 =>
  grd (inb v1 4) <| lt_ (sA h2 3 o 8 v1.toNatClampNeg v6) fun h7 =>
  lt_ (v1 + 1) fun v8 =>
  r2 v8 h7
def f_X3_unlikeLots (N : Nat) (h : Hp) (o : Nat) : Option (Int32 × Hp) :=
  iter (fun _ _ => none) (f_X3_unlikeLots_2 N o) N 0 h
abbrev rmX3_unlikeLots : Room := { frames := 2, cells := 0, slots := 0, locals := 45 }
set_option maxRecDepth 100000 in
set_option maxHeartbeats 4000000 in
theorem w_X3_unlikeLots (X : Cx) (F : Fx X cX3_unlikeLots RX3 (some .int) rmX3_unlikeLots) (hA : xA X = Aw (xG X)) (hL : xL X = 2) (N : Nat) (h : Hp) (o : Nat) (h_o : o < cnt 3) : Wm X (fun v => some (.int v.1)) (fun v => v.2) (fun _ => True) 0 [(0, .ref (adr (xG X) 3 o 0))] [] h (f_X3_unlikeLots N h o) := by
  have hS : ∀ i : Nat, i < 2 → i < xL X := fun i z => by rw [hL]; exact z
  unfold f_X3_unlikeLots
  refine r_iconst F (v := 0) dX3_unlikeLots_0 (by decide) ?_
  refine r_istore_n F [(1, .int 0), (0, .ref (adr (xG X) 3 o 0))] rfl dX3_unlikeLots_1 rfl (hS _ (by decide)) ?_
  have hl2 : ∀ n : Nat, ∀ v1 : Int32, ∀ h2 : Hp, Wm X (fun v => some (.int v.1)) (fun v => v.2) (fun _ => True) 2 [(0, .ref (adr (xG X) 3 o 0)), (1, .int v1)] [] h2 (iter (fun _ _ => none) (f_X3_unlikeLots_2 N o) n v1 h2) := by
    intro n
    induction n with
    | zero => intro v1 h2; exact Wt_none
    | succ n ih =>
      revert ih
      show (∀ v1 : Int32, ∀ h2 : Hp, Wm X (fun v => some (.int v.1)) (fun v => v.2) (fun _ => True) 2 [(0, .ref (adr (xG X) 3 o 0)), (1, .int v1)] [] h2 (iter (fun _ _ => none) (f_X3_unlikeLots_2 N o) n v1 h2)) → _
      intro ih2 v1 h2
      show Wm X (fun v => some (.int v.1)) (fun v => v.2) (fun _ => True) 2 [(0, .ref (adr (xG X) 3 o 0)), (1, .int v1)] [] h2 (f_X3_unlikeLots_2 N o (iter (fun _ _ => none) (f_X3_unlikeLots_2 N o) n) v1 h2)
      revert ih2
      generalize iter (fun _ _ => none) (f_X3_unlikeLots_2 N o) n = r2
      intro ih2
      unfold f_X3_unlikeLots_2
      refine r_iload_n F 1 rfl dX3_unlikeLots_2 rfl ?_
      refine r_aload_n F 0 rfl dX3_unlikeLots_3 rfl ?_
      refine r_getO F frX3_44 h_o dX3_unlikeLots_4 fun o3 hp_o3 => ?_
      refine r_getI F frX3_76 hp_o3 dX3_unlikeLots_7 ?_
      refine r_icmpge F (tgt := 30) dX3_unlikeLots_10 (by decide) ?_ ?_
      · skip
        refine r_aload_n F 0 rfl dX3_unlikeLots_30 rfl ?_
        refine r_getA F frX3_38 h_o dX3_unlikeLots_31 ?_
        refine r_aload_n F 0 rfl dX3_unlikeLots_34 rfl ?_
        refine r_getO F frX3_44 h_o dX3_unlikeLots_35 fun o4 hp_o4 => ?_
        refine r_getI F frX3_76 hp_o4 dX3_unlikeLots_38 ?_
        refine k_iP (run_SN F cnX3_193 (c_X7_spread (xG X) _ N h2 3 o 8 (ar_3_8 o h_o) (gI h2 5 o4 12)) rfl rfl ⟨⟨rfl, rfl⟩, Nat.le_of_ble_eq_true rfl, Nat.le_of_ble_eq_true rfl⟩ (Nat.le_of_ble_eq_true rfl) dX3_unlikeLots_41) fun v5 _ => ?_
        exact r_iret F hA rfl rfl trivial dX3_unlikeLots_44
      refine r_aload_n F 0 rfl dX3_unlikeLots_13 rfl ?_
      refine r_getA F frX3_38 h_o dX3_unlikeLots_14 ?_
      refine r_iload_n F 1 rfl dX3_unlikeLots_17 rfl ?_
      refine r_aload_n F 0 rfl dX3_unlikeLots_18 rfl ?_
      refine r_iload_n F 1 rfl dX3_unlikeLots_19 rfl ?_
      refine k_iP (run_V F cvX3_190 h_o (c_X3_liesOnLots (xG X) _ N h2 o h_o v1) rfl rfl ⟨⟨rfl, rfl⟩, Nat.le_of_ble_eq_true rfl, Nat.le_of_ble_eq_true rfl⟩ (Nat.le_of_ble_eq_true rfl) dX3_unlikeLots_20) fun v6 _ => ?_
      refine r_iastore F (ar_3_8 o h_o) dX3_unlikeLots_23 fun h7 => ?_
      refine r_iinc F (v := 1) 1 rfl (by decide) (fun v8 => [(1, .int v8), (0, .ref (adr (xG X) 3 o 0))]) (fun _ => rfl) dX3_unlikeLots_24 (hS _ (by decide)) fun v8 => ?_
      refine r_goto F (tgt := 2) dX3_unlikeLots_27 (by decide) ?_
      exact Wt_pick [1, 0] rfl (ih2 v8 h7)
  exact Wt_pick [1, 0] rfl (hl2 N 0 h)
theorem c_X3_unlikeLots (G : Gx) (l : Launch) (N : Nat) (h : Hp) (o : Nat) (h_o : o < cnt 3) : Ctr G l yX3_unlikeLots (.code yX3_unlikeLots cX3_unlikeLots 2 (some .int) :: GT) rmX3_unlikeLots [.ref (adr G 3 o 0)] h (f_X3_unlikeLots N h o) (fun v => some (.int v.1)) (fun v => v.2) (fun _ => True) :=
  ctr_of (by decide) (Nat.le_of_ble_eq_true rfl) ⟨rfl, rfl⟩ fun X _ e2 hA hL F => by subst e2; exact w_X3_unlikeLots X F hA hL N h o h_o
def f_X3_moveCart (h : Hp) (o : Nat) (p1 : Int32) (p2 : Int32) : Option Hp :=
  grd (inb p1 4) <|
  grd (inb p1 4) <| lt_ (sA h 3 o 2 p1.toNatClampNeg ((gA h 3 o 2 p1.toNatClampNeg) - 1)) fun h1 =>
  grd (inb p2 4) <|
  grd (inb p2 4) <| lt_ (sA h1 3 o 2 p2.toNatClampNeg ((gA h1 3 o 2 p2.toNatClampNeg) + 1)) fun h2 =>
  some h2
abbrev rmX3_moveCart : Room := { frames := 0, cells := 0, slots := 0, locals := 0 }
set_option maxRecDepth 100000 in
set_option maxHeartbeats 4000000 in
theorem w_X3_moveCart (X : Cx) (F : Fx X cX3_moveCart RX3 none rmX3_moveCart) (hA : xA X = Aw (xG X)) (hL : xL X = 3) (h : Hp) (o : Nat) (h_o : o < cnt 3) (p1 : Int32) (p2 : Int32) : Wm X (fun _ => none) (fun v => v) (fun _ => True) 0 [(0, .ref (adr (xG X) 3 o 0)), (1, .int p1), (2, .int p2)] [] h (f_X3_moveCart h o p1 p2) := by
  have hS : ∀ i : Nat, i < 3 → i < xL X := fun i z => by rw [hL]; exact z
  unfold f_X3_moveCart
  refine r_aload_n F 0 rfl dX3_moveCart_0 rfl ?_
  refine r_getA F frX3_20 h_o dX3_moveCart_1 ?_
  refine r_iload_n F 1 rfl dX3_moveCart_4 rfl ?_
  refine r_dup2 F rfl rfl dX3_moveCart_5 ?_
  refine r_iaload F (ar_3_2 o h_o) dX3_moveCart_6 ?_
  refine r_iconst F (v := 1) dX3_moveCart_7 (by decide) ?_
  refine r_isub F dX3_moveCart_8 ?_
  refine r_iastore F (ar_3_2 o h_o) dX3_moveCart_9 fun h1 => ?_
  refine r_aload_n F 0 rfl dX3_moveCart_10 rfl ?_
  refine r_getA F frX3_20 h_o dX3_moveCart_11 ?_
  refine r_iload_n F 2 rfl dX3_moveCart_14 rfl ?_
  refine r_dup2 F rfl rfl dX3_moveCart_15 ?_
  refine r_iaload F (ar_3_2 o h_o) dX3_moveCart_16 ?_
  refine r_iconst F (v := 1) dX3_moveCart_17 (by decide) ?_
  refine r_iadd F dX3_moveCart_18 ?_
  refine r_iastore F (ar_3_2 o h_o) dX3_moveCart_19 fun h2 => ?_
  exact r_vret F hA rfl rfl trivial dX3_moveCart_20
theorem c_X3_moveCart (G : Gx) (l : Launch) (h : Hp) (o : Nat) (h_o : o < cnt 3) (p1 : Int32) (p2 : Int32) : Ctr G l yX3_moveCart (.code yX3_moveCart cX3_moveCart 3 none :: GT) rmX3_moveCart [.ref (adr G 3 o 0), .int p1, .int p2] h (f_X3_moveCart h o p1 p2) (fun _ => none) (fun v => v) (fun _ => True) :=
  ctr_of (by decide) (Nat.le_of_ble_eq_true rfl) ⟨rfl, rfl⟩ fun X _ e2 hA hL F => by subst e2; exact w_X3_moveCart X F hA hL h o h_o p1 p2
def f_X3_letForkAlone_2 (o : Nat) (p1 : Int32) (r2 : Int32 → Hp → Option Hp) (v1 : Int32) (h2 : Hp) : Option Hp :=
  onO (gO h2 3 o 10) fun o3 =>
  if (gI h2 5 o3 12) ≤ v1 then
    some h2
  else
  jn (fun (v4 : Int32) =>
    grd (inb v1 4) <| lt_ (sA h2 3 o 5 v1.toNatClampNeg v4) fun h5 =>
    lt_ (v1 + 1) fun v6 =>
    r2 v6 h5) fun (j28 : Int32 → Option Hp) =>
  if ¬ v1 = p1 then
    j28 3
  else
  j28 2
def f_X3_letForkAlone (N : Nat) (h : Hp) (o : Nat) (p1 : Int32) : Option Hp :=
  iter (fun _ _ => none) (f_X3_letForkAlone_2 o p1) N 0 h
abbrev rmX3_letForkAlone : Room := { frames := 0, cells := 0, slots := 0, locals := 0 }
set_option maxRecDepth 100000 in
set_option maxHeartbeats 4000000 in
theorem w_X3_letForkAlone (X : Cx) (F : Fx X cX3_letForkAlone RX3 none rmX3_letForkAlone) (hA : xA X = Aw (xG X)) (hL : xL X = 3) (N : Nat) (h : Hp) (o : Nat) (h_o : o < cnt 3) (p1 : Int32) : Wm X (fun _ => none) (fun v => v) (fun _ => True) 0 [(0, .ref (adr (xG X) 3 o 0)), (1, .int p1)] [] h (f_X3_letForkAlone N h o p1) := by
  have hS : ∀ i : Nat, i < 3 → i < xL X := fun i z => by rw [hL]; exact z
  unfold f_X3_letForkAlone
  refine r_iconst F (v := 0) dX3_letForkAlone_0 (by decide) ?_
  refine r_istore_n F [(2, .int 0), (0, .ref (adr (xG X) 3 o 0)), (1, .int p1)] rfl dX3_letForkAlone_1 rfl (hS _ (by decide)) ?_
  have hl2 : ∀ n : Nat, ∀ v1 : Int32, ∀ h2 : Hp, Wm X (fun _ => none) (fun v => v) (fun _ => True) 2 [(0, .ref (adr (xG X) 3 o 0)), (1, .int p1), (2, .int v1)] [] h2 (iter (fun _ _ => none) (f_X3_letForkAlone_2 o p1) n v1 h2) := by
    intro n
    induction n with
    | zero => intro v1 h2; exact Wt_none
    | succ n ih =>
      revert ih
      show (∀ v1 : Int32, ∀ h2 : Hp, Wm X (fun _ => none) (fun v => v) (fun _ => True) 2 [(0, .ref (adr (xG X) 3 o 0)), (1, .int p1), (2, .int v1)] [] h2 (iter (fun _ _ => none) (f_X3_letForkAlone_2 o p1) n v1 h2)) → _
      intro ih2 v1 h2
      show Wm X (fun _ => none) (fun v => v) (fun _ => True) 2 [(0, .ref (adr (xG X) 3 o 0)), (1, .int p1), (2, .int v1)] [] h2 (f_X3_letForkAlone_2 o p1 (iter (fun _ _ => none) (f_X3_letForkAlone_2 o p1) n) v1 h2)
      revert ih2
      generalize iter (fun _ _ => none) (f_X3_letForkAlone_2 o p1) n = r2
      intro ih2
      unfold f_X3_letForkAlone_2
      refine r_iload_n F 2 rfl dX3_letForkAlone_2 rfl ?_
      refine r_aload_n F 0 rfl dX3_letForkAlone_3 rfl ?_
      refine r_getO F frX3_44 h_o dX3_letForkAlone_4 fun o3 hp_o3 => ?_
      refine r_getI F frX3_76 hp_o3 dX3_letForkAlone_7 ?_
      refine r_icmpge F (tgt := 35) dX3_letForkAlone_10 (by decide) ?_ ?_
      · skip
        exact r_vret F hA rfl rfl trivial dX3_letForkAlone_35
      refine r_aload_n F 0 rfl dX3_letForkAlone_13 rfl ?_
      refine r_getA F frX3_29 h_o dX3_letForkAlone_14 ?_
      refine r_iload_n F 2 rfl dX3_letForkAlone_17 rfl ?_
      refine r_iload_n F 2 rfl dX3_letForkAlone_18 rfl ?_
      refine r_iload_n F 1 rfl dX3_letForkAlone_19 rfl ?_
      refine Wt_jn (fun (j28 : Int32 → Option Hp) => ∀ v4 : Int32, Wm X (fun _ => none) (fun v => v) (fun _ => True) 28 [(0, .ref (adr (xG X) 3 o 0)), (1, .int p1), (2, .int v1)] [.int v4, .int v1, .ref (adr (xG X) 3 o 6)] h2 (j28 v4)) ?_ fun j28 hj28 => ?_
      · intro v4
        refine r_iastore F (ar_3_5 o h_o) dX3_letForkAlone_28 fun h5 => ?_
        refine r_iinc F (v := 1) 2 rfl (by decide) (fun v6 => [(2, .int v6), (0, .ref (adr (xG X) 3 o 0)), (1, .int p1)]) (fun _ => rfl) dX3_letForkAlone_29 (hS _ (by decide)) fun v6 => ?_
        refine r_goto F (tgt := 2) dX3_letForkAlone_32 (by decide) ?_
        exact Wt_pick [1, 2, 0] rfl (ih2 v6 h5)
      refine r_icmpne F (tgt := 27) dX3_letForkAlone_20 (by decide) ?_ ?_
      · skip
        refine r_iconst F (v := 3) dX3_letForkAlone_27 (by decide) ?_
        exact Wt_pick [0, 1, 2] rfl (hj28 3)
      refine r_iconst F (v := 2) dX3_letForkAlone_23 (by decide) ?_
      refine r_goto F (tgt := 28) dX3_letForkAlone_24 (by decide) ?_
      exact Wt_pick [0, 1, 2] rfl (hj28 2)
  exact Wt_pick [1, 2, 0] rfl (hl2 N 0 h)
theorem c_X3_letForkAlone (G : Gx) (l : Launch) (N : Nat) (h : Hp) (o : Nat) (h_o : o < cnt 3) (p1 : Int32) : Ctr G l yX3_letForkAlone (.code yX3_letForkAlone cX3_letForkAlone 3 none :: GT) rmX3_letForkAlone [.ref (adr G 3 o 0), .int p1] h (f_X3_letForkAlone N h o p1) (fun _ => none) (fun v => v) (fun _ => True) :=
  ctr_of (by decide) (Nat.le_of_ble_eq_true rfl) ⟨rfl, rfl⟩ fun X _ e2 hA hL F => by subst e2; exact w_X3_letForkAlone X F hA hL N h o h_o p1
def f_X3_tryOut_40 (o : Nat) (p1 : Int32) (r40 : Int32 → Hp → Option Hp) (v2 : Int32) (h3 : Hp) : Option Hp :=
  onO (gO h3 3 o 10) fun o4 =>
  if (gI h3 5 o4 12) ≤ v2 then
    some h3
  else
  grd (inb v2 4) <|
  jn (fun (v5 : Bool) =>
    grd (inb v2 4) <| lt_ (sA h3 3 o 2 v2.toNatClampNeg ((gA h3 3 o 2 v2.toNatClampNeg) + (b2i v5))) fun h6 =>
    jn (fun (v7 : Int32) =>
      grd (inb v2 4) <| lt_ (sA h6 3 o 3 v2.toNatClampNeg v7) fun h8 =>
      lt_ (v2 + 1) fun v9 =>
      r40 v9 h8) fun (j90 : Int32 → Option Hp) =>
    if ¬ p1 = 3 then
      grd (inb v2 4) <|
      j90 (gA h6 3 o 3 v2.toNatClampNeg)
    else
    j90 0) fun (j68 : Bool → Option Hp) =>
  if ¬ p1 = 2 then
    j68 false
  else
  j68 true
def f_X3_tryOut (N : Nat) (h : Hp) (o : Nat) (p1 : Int32) (p2 : Int32) : Option Hp :=
  jn (fun (h1 : Hp) =>
    iter (fun _ _ => none) (f_X3_tryOut_40 o p1) N 0 h1) fun (j38 : Hp → Option Hp) =>
  if ¬ p1 = 0 then
    if ¬ p1 = 1 then
      if ¬ p1 = 4 then
        j38 h
      else
      lt_ (sI h 3 o 12 0) fun h10 =>
      j38 h10
    else
    grd (inb p2 4) <| lt_ (sA h 3 o 4 p2.toNatClampNeg 2147483647) fun h11 =>
    j38 h11
  else
  lt_ (sZ h 3 o 16 false) fun h12 =>
  j38 h12
abbrev rmX3_tryOut : Room := { frames := 0, cells := 0, slots := 0, locals := 0 }
set_option maxRecDepth 100000 in
set_option maxHeartbeats 4000000 in
theorem w_X3_tryOut (X : Cx) (F : Fx X cX3_tryOut RX3 none rmX3_tryOut) (hA : xA X = Aw (xG X)) (hL : xL X = 4) (N : Nat) (h : Hp) (o : Nat) (h_o : o < cnt 3) (p1 : Int32) (p2 : Int32) : Wm X (fun _ => none) (fun v => v) (fun _ => True) 0 [(0, .ref (adr (xG X) 3 o 0)), (1, .int p1), (2, .int p2)] [] h (f_X3_tryOut N h o p1 p2) := by
  have hS : ∀ i : Nat, i < 4 → i < xL X := fun i z => by rw [hL]; exact z
  unfold f_X3_tryOut
  refine r_iload_n F 1 rfl dX3_tryOut_0 rfl ?_
  refine Wt_jn (fun (j38 : Hp → Option Hp) => ∀ h1 : Hp, Wm X (fun _ => none) (fun v => v) (fun _ => True) 38 [(0, .ref (adr (xG X) 3 o 0)), (1, .int p1)] [] h1 (j38 h1)) ?_ fun j38 hj38 => ?_
  · intro h1
    refine r_iconst F (v := 0) dX3_tryOut_38 (by decide) ?_
    refine r_istore_n F [(3, .int 0), (0, .ref (adr (xG X) 3 o 0)), (1, .int p1)] rfl dX3_tryOut_39 rfl (hS _ (by decide)) ?_
    have hl40 : ∀ n : Nat, ∀ v2 : Int32, ∀ h3 : Hp, Wm X (fun _ => none) (fun v => v) (fun _ => True) 40 [(0, .ref (adr (xG X) 3 o 0)), (1, .int p1), (3, .int v2)] [] h3 (iter (fun _ _ => none) (f_X3_tryOut_40 o p1) n v2 h3) := by
      intro n
      induction n with
      | zero => intro v2 h3; exact Wt_none
      | succ n ih =>
        revert ih
        show (∀ v2 : Int32, ∀ h3 : Hp, Wm X (fun _ => none) (fun v => v) (fun _ => True) 40 [(0, .ref (adr (xG X) 3 o 0)), (1, .int p1), (3, .int v2)] [] h3 (iter (fun _ _ => none) (f_X3_tryOut_40 o p1) n v2 h3)) → _
        intro ih40 v2 h3
        show Wm X (fun _ => none) (fun v => v) (fun _ => True) 40 [(0, .ref (adr (xG X) 3 o 0)), (1, .int p1), (3, .int v2)] [] h3 (f_X3_tryOut_40 o p1 (iter (fun _ _ => none) (f_X3_tryOut_40 o p1) n) v2 h3)
        revert ih40
        generalize iter (fun _ _ => none) (f_X3_tryOut_40 o p1) n = r40
        intro ih40
        unfold f_X3_tryOut_40
        refine r_iload_n F 2 rfl dX3_tryOut_40 rfl ?_
        refine r_aload_n F 0 rfl dX3_tryOut_41 rfl ?_
        refine r_getO F frX3_44 h_o dX3_tryOut_42 fun o4 hp_o4 => ?_
        refine r_getI F frX3_76 hp_o4 dX3_tryOut_45 ?_
        refine r_icmpge F (tgt := 97) dX3_tryOut_48 (by decide) ?_ ?_
        · skip
          exact r_vret F hA rfl rfl trivial dX3_tryOut_97
        refine r_aload_n F 0 rfl dX3_tryOut_51 rfl ?_
        refine r_getA F frX3_20 h_o dX3_tryOut_52 ?_
        refine r_iload_n F 2 rfl dX3_tryOut_55 rfl ?_
        refine r_dup2 F rfl rfl dX3_tryOut_56 ?_
        refine r_iaload F (ar_3_2 o h_o) dX3_tryOut_57 ?_
        refine r_iload_n F 1 rfl dX3_tryOut_58 rfl ?_
        refine r_iconst F (v := 2) dX3_tryOut_59 (by decide) ?_
        refine Wt_jn (fun (j68 : Bool → Option Hp) => ∀ v5 : Bool, Wm X (fun _ => none) (fun v => v) (fun _ => True) 68 [(0, .ref (adr (xG X) 3 o 0)), (1, .int p1), (3, .int v2)] [.int (b2i v5), .int (gA h3 3 o 2 v2.toNatClampNeg), .int v2, .ref (adr (xG X) 3 o 3)] h3 (j68 v5)) ?_ fun j68 hj68 => ?_
        · intro v5
          refine r_iadd F dX3_tryOut_68 ?_
          refine r_iastore F (ar_3_2 o h_o) dX3_tryOut_69 fun h6 => ?_
          refine r_aload_n F 0 rfl dX3_tryOut_70 rfl ?_
          refine r_getA F frX3_23 h_o dX3_tryOut_71 ?_
          refine r_iload_n F 2 rfl dX3_tryOut_74 rfl ?_
          refine r_iload_n F 1 rfl dX3_tryOut_75 rfl ?_
          refine r_iconst F (v := 3) dX3_tryOut_76 (by decide) ?_
          refine Wt_jn (fun (j90 : Int32 → Option Hp) => ∀ v7 : Int32, Wm X (fun _ => none) (fun v => v) (fun _ => True) 90 [(0, .ref (adr (xG X) 3 o 0)), (1, .int p1), (3, .int v2)] [.int v7, .int v2, .ref (adr (xG X) 3 o 4)] h6 (j90 v7)) ?_ fun j90 hj90 => ?_
          · intro v7
            refine r_iastore F (ar_3_3 o h_o) dX3_tryOut_90 fun h8 => ?_
            refine r_iinc F (v := 1) 2 rfl (by decide) (fun v9 => [(3, .int v9), (0, .ref (adr (xG X) 3 o 0)), (1, .int p1)]) (fun _ => rfl) dX3_tryOut_91 (hS _ (by decide)) fun v9 => ?_
            refine r_goto F (tgt := 40) dX3_tryOut_94 (by decide) ?_
            exact Wt_pick [1, 2, 0] rfl (ih40 v9 h8)
          refine r_icmpne F (tgt := 84) dX3_tryOut_77 (by decide) ?_ ?_
          · skip
            refine r_aload_n F 0 rfl dX3_tryOut_84 rfl ?_
            refine r_getA F frX3_23 h_o dX3_tryOut_85 ?_
            refine r_iload_n F 2 rfl dX3_tryOut_88 rfl ?_
            refine r_iaload F (ar_3_3 o h_o) dX3_tryOut_89 ?_
            exact Wt_pick [0, 1, 2] rfl (hj90 (gA h6 3 o 3 v2.toNatClampNeg))
          refine r_iconst F (v := 0) dX3_tryOut_80 (by decide) ?_
          refine r_goto F (tgt := 90) dX3_tryOut_81 (by decide) ?_
          exact Wt_pick [0, 1, 2] rfl (hj90 0)
        refine r_icmpne F (tgt := 67) dX3_tryOut_60 (by decide) ?_ ?_
        · skip
          refine r_iconst F (v := 0) dX3_tryOut_67 (by decide) ?_
          exact Wt_pick [0, 1, 2] rfl (hj68 false)
        refine r_iconst F (v := 1) dX3_tryOut_63 (by decide) ?_
        refine r_goto F (tgt := 68) dX3_tryOut_64 (by decide) ?_
        exact Wt_pick [0, 1, 2] rfl (hj68 true)
    exact Wt_pick [1, 2, 0] rfl (hl40 N 0 h1)
  refine r_ifne F (tgt := 12) dX3_tryOut_1 (by decide) ?_ ?_
  · skip
    refine r_iload_n F 1 rfl dX3_tryOut_12 rfl ?_
    refine r_iconst F (v := 1) dX3_tryOut_13 (by decide) ?_
    refine r_icmpne F (tgt := 28) dX3_tryOut_14 (by decide) ?_ ?_
    · skip
      refine r_iload_n F 1 rfl dX3_tryOut_28 rfl ?_
      refine r_iconst F (v := 4) dX3_tryOut_29 (by decide) ?_
      refine r_icmpne F (tgt := 38) dX3_tryOut_30 (by decide) ?_ ?_
      · skip
        exact Wt_pick [0, 1] rfl (hj38 h)
      refine r_aload_n F 0 rfl dX3_tryOut_33 rfl ?_
      refine r_iconst F (v := 0) dX3_tryOut_34 (by decide) ?_
      refine r_putI F frX3_61 h_o rfl rfl dX3_tryOut_35 fun h10 => ?_
      exact Wt_pick [0, 1] rfl (hj38 h10)
    refine r_aload_n F 0 rfl dX3_tryOut_17 rfl ?_
    refine r_getA F frX3_26 h_o dX3_tryOut_18 ?_
    refine r_iload_n F 2 rfl dX3_tryOut_21 rfl ?_
    refine r_ldc F wd_965 dX3_tryOut_22 ?_
    refine r_iastore F (ar_3_4 o h_o) dX3_tryOut_24 fun h11 => ?_
    refine r_goto F (tgt := 38) dX3_tryOut_25 (by decide) ?_
    exact Wt_pick [0, 1] rfl (hj38 h11)
  refine r_aload_n F 0 rfl dX3_tryOut_4 rfl ?_
  refine r_iconst F (v := 0) dX3_tryOut_5 (by decide) ?_
  refine r_putZ F false rfl frX3_48 h_o rfl rfl dX3_tryOut_6 fun h12 => ?_
  refine r_goto F (tgt := 38) dX3_tryOut_9 (by decide) ?_
  exact Wt_pick [0, 1] rfl (hj38 h12)
theorem c_X3_tryOut (G : Gx) (l : Launch) (N : Nat) (h : Hp) (o : Nat) (h_o : o < cnt 3) (p1 : Int32) (p2 : Int32) : Ctr G l yX3_tryOut (.code yX3_tryOut cX3_tryOut 4 none :: GT) rmX3_tryOut [.ref (adr G 3 o 0), .int p1, .int p2] h (f_X3_tryOut N h o p1 p2) (fun _ => none) (fun v => v) (fun _ => True) :=
  ctr_of (by decide) (Nat.le_of_ble_eq_true rfl) ⟨rfl, rfl⟩ fun X _ e2 hA hL F => by subst e2; exact w_X3_tryOut X F hA hL N h o h_o p1 p2
def f_X3_allGot (N : Nat) (h : Hp) (o : Nat) : Option Int32 :=
  onO (gO h 3 o 10) fun o1 =>
  (f_X3_sum N h 3 o 9 (gI h 5 o1 13)).bind fun v2 =>
  some v2
abbrev rmX3_allGot : Room := { frames := 1, cells := 0, slots := 0, locals := 23 }
set_option maxRecDepth 100000 in
set_option maxHeartbeats 4000000 in
theorem w_X3_allGot (X : Cx) (F : Fx X cX3_allGot RX3 (some .int) rmX3_allGot) (hA : xA X = Aw (xG X)) (hL : xL X = 1) (N : Nat) (h : Hp) (o : Nat) (h_o : o < cnt 3) : Wm X (fun v => some (.int v)) (fun _ => h) (fun _ => True) 0 [(0, .ref (adr (xG X) 3 o 0))] [] h (f_X3_allGot N h o) := by
  have hS : ∀ i : Nat, i < 1 → i < xL X := fun i z => by rw [hL]; exact z
  unfold f_X3_allGot
  refine r_aload_n F 0 rfl dX3_allGot_0 rfl ?_
  refine r_getA F frX3_41 h_o dX3_allGot_1 ?_
  refine r_aload_n F 0 rfl dX3_allGot_4 rfl ?_
  refine r_getO F frX3_44 h_o dX3_allGot_5 fun o1 hp_o1 => ?_
  refine r_getI F frX3_144 hp_o1 dX3_allGot_8 ?_
  refine k_iP (run_S F csX3_198 (c_X3_sum (xG X) _ N h 3 o 9 (ar_3_9 o h_o) (gI h 5 o1 13)) rfl rfl ⟨⟨rfl, rfl⟩, Nat.le_of_ble_eq_true rfl, Nat.le_of_ble_eq_true rfl⟩ (Nat.le_of_ble_eq_true rfl) dX3_allGot_11) fun v2 _ => ?_
  exact r_iret F hA rfl rfl trivial dX3_allGot_14
theorem c_X3_allGot (G : Gx) (l : Launch) (N : Nat) (h : Hp) (o : Nat) (h_o : o < cnt 3) : Ctr G l yX3_allGot (.code yX3_allGot cX3_allGot 1 (some .int) :: GT) rmX3_allGot [.ref (adr G 3 o 0)] h (f_X3_allGot N h o) (fun v => some (.int v)) (fun _ => h) (fun _ => True) :=
  ctr_of (by decide) (Nat.le_of_ble_eq_true rfl) ⟨rfl, rfl⟩ fun X _ e2 hA hL F => by subst e2; exact w_X3_allGot X F hA hL N h o h_o
def f_X3_allGains (N : Nat) (h : Hp) (o : Nat) : Option Int32 :=
  onO (gO h 3 o 10) fun o1 =>
  (f_X3_sum N h 3 o 6 (gI h 5 o1 12)).bind fun v2 =>
  some v2
abbrev rmX3_allGains : Room := { frames := 1, cells := 0, slots := 0, locals := 23 }
set_option maxRecDepth 100000 in
set_option maxHeartbeats 4000000 in
theorem w_X3_allGains (X : Cx) (F : Fx X cX3_allGains RX3 (some .int) rmX3_allGains) (hA : xA X = Aw (xG X)) (hL : xL X = 1) (N : Nat) (h : Hp) (o : Nat) (h_o : o < cnt 3) : Wm X (fun v => some (.int v)) (fun _ => h) (fun _ => True) 0 [(0, .ref (adr (xG X) 3 o 0))] [] h (f_X3_allGains N h o) := by
  have hS : ∀ i : Nat, i < 1 → i < xL X := fun i z => by rw [hL]; exact z
  unfold f_X3_allGains
  refine r_aload_n F 0 rfl dX3_allGains_0 rfl ?_
  refine r_getA F frX3_32 h_o dX3_allGains_1 ?_
  refine r_aload_n F 0 rfl dX3_allGains_4 rfl ?_
  refine r_getO F frX3_44 h_o dX3_allGains_5 fun o1 hp_o1 => ?_
  refine r_getI F frX3_76 hp_o1 dX3_allGains_8 ?_
  refine k_iP (run_S F csX3_198 (c_X3_sum (xG X) _ N h 3 o 6 (ar_3_6 o h_o) (gI h 5 o1 12)) rfl rfl ⟨⟨rfl, rfl⟩, Nat.le_of_ble_eq_true rfl, Nat.le_of_ble_eq_true rfl⟩ (Nat.le_of_ble_eq_true rfl) dX3_allGains_11) fun v2 _ => ?_
  exact r_iret F hA rfl rfl trivial dX3_allGains_14
theorem c_X3_allGains (G : Gx) (l : Launch) (N : Nat) (h : Hp) (o : Nat) (h_o : o < cnt 3) : Ctr G l yX3_allGains (.code yX3_allGains cX3_allGains 1 (some .int) :: GT) rmX3_allGains [.ref (adr G 3 o 0)] h (f_X3_allGains N h o) (fun v => some (.int v)) (fun _ => h) (fun _ => True) :=
  ctr_of (by decide) (Nat.le_of_ble_eq_true rfl) ⟨rfl, rfl⟩ fun X _ e2 hA hL F => by subst e2; exact w_X3_allGains X F hA hL N h o h_o
def f_X4_append_3 (p1 : Int32) (r3 : Int32 → Hp → Option Hp) (v1 : Int32) (h2 : Hp) : Option Hp :=
  jn (
    some h2) fun (j51 : Option Hp) =>
  if v1 < 0 then
    j51
  else
  if 700 ≤ (gI h2 4 0 2) then
    j51
  else
  grd (inb (gI h2 4 0 2) 700) <| lt_ (sA h2 4 0 0 (gI h2 4 0 2).toNatClampNeg ((p1.toUInt32 >>> (v1.toUInt32 &&& Int32.toUInt32 31)).toInt32 &&& 255)) fun h3 =>
  lt_ (sI h3 4 0 2 ((gI h3 4 0 2) + 1)) fun h4 =>
  lt_ (v1 + (-8)) fun v5 =>
  r3 v5 h4
def f_X4_append (N : Nat) (h : Hp) (p1 : Int32) : Option Hp :=
  iter (fun _ _ => none) (f_X4_append_3 p1) N 24 h
abbrev rmX4_append : Room := { frames := 0, cells := 0, slots := 0, locals := 0 }
set_option maxRecDepth 100000 in
set_option maxHeartbeats 4000000 in
theorem w_X4_append (X : Cx) (F : Fx X cX4_append RX4 none rmX4_append) (hA : xA X = Aw (xG X)) (hL : xL X = 3) (N : Nat) (h : Hp) (p1 : Int32) : Wm X (fun _ => none) (fun v => v) (fun _ => True) 0 [(0, .ref (adr (xG X) 4 0 0)), (1, .int p1)] [] h (f_X4_append N h p1) := by
  have hS : ∀ i : Nat, i < 3 → i < xL X := fun i z => by rw [hL]; exact z
  unfold f_X4_append
  refine r_bipush F (v := 24) dX4_append_0 (by decide) ?_
  refine r_istore_n F [(2, .int 24), (0, .ref (adr (xG X) 4 0 0)), (1, .int p1)] rfl dX4_append_2 rfl (hS _ (by decide)) ?_
  have hl3 : ∀ n : Nat, ∀ v1 : Int32, ∀ h2 : Hp, Wm X (fun _ => none) (fun v => v) (fun _ => True) 3 [(0, .ref (adr (xG X) 4 0 0)), (1, .int p1), (2, .int v1)] [] h2 (iter (fun _ _ => none) (f_X4_append_3 p1) n v1 h2) := by
    intro n
    induction n with
    | zero => intro v1 h2; exact Wt_none
    | succ n ih =>
      revert ih
      show (∀ v1 : Int32, ∀ h2 : Hp, Wm X (fun _ => none) (fun v => v) (fun _ => True) 3 [(0, .ref (adr (xG X) 4 0 0)), (1, .int p1), (2, .int v1)] [] h2 (iter (fun _ _ => none) (f_X4_append_3 p1) n v1 h2)) → _
      intro ih3 v1 h2
      show Wm X (fun _ => none) (fun v => v) (fun _ => True) 3 [(0, .ref (adr (xG X) 4 0 0)), (1, .int p1), (2, .int v1)] [] h2 (f_X4_append_3 p1 (iter (fun _ _ => none) (f_X4_append_3 p1) n) v1 h2)
      revert ih3
      generalize iter (fun _ _ => none) (f_X4_append_3 p1) n = r3
      intro ih3
      unfold f_X4_append_3
      refine r_iload_n F 2 rfl dX4_append_3 rfl ?_
      refine Wt_jn (fun (j51 : Option Hp) => Wm X (fun _ => none) (fun v => v) (fun _ => True) 51 [] [] h2 (j51)) ?_ fun j51 hj51 => ?_
      · skip
        exact r_vret F hA rfl rfl trivial dX4_append_51
      refine r_iflt F (tgt := 51) dX4_append_4 (by decide) ?_ ?_
      · skip
        exact Wt_pick [] rfl (hj51)
      refine r_aload_n F 0 rfl dX4_append_7 rfl ?_
      refine r_getI F frX4_30 (by decide) dX4_append_8 ?_
      refine r_aload_n F 0 rfl dX4_append_11 rfl ?_
      refine r_getA F frX4_9 (by decide) dX4_append_12 ?_
      refine r_alen0 F (v := 700) (ar_4_0 0 (by decide)) (by decide) dX4_append_15 ?_
      refine r_icmpge F (tgt := 51) dX4_append_16 (by decide) ?_ ?_
      · skip
        exact Wt_pick [] rfl (hj51)
      refine r_aload_n F 0 rfl dX4_append_19 rfl ?_
      refine r_getA F frX4_9 (by decide) dX4_append_20 ?_
      refine r_aload_n F 0 rfl dX4_append_23 rfl ?_
      refine r_getI F frX4_30 (by decide) dX4_append_24 ?_
      refine r_iload_n F 1 rfl dX4_append_27 rfl ?_
      refine r_iload_n F 2 rfl dX4_append_28 rfl ?_
      refine r_iushr F dX4_append_29 ?_
      refine r_sipush F (v := 255) dX4_append_30 (by decide) ?_
      refine r_iand F dX4_append_33 ?_
      refine r_iastore F (ar_4_0 0 (by decide)) dX4_append_34 fun h3 => ?_
      refine r_aload_n F 0 rfl dX4_append_35 rfl ?_
      refine r_dup F rfl dX4_append_36 ?_
      refine r_getI F frX4_30 (by decide) dX4_append_37 ?_
      refine r_iconst F (v := 1) dX4_append_40 (by decide) ?_
      refine r_iadd F dX4_append_41 ?_
      refine r_putI F frX4_30 (by decide) rfl rfl dX4_append_42 fun h4 => ?_
      refine r_iinc F (v := (-8)) 2 rfl (by decide) (fun v5 => [(2, .int v5), (0, .ref (adr (xG X) 4 0 0)), (1, .int p1)]) (fun _ => rfl) dX4_append_45 (hS _ (by decide)) fun v5 => ?_
      refine r_goto F (tgt := 3) dX4_append_48 (by decide) ?_
      exact Wt_pick [1, 2, 0] rfl (ih3 v5 h4)
  exact Wt_pick [1, 2, 0] rfl (hl3 N 24 h)
theorem c_X4_append (G : Gx) (l : Launch) (N : Nat) (h : Hp) (p1 : Int32) : Ctr G l yX4_append (.code yX4_append cX4_append 3 none :: GT) rmX4_append [.ref (adr G 4 0 0), .int p1] h (f_X4_append N h p1) (fun _ => none) (fun v => v) (fun _ => True) :=
  ctr_of (by decide) (Nat.le_of_ble_eq_true rfl) ⟨rfl, rfl⟩ fun X _ e2 hA hL F => by subst e2; exact w_X4_append X F hA hL N h p1
def f_X6_add (h : Hp) (p1 : Int32) (p2 : Int32) (p3 : Int32) : Option Hp :=
  jn (fun (h1 : Hp) =>
    grd (inb (gI h1 6 0 3) 20) <| lt_ (sA h1 6 0 0 (gI h1 6 0 3).toNatClampNeg p1) fun h2 =>
    grd (inb (gI h2 6 0 3) 20) <| lt_ (sA h2 6 0 1 (gI h2 6 0 3).toNatClampNeg p2) fun h3 =>
    grd (inb (gI h3 6 0 3) 20) <| lt_ (sA h3 6 0 2 (gI h3 6 0 3).toNatClampNeg p3) fun h4 =>
    lt_ (sI h4 6 0 3 ((gI h4 6 0 3) + 1)) fun h5 =>
    some h5) fun (j60 : Hp → Option Hp) =>
  if (gI h 6 0 3) < 20 then
    j60 h
  else
  grd ((0 ≤ (1 : Int32) ∧ 0 ≤ (0 : Int32) ∧ 0 ≤ (19 : Int32)) ∧ (1 : Int32).toNatClampNeg + (19 : Int32).toNatClampNeg ≤ 20 ∧ (0 : Int32).toNatClampNeg + (19 : Int32).toNatClampNeg ≤ 20) <| lt_ (sAf h 6 0 0 (va_cpy (gA h 6 0 0) (gA h 6 0 0) (1 : Int32).toNatClampNeg (0 : Int32).toNatClampNeg (19 : Int32).toNatClampNeg)) fun h6 =>
  grd ((0 ≤ (1 : Int32) ∧ 0 ≤ (0 : Int32) ∧ 0 ≤ (19 : Int32)) ∧ (1 : Int32).toNatClampNeg + (19 : Int32).toNatClampNeg ≤ 20 ∧ (0 : Int32).toNatClampNeg + (19 : Int32).toNatClampNeg ≤ 20) <| lt_ (sAf h6 6 0 1 (va_cpy (gA h6 6 0 1) (gA h6 6 0 1) (1 : Int32).toNatClampNeg (0 : Int32).toNatClampNeg (19 : Int32).toNatClampNeg)) fun h7 =>
  grd ((0 ≤ (1 : Int32) ∧ 0 ≤ (0 : Int32) ∧ 0 ≤ (19 : Int32)) ∧ (1 : Int32).toNatClampNeg + (19 : Int32).toNatClampNeg ≤ 20 ∧ (0 : Int32).toNatClampNeg + (19 : Int32).toNatClampNeg ≤ 20) <| lt_ (sAf h7 6 0 2 (va_cpy (gA h7 6 0 2) (gA h7 6 0 2) (1 : Int32).toNatClampNeg (0 : Int32).toNatClampNeg (19 : Int32).toNatClampNeg)) fun h8 =>
  lt_ (sI h8 6 0 3 19) fun h9 =>
  j60 h9
abbrev rmX6_add : Room := { frames := 1, cells := 0, slots := 0, locals := 18 }
set_option maxRecDepth 100000 in
set_option maxHeartbeats 4000000 in
theorem w_X6_add (X : Cx) (F : Fx X cX6_add RX6 none rmX6_add) (hA : xA X = Aw (xG X)) (hL : xL X = 4) (h : Hp) (p1 : Int32) (p2 : Int32) (p3 : Int32) : Wm X (fun _ => none) (fun v => v) (fun _ => True) 0 [(0, .ref (adr (xG X) 6 0 0)), (1, .int p1), (2, .int p2), (3, .int p3)] [] h (f_X6_add h p1 p2 p3) := by
  have hS : ∀ i : Nat, i < 4 → i < xL X := fun i z => by rw [hL]; exact z
  unfold f_X6_add
  refine r_aload_n F 0 rfl dX6_add_0 rfl ?_
  refine r_getI F frX6_21 (by decide) dX6_add_1 ?_
  refine r_bipush F (v := 20) dX6_add_4 (by decide) ?_
  refine Wt_jn (fun (j60 : Hp → Option Hp) => ∀ h1 : Hp, Wm X (fun _ => none) (fun v => v) (fun _ => True) 60 [(0, .ref (adr (xG X) 6 0 0)), (1, .int p1), (2, .int p2), (3, .int p3)] [] h1 (j60 h1)) ?_ fun j60 hj60 => ?_
  · intro h1
    refine r_aload_n F 0 rfl dX6_add_60 rfl ?_
    refine r_getA F frX6_9 (by decide) dX6_add_61 ?_
    refine r_aload_n F 0 rfl dX6_add_64 rfl ?_
    refine r_getI F frX6_21 (by decide) dX6_add_65 ?_
    refine r_iload_n F 1 rfl dX6_add_68 rfl ?_
    refine r_iastore F (ar_6_0 0 (by decide)) dX6_add_69 fun h2 => ?_
    refine r_aload_n F 0 rfl dX6_add_70 rfl ?_
    refine r_getA F frX6_15 (by decide) dX6_add_71 ?_
    refine r_aload_n F 0 rfl dX6_add_74 rfl ?_
    refine r_getI F frX6_21 (by decide) dX6_add_75 ?_
    refine r_iload_n F 2 rfl dX6_add_78 rfl ?_
    refine r_iastore F (ar_6_1 0 (by decide)) dX6_add_79 fun h3 => ?_
    refine r_aload_n F 0 rfl dX6_add_80 rfl ?_
    refine r_getA F frX6_18 (by decide) dX6_add_81 ?_
    refine r_aload_n F 0 rfl dX6_add_84 rfl ?_
    refine r_getI F frX6_21 (by decide) dX6_add_85 ?_
    refine r_iload_n F 3 rfl dX6_add_88 rfl ?_
    refine r_iastore F (ar_6_2 0 (by decide)) dX6_add_89 fun h4 => ?_
    refine r_aload_n F 0 rfl dX6_add_90 rfl ?_
    refine r_dup F rfl dX6_add_91 ?_
    refine r_getI F frX6_21 (by decide) dX6_add_92 ?_
    refine r_iconst F (v := 1) dX6_add_95 (by decide) ?_
    refine r_iadd F dX6_add_96 ?_
    refine r_putI F frX6_21 (by decide) rfl rfl dX6_add_97 fun h5 => ?_
    exact r_vret F hA rfl rfl trivial dX6_add_100
  refine r_icmplt F (tgt := 60) dX6_add_6 (by decide) ?_ ?_
  · skip
    exact Wt_pick [0, 1, 2, 3] rfl (hj60 h)
  refine r_aload_n F 0 rfl dX6_add_9 rfl ?_
  refine r_getA F frX6_9 (by decide) dX6_add_10 ?_
  refine r_iconst F (v := 1) dX6_add_13 (by decide) ?_
  refine r_aload_n F 0 rfl dX6_add_14 rfl ?_
  refine r_getA F frX6_9 (by decide) dX6_add_15 ?_
  refine r_iconst F (v := 0) dX6_add_18 (by decide) ?_
  refine r_bipush F (v := 19) dX6_add_19 (by decide) ?_
  refine r_copy F (ar_6_0 0 (by decide)) (ar_6_0 0 (by decide)) wd_690 ws_copy ⟨Nat.le_of_ble_eq_true rfl, Nat.le_of_ble_eq_true rfl⟩ dX6_add_21 fun h6 => ?_
  refine r_aload_n F 0 rfl dX6_add_24 rfl ?_
  refine r_getA F frX6_15 (by decide) dX6_add_25 ?_
  refine r_iconst F (v := 1) dX6_add_28 (by decide) ?_
  refine r_aload_n F 0 rfl dX6_add_29 rfl ?_
  refine r_getA F frX6_15 (by decide) dX6_add_30 ?_
  refine r_iconst F (v := 0) dX6_add_33 (by decide) ?_
  refine r_bipush F (v := 19) dX6_add_34 (by decide) ?_
  refine r_copy F (ar_6_1 0 (by decide)) (ar_6_1 0 (by decide)) wd_690 ws_copy ⟨Nat.le_of_ble_eq_true rfl, Nat.le_of_ble_eq_true rfl⟩ dX6_add_36 fun h7 => ?_
  refine r_aload_n F 0 rfl dX6_add_39 rfl ?_
  refine r_getA F frX6_18 (by decide) dX6_add_40 ?_
  refine r_iconst F (v := 1) dX6_add_43 (by decide) ?_
  refine r_aload_n F 0 rfl dX6_add_44 rfl ?_
  refine r_getA F frX6_18 (by decide) dX6_add_45 ?_
  refine r_iconst F (v := 0) dX6_add_48 (by decide) ?_
  refine r_bipush F (v := 19) dX6_add_49 (by decide) ?_
  refine r_copy F (ar_6_2 0 (by decide)) (ar_6_2 0 (by decide)) wd_690 ws_copy ⟨Nat.le_of_ble_eq_true rfl, Nat.le_of_ble_eq_true rfl⟩ dX6_add_51 fun h8 => ?_
  refine r_aload_n F 0 rfl dX6_add_54 rfl ?_
  refine r_bipush F (v := 19) dX6_add_55 (by decide) ?_
  refine r_putI F frX6_21 (by decide) rfl rfl dX6_add_57 fun h9 => ?_
  exact Wt_pick [0, 1, 2, 3] rfl (hj60 h9)
theorem c_X6_add (G : Gx) (l : Launch) (h : Hp) (p1 : Int32) (p2 : Int32) (p3 : Int32) : Ctr G l yX6_add (.code yX6_add cX6_add 4 none :: GT) rmX6_add [.ref (adr G 6 0 0), .int p1, .int p2, .int p3] h (f_X6_add h p1 p2 p3) (fun _ => none) (fun v => v) (fun _ => True) :=
  ctr_of (by decide) (Nat.le_of_ble_eq_true rfl) ⟨rfl, rfl⟩ fun X _ e2 hA hL F => by subst e2; exact w_X6_add X F hA hL h p1 p2 p3
