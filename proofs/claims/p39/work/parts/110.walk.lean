theorem dX7_isStripe_0 : decode cX7_isStripe 0 = .ok (.iload_n 1, 1) := by decide +kernel
theorem dX7_isStripe_1 : decode cX7_isStripe 1 = .ok (.ifCond .lt 18, 3) := by decide +kernel
theorem dX7_isStripe_4 : decode cX7_isStripe 4 = .ok (.iload_n 1, 1) := by decide +kernel
theorem dX7_isStripe_5 : decode cX7_isStripe 5 = .ok (.aload_n 0, 1) := by decide +kernel
theorem dX7_isStripe_6 : decode cX7_isStripe 6 = .ok (.getfield 56, 3) := by decide +kernel
theorem dX7_isStripe_9 : decode cX7_isStripe 9 = .ok (.getfield 307, 3) := by decide +kernel
theorem dX7_isStripe_12 : decode cX7_isStripe 12 = .ok (.if_icmp .ge 7, 3) := by decide +kernel
theorem dX7_isStripe_15 : decode cX7_isStripe 15 = .ok (.iconst 1, 1) := by decide +kernel
theorem dX7_isStripe_16 : decode cX7_isStripe 16 = .ok (.goto 4, 3) := by decide +kernel
theorem dX7_isStripe_19 : decode cX7_isStripe 19 = .ok (.iconst 0, 1) := by decide +kernel
theorem dX7_isStripe_20 : decode cX7_isStripe 20 = .ok (.ireturn, 1) := by decide +kernel
theorem dX7_lot_0 : decode cX7_lot 0 = .ok (.aload_n 0, 1) := by decide +kernel
theorem dX7_lot_1 : decode cX7_lot 1 = .ok (.iload_n 1, 1) := by decide +kernel
theorem dX7_lot_2 : decode cX7_lot 2 = .ok (.invokevirtual 130, 3) := by decide +kernel
theorem dX7_lot_5 : decode cX7_lot 5 = .ok (.ifCond .eq 24, 3) := by decide +kernel
theorem dX7_lot_8 : decode cX7_lot 8 = .ok (.aload_n 0, 1) := by decide +kernel
theorem dX7_lot_9 : decode cX7_lot 9 = .ok (.iload_n 2, 1) := by decide +kernel
theorem dX7_lot_10 : decode cX7_lot 10 = .ok (.invokevirtual 152, 3) := by decide +kernel
theorem dX7_lot_13 : decode cX7_lot 13 = .ok (.ifCond .eq 16, 3) := by decide +kernel
theorem dX7_lot_16 : decode cX7_lot 16 = .ok (.aload_n 0, 1) := by decide +kernel
theorem dX7_lot_17 : decode cX7_lot 17 = .ok (.getfield 72, 3) := by decide +kernel
theorem dX7_lot_20 : decode cX7_lot 20 = .ok (.getfield 149, 3) := by decide +kernel
theorem dX7_lot_23 : decode cX7_lot 23 = .ok (.iload_n 1, 1) := by decide +kernel
theorem dX7_lot_24 : decode cX7_lot 24 = .ok (.iaload, 1) := by decide +kernel
theorem dX7_lot_25 : decode cX7_lot 25 = .ok (.iload_n 2, 1) := by decide +kernel
theorem dX7_lot_26 : decode cX7_lot 26 = .ok (.if_icmp .ne 5, 3) := by decide +kernel
theorem dX7_lot_29 : decode cX7_lot 29 = .ok (.iconst 0, 1) := by decide +kernel
theorem dX7_lot_30 : decode cX7_lot 30 = .ok (.ireturn, 1) := by decide +kernel
theorem dX7_lot_31 : decode cX7_lot 31 = .ok (.aload_n 0, 1) := by decide +kernel
theorem dX7_lot_32 : decode cX7_lot 32 = .ok (.getfield 33, 3) := by decide +kernel
theorem dX7_lot_35 : decode cX7_lot 35 = .ok (.iconst 2, 1) := by decide +kernel
theorem dX7_lot_36 : decode cX7_lot 36 = .ok (.iload_n 1, 1) := by decide +kernel
theorem dX7_lot_37 : decode cX7_lot 37 = .ok (.aload_n 0, 1) := by decide +kernel
theorem dX7_lot_38 : decode cX7_lot 38 = .ok (.getfield 72, 3) := by decide +kernel
theorem dX7_lot_41 : decode cX7_lot 41 = .ok (.getfield 149, 3) := by decide +kernel
theorem dX7_lot_44 : decode cX7_lot 44 = .ok (.iload_n 1, 1) := by decide +kernel
theorem dX7_lot_45 : decode cX7_lot 45 = .ok (.iaload, 1) := by decide +kernel
theorem dX7_lot_46 : decode cX7_lot 46 = .ok (.invokevirtual 224, 3) := by decide +kernel
theorem dX7_lot_49 : decode cX7_lot 49 = .ok (.aload_n 0, 1) := by decide +kernel
theorem dX7_lot_50 : decode cX7_lot 50 = .ok (.getfield 72, 3) := by decide +kernel
theorem dX7_lot_53 : decode cX7_lot 53 = .ok (.getfield 149, 3) := by decide +kernel
theorem dX7_lot_56 : decode cX7_lot 56 = .ok (.iload_n 1, 1) := by decide +kernel
theorem dX7_lot_57 : decode cX7_lot 57 = .ok (.iload_n 2, 1) := by decide +kernel
theorem dX7_lot_58 : decode cX7_lot 58 = .ok (.iastore, 1) := by decide +kernel
theorem dX7_lot_59 : decode cX7_lot 59 = .ok (.iconst 1, 1) := by decide +kernel
theorem dX7_lot_60 : decode cX7_lot 60 = .ok (.ireturn, 1) := by decide +kernel
theorem dX7_canLend_0 : decode cX7_canLend 0 = .ok (.aload_n 0, 1) := by decide +kernel
theorem dX7_canLend_1 : decode cX7_canLend 1 = .ok (.iload_n 1, 1) := by decide +kernel
theorem dX7_canLend_2 : decode cX7_canLend 2 = .ok (.invokevirtual 152, 3) := by decide +kernel
theorem dX7_canLend_5 : decode cX7_canLend 5 = .ok (.ifCond .eq 45, 3) := by decide +kernel
theorem dX7_canLend_8 : decode cX7_canLend 8 = .ok (.aload_n 0, 1) := by decide +kernel
theorem dX7_canLend_9 : decode cX7_canLend 9 = .ok (.iload_n 2, 1) := by decide +kernel
theorem dX7_canLend_10 : decode cX7_canLend 10 = .ok (.invokevirtual 152, 3) := by decide +kernel
theorem dX7_canLend_13 : decode cX7_canLend 13 = .ok (.ifCond .eq 37, 3) := by decide +kernel
theorem dX7_canLend_16 : decode cX7_canLend 16 = .ok (.iload_n 1, 1) := by decide +kernel
theorem dX7_canLend_17 : decode cX7_canLend 17 = .ok (.iload_n 2, 1) := by decide +kernel
theorem dX7_canLend_18 : decode cX7_canLend 18 = .ok (.if_icmp .eq 32, 3) := by decide +kernel
theorem dX7_canLend_21 : decode cX7_canLend 21 = .ok (.aload_n 0, 1) := by decide +kernel
theorem dX7_canLend_22 : decode cX7_canLend 22 = .ok (.getfield 72, 3) := by decide +kernel
theorem dX7_canLend_25 : decode cX7_canLend 25 = .ok (.getfield 155, 3) := by decide +kernel
theorem dX7_canLend_28 : decode cX7_canLend 28 = .ok (.iload_n 1, 1) := by decide +kernel
theorem dX7_canLend_29 : decode cX7_canLend 29 = .ok (.iaload, 1) := by decide +kernel
theorem dX7_canLend_30 : decode cX7_canLend 30 = .ok (.ifCond .le 20, 3) := by decide +kernel
theorem dX7_canLend_33 : decode cX7_canLend 33 = .ok (.aload_n 0, 1) := by decide +kernel
theorem dX7_canLend_34 : decode cX7_canLend 34 = .ok (.getfield 72, 3) := by decide +kernel
theorem dX7_canLend_37 : decode cX7_canLend 37 = .ok (.getfield 155, 3) := by decide +kernel
theorem dX7_canLend_40 : decode cX7_canLend 40 = .ok (.iload_n 2, 1) := by decide +kernel
theorem dX7_canLend_41 : decode cX7_canLend 41 = .ok (.iaload, 1) := by decide +kernel
theorem dX7_canLend_42 : decode cX7_canLend 42 = .ok (.iconst 5, 1) := by decide +kernel
theorem dX7_canLend_43 : decode cX7_canLend 43 = .ok (.if_icmp .ge 7, 3) := by decide +kernel
theorem dX7_canLend_46 : decode cX7_canLend 46 = .ok (.iconst 1, 1) := by decide +kernel
theorem dX7_canLend_47 : decode cX7_canLend 47 = .ok (.goto 4, 3) := by decide +kernel
theorem dX7_canLend_50 : decode cX7_canLend 50 = .ok (.iconst 0, 1) := by decide +kernel
theorem dX7_canLend_51 : decode cX7_canLend 51 = .ok (.ireturn, 1) := by decide +kernel
theorem dX7_lend_0 : decode cX7_lend 0 = .ok (.aload_n 0, 1) := by decide +kernel
theorem dX7_lend_1 : decode cX7_lend 1 = .ok (.iload_n 1, 1) := by decide +kernel
theorem dX7_lend_2 : decode cX7_lend 2 = .ok (.iload_n 2, 1) := by decide +kernel
theorem dX7_lend_3 : decode cX7_lend 3 = .ok (.invokevirtual 234, 3) := by decide +kernel
theorem dX7_lend_6 : decode cX7_lend 6 = .ok (.ifCond .ne 5, 3) := by decide +kernel
theorem dX7_lend_9 : decode cX7_lend 9 = .ok (.iconst 0, 1) := by decide +kernel
theorem dX7_lend_10 : decode cX7_lend 10 = .ok (.ireturn, 1) := by decide +kernel
theorem dX7_lend_11 : decode cX7_lend 11 = .ok (.aload_n 0, 1) := by decide +kernel
theorem dX7_lend_12 : decode cX7_lend 12 = .ok (.getfield 33, 3) := by decide +kernel
theorem dX7_lend_15 : decode cX7_lend 15 = .ok (.iconst 3, 1) := by decide +kernel
theorem dX7_lend_16 : decode cX7_lend 16 = .ok (.iload_n 1, 1) := by decide +kernel
theorem dX7_lend_17 : decode cX7_lend 17 = .ok (.iload_n 2, 1) := by decide +kernel
theorem dX7_lend_18 : decode cX7_lend 18 = .ok (.invokevirtual 224, 3) := by decide +kernel
theorem dX7_lend_21 : decode cX7_lend 21 = .ok (.aload_n 0, 1) := by decide +kernel
theorem dX7_lend_22 : decode cX7_lend 22 = .ok (.getfield 72, 3) := by decide +kernel
theorem dX7_lend_25 : decode cX7_lend 25 = .ok (.iload_n 1, 1) := by decide +kernel
theorem dX7_lend_26 : decode cX7_lend 26 = .ok (.iload_n 2, 1) := by decide +kernel
theorem dX7_lend_27 : decode cX7_lend 27 = .ok (.invokevirtual 238, 3) := by decide +kernel
theorem dX7_lend_30 : decode cX7_lend 30 = .ok (.iconst 1, 1) := by decide +kernel
theorem dX7_lend_31 : decode cX7_lend 31 = .ok (.ireturn, 1) := by decide +kernel
theorem dX7_go_0 : decode cX7_go 0 = .ok (.iload_n 1, 1) := by decide +kernel
theorem dX7_go_1 : decode cX7_go 1 = .ok (.ifCond .lt 24, 3) := by decide +kernel
theorem dX7_go_4 : decode cX7_go 4 = .ok (.iload_n 1, 1) := by decide +kernel
theorem dX7_go_5 : decode cX7_go 5 = .ok (.bipush 99, 2) := by decide +kernel
theorem dX7_go_7 : decode cX7_go 7 = .ok (.if_icmp .gt 18, 3) := by decide +kernel
theorem dX7_go_10 : decode cX7_go 10 = .ok (.aload_n 0, 1) := by decide +kernel
theorem dX7_go_11 : decode cX7_go 11 = .ok (.getfield 72, 3) := by decide +kernel
theorem dX7_go_14 : decode cX7_go 14 = .ok (.getfield 241, 3) := by decide +kernel
theorem dX7_go_17 : decode cX7_go 17 = .ok (.iload_n 1, 1) := by decide +kernel
theorem dX7_go_18 : decode cX7_go 18 = .ok (.iadd, 1) := by decide +kernel
theorem dX7_go_19 : decode cX7_go 19 = .ok (.sipush 9999, 3) := by decide +kernel
theorem dX7_go_22 : decode cX7_go 22 = .ok (.if_icmp .le 5, 3) := by decide +kernel
theorem dX7_go_25 : decode cX7_go 25 = .ok (.iconst (-1), 1) := by decide +kernel
theorem dX7_go_26 : decode cX7_go 26 = .ok (.ireturn, 1) := by decide +kernel
theorem dX7_go_27 : decode cX7_go 27 = .ok (.iload_n 1, 1) := by decide +kernel
theorem dX7_go_28 : decode cX7_go 28 = .ok (.ifCond .le 11, 3) := by decide +kernel
theorem dX7_go_31 : decode cX7_go 31 = .ok (.aload_n 0, 1) := by decide +kernel
theorem dX7_go_32 : decode cX7_go 32 = .ok (.getfield 33, 3) := by decide +kernel
theorem dX7_go_35 : decode cX7_go 35 = .ok (.iconst 0, 1) := by decide +kernel
theorem dX7_go_36 : decode cX7_go 36 = .ok (.putfield 117, 3) := by decide +kernel
theorem dX7_go_39 : decode cX7_go 39 = .ok (.aload_n 0, 1) := by decide +kernel
theorem dX7_go_40 : decode cX7_go 40 = .ok (.getfield 72, 3) := by decide +kernel
theorem dX7_go_43 : decode cX7_go 43 = .ok (.iload_n 1, 1) := by decide +kernel
theorem dX7_go_44 : decode cX7_go 44 = .ok (.invokevirtual 244, 3) := by decide +kernel
theorem dX7_go_47 : decode cX7_go 47 = .ok (.aload_n 0, 1) := by decide +kernel
theorem dX7_go_48 : decode cX7_go 48 = .ok (.getfield 72, 3) := by decide +kernel
theorem dX7_go_51 : decode cX7_go 51 = .ok (.getfield 241, 3) := by decide +kernel
theorem dX7_go_54 : decode cX7_go 54 = .ok (.ireturn, 1) := by decide +kernel
theorem dX7_isIn_0 : decode cX7_isIn 0 = .ok (.iload_n 0, 1) := by decide +kernel
theorem dX7_isIn_1 : decode cX7_isIn 1 = .ok (.iload_n 1, 1) := by decide +kernel
theorem dX7_isIn_2 : decode cX7_isIn 2 = .ok (.if_icmp .lt 12, 3) := by decide +kernel
theorem dX7_isIn_5 : decode cX7_isIn 5 = .ok (.iload_n 0, 1) := by decide +kernel
theorem dX7_isIn_6 : decode cX7_isIn 6 = .ok (.iload_n 2, 1) := by decide +kernel
theorem dX7_isIn_7 : decode cX7_isIn 7 = .ok (.if_icmp .gt 7, 3) := by decide +kernel
theorem dX7_isIn_10 : decode cX7_isIn 10 = .ok (.iconst 1, 1) := by decide +kernel
theorem dX7_isIn_11 : decode cX7_isIn 11 = .ok (.goto 4, 3) := by decide +kernel
theorem dX7_isIn_14 : decode cX7_isIn 14 = .ok (.iconst 0, 1) := by decide +kernel
theorem dX7_isIn_15 : decode cX7_isIn 15 = .ok (.ireturn, 1) := by decide +kernel
theorem dX7_ruledBy_0 : decode cX7_ruledBy 0 = .ok (.aload_n 0, 1) := by decide +kernel
theorem dX7_ruledBy_1 : decode cX7_ruledBy 1 = .ok (.getfield 78, 3) := by decide +kernel
theorem dX7_ruledBy_4 : decode cX7_ruledBy 4 = .ok (.iconst 0, 1) := by decide +kernel
theorem dX7_ruledBy_5 : decode cX7_ruledBy 5 = .ok (.aaload, 1) := by decide +kernel
theorem dX7_ruledBy_6 : decode cX7_ruledBy 6 = .ok (.astore_n 3, 1) := by decide +kernel
theorem dX7_ruledBy_7 : decode cX7_ruledBy 7 = .ok (.aload_n 3, 1) := by decide +kernel
theorem dX7_ruledBy_8 : decode cX7_ruledBy 8 = .ok (.aload_n 0, 1) := by decide +kernel
theorem dX7_ruledBy_9 : decode cX7_ruledBy 9 = .ok (.getfield 72, 3) := by decide +kernel
theorem dX7_ruledBy_12 : decode cX7_ruledBy 12 = .ok (.invokevirtual 109, 3) := by decide +kernel
theorem dX7_ruledBy_15 : decode cX7_ruledBy 15 = .ok (.aload_n 3, 1) := by decide +kernel
theorem dX7_ruledBy_16 : decode cX7_ruledBy 16 = .ok (.iload_n 1, 1) := by decide +kernel
theorem dX7_ruledBy_17 : decode cX7_ruledBy 17 = .ok (.putfield 231, 3) := by decide +kernel
theorem dX7_ruledBy_20 : decode cX7_ruledBy 20 = .ok (.iconst 0, 1) := by decide +kernel
theorem dX7_ruledBy_21 : decode cX7_ruledBy 21 = .ok (.istore 4, 2) := by decide +kernel
theorem dX7_ruledBy_23 : decode cX7_ruledBy 23 = .ok (.iload 4, 2) := by decide +kernel
theorem dX7_ruledBy_25 : decode cX7_ruledBy 25 = .ok (.aload_n 3, 1) := by decide +kernel
theorem dX7_ruledBy_26 : decode cX7_ruledBy 26 = .ok (.getfield 164, 3) := by decide +kernel
theorem dX7_ruledBy_29 : decode cX7_ruledBy 29 = .ok (.arraylength, 1) := by decide +kernel
theorem dX7_ruledBy_30 : decode cX7_ruledBy 30 = .ok (.if_icmp .ge 17, 3) := by decide +kernel
theorem dX7_ruledBy_33 : decode cX7_ruledBy 33 = .ok (.aload_n 3, 1) := by decide +kernel
theorem dX7_ruledBy_34 : decode cX7_ruledBy 34 = .ok (.getfield 164, 3) := by decide +kernel
theorem dX7_ruledBy_37 : decode cX7_ruledBy 37 = .ok (.iload 4, 2) := by decide +kernel
theorem dX7_ruledBy_39 : decode cX7_ruledBy 39 = .ok (.iconst 0, 1) := by decide +kernel
theorem dX7_ruledBy_40 : decode cX7_ruledBy 40 = .ok (.iastore, 1) := by decide +kernel
theorem dX7_ruledBy_41 : decode cX7_ruledBy 41 = .ok (.iinc 4 1, 3) := by decide +kernel
theorem dX7_ruledBy_44 : decode cX7_ruledBy 44 = .ok (.goto (-21), 3) := by decide +kernel
theorem dX7_ruledBy_47 : decode cX7_ruledBy 47 = .ok (.aload_n 3, 1) := by decide +kernel
theorem dX7_ruledBy_48 : decode cX7_ruledBy 48 = .ok (.iload_n 2, 1) := by decide +kernel
theorem dX7_ruledBy_49 : decode cX7_ruledBy 49 = .ok (.invokevirtual 265, 3) := by decide +kernel
theorem dX7_ruledBy_52 : decode cX7_ruledBy 52 = .ok (.aload_n 3, 1) := by decide +kernel
theorem dX7_ruledBy_53 : decode cX7_ruledBy 53 = .ok (.areturn, 1) := by decide +kernel
theorem dX7_table_0 : decode cX7_table 0 = .ok (.iload_n 1, 1) := by decide +kernel
theorem dX7_table_1 : decode cX7_table 1 = .ok (.invokestatic 228, 3) := by decide +kernel
theorem dX7_table_4 : decode cX7_table 4 = .ok (.ifCond .eq 13, 3) := by decide +kernel
theorem dX7_table_7 : decode cX7_table 7 = .ok (.iload_n 2, 1) := by decide +kernel
theorem dX7_table_8 : decode cX7_table 8 = .ok (.iconst 0, 1) := by decide +kernel
theorem dX7_table_9 : decode cX7_table 9 = .ok (.bipush 99, 2) := by decide +kernel
theorem dX7_table_11 : decode cX7_table 11 = .ok (.invokestatic 247, 3) := by decide +kernel
theorem dX7_table_14 : decode cX7_table 14 = .ok (.ifCond .ne 5, 3) := by decide +kernel
theorem dX7_table_17 : decode cX7_table 17 = .ok (.iconst (-1), 1) := by decide +kernel
theorem dX7_table_18 : decode cX7_table 18 = .ok (.ireturn, 1) := by decide +kernel
theorem dX7_table_19 : decode cX7_table 19 = .ok (.aload_n 0, 1) := by decide +kernel
theorem dX7_table_20 : decode cX7_table 20 = .ok (.iload_n 1, 1) := by decide +kernel
theorem dX7_table_21 : decode cX7_table 21 = .ok (.iload_n 2, 1) := by decide +kernel
theorem dX7_table_22 : decode cX7_table 22 = .ok (.invokevirtual 251, 3) := by decide +kernel
theorem dX7_table_25 : decode cX7_table 25 = .ok (.astore 4, 2) := by decide +kernel
theorem dX7_table_27 : decode cX7_table 27 = .ok (.iload_n 3, 1) := by decide +kernel
theorem dX7_table_28 : decode cX7_table 28 = .ok (.tableswitch 80 0 3 #[32, 46, 60, 66], 32) := by decide +kernel
theorem dX7_table_60 : decode cX7_table 60 = .ok (.aload 4, 2) := by decide +kernel
theorem dX7_table_62 : decode cX7_table 62 = .ok (.invokevirtual 255, 3) := by decide +kernel
theorem dX7_table_65 : decode cX7_table 65 = .ok (.aload_n 0, 1) := by decide +kernel
theorem dX7_table_66 : decode cX7_table 66 = .ok (.getfield 72, 3) := by decide +kernel
theorem dX7_table_69 : decode cX7_table 69 = .ok (.invokevirtual 255, 3) := by decide +kernel
theorem dX7_table_72 : decode cX7_table 72 = .ok (.isub, 1) := by decide +kernel
theorem dX7_table_73 : decode cX7_table 73 = .ok (.ireturn, 1) := by decide +kernel
theorem dX7_table_74 : decode cX7_table 74 = .ok (.aload 4, 2) := by decide +kernel
theorem dX7_table_76 : decode cX7_table 76 = .ok (.getfield 259, 3) := by decide +kernel
theorem dX7_table_79 : decode cX7_table 79 = .ok (.aload_n 0, 1) := by decide +kernel
theorem dX7_table_80 : decode cX7_table 80 = .ok (.getfield 72, 3) := by decide +kernel
theorem dX7_table_83 : decode cX7_table 83 = .ok (.getfield 259, 3) := by decide +kernel
theorem dX7_table_86 : decode cX7_table 86 = .ok (.isub, 1) := by decide +kernel
theorem dX7_table_87 : decode cX7_table 87 = .ok (.ireturn, 1) := by decide +kernel
theorem dX7_table_88 : decode cX7_table 88 = .ok (.aload 4, 2) := by decide +kernel
theorem dX7_table_90 : decode cX7_table 90 = .ok (.getfield 221, 3) := by decide +kernel
theorem dX7_table_93 : decode cX7_table 93 = .ok (.ireturn, 1) := by decide +kernel
theorem dX7_table_94 : decode cX7_table 94 = .ok (.aload 4, 2) := by decide +kernel
theorem dX7_table_96 : decode cX7_table 96 = .ok (.invokevirtual 262, 3) := by decide +kernel
theorem dX7_table_99 : decode cX7_table 99 = .ok (.aload_n 0, 1) := by decide +kernel
theorem dX7_table_100 : decode cX7_table 100 = .ok (.getfield 72, 3) := by decide +kernel
theorem dX7_table_103 : decode cX7_table 103 = .ok (.invokevirtual 262, 3) := by decide +kernel
theorem dX7_table_106 : decode cX7_table 106 = .ok (.isub, 1) := by decide +kernel
theorem dX7_table_107 : decode cX7_table 107 = .ok (.ireturn, 1) := by decide +kernel
theorem dX7_table_108 : decode cX7_table 108 = .ok (.iconst (-1), 1) := by decide +kernel
theorem dX7_table_109 : decode cX7_table 109 = .ok (.ireturn, 1) := by decide +kernel
theorem dX7_startWays_0 : decode cX7_startWays 0 = .ok (.aload_n 0, 1) := by decide +kernel
theorem dX7_startWays_1 : decode cX7_startWays 1 = .ok (.getfield 78, 3) := by decide +kernel
theorem dX7_startWays_4 : decode cX7_startWays 4 = .ok (.iconst 0, 1) := by decide +kernel
theorem dX7_startWays_5 : decode cX7_startWays 5 = .ok (.aaload, 1) := by decide +kernel
theorem dX7_startWays_6 : decode cX7_startWays 6 = .ok (.aload_n 0, 1) := by decide +kernel
theorem dX7_startWays_7 : decode cX7_startWays 7 = .ok (.getfield 72, 3) := by decide +kernel
theorem dX7_startWays_10 : decode cX7_startWays 10 = .ok (.invokevirtual 109, 3) := by decide +kernel
theorem dX7_startWays_13 : decode cX7_startWays 13 = .ok (.iconst 0, 1) := by decide +kernel
theorem dX7_startWays_14 : decode cX7_startWays 14 = .ok (.istore_n 3, 1) := by decide +kernel
theorem dX7_startWays_15 : decode cX7_startWays 15 = .ok (.iload_n 3, 1) := by decide +kernel
theorem dX7_startWays_16 : decode cX7_startWays 16 = .ok (.iload_n 1, 1) := by decide +kernel
theorem dX7_startWays_17 : decode cX7_startWays 17 = .ok (.if_icmp .ge 25, 3) := by decide +kernel
theorem dX7_startWays_20 : decode cX7_startWays 20 = .ok (.iload_n 3, 1) := by decide +kernel
theorem dX7_startWays_21 : decode cX7_startWays 21 = .ok (.aload_n 0, 1) := by decide +kernel
theorem dX7_startWays_22 : decode cX7_startWays 22 = .ok (.getfield 37, 3) := by decide +kernel
theorem dX7_startWays_25 : decode cX7_startWays 25 = .ok (.arraylength, 1) := by decide +kernel
theorem dX7_startWays_26 : decode cX7_startWays 26 = .ok (.if_icmp .ge 16, 3) := by decide +kernel
theorem dX7_startWays_29 : decode cX7_startWays 29 = .ok (.aload_n 0, 1) := by decide +kernel
theorem dX7_startWays_30 : decode cX7_startWays 30 = .ok (.getfield 37, 3) := by decide +kernel
theorem dX7_startWays_33 : decode cX7_startWays 33 = .ok (.iload_n 3, 1) := by decide +kernel
theorem dX7_startWays_34 : decode cX7_startWays 34 = .ok (.iload_n 2, 1) := by decide +kernel
theorem dX7_startWays_35 : decode cX7_startWays 35 = .ok (.iastore, 1) := by decide +kernel
theorem dX7_startWays_36 : decode cX7_startWays 36 = .ok (.iinc 3 1, 3) := by decide +kernel
theorem dX7_startWays_39 : decode cX7_startWays 39 = .ok (.goto (-24), 3) := by decide +kernel
theorem dX7_startWays_42 : decode cX7_startWays 42 = .ok (.return_, 1) := by decide +kernel
theorem dX7_power_0 : decode cX7_power 0 = .ok (.iconst 1, 1) := by decide +kernel
theorem dX7_power_1 : decode cX7_power 1 = .ok (.istore_n 2, 1) := by decide +kernel
theorem dX7_power_2 : decode cX7_power 2 = .ok (.iconst 0, 1) := by decide +kernel
theorem dX7_power_3 : decode cX7_power 3 = .ok (.istore_n 3, 1) := by decide +kernel
theorem dX7_power_4 : decode cX7_power 4 = .ok (.iload_n 3, 1) := by decide +kernel
theorem dX7_power_5 : decode cX7_power 5 = .ok (.iload_n 1, 1) := by decide +kernel
theorem dX7_power_6 : decode cX7_power 6 = .ok (.if_icmp .ge 13, 3) := by decide +kernel
theorem dX7_power_9 : decode cX7_power 9 = .ok (.iload_n 2, 1) := by decide +kernel
theorem dX7_power_10 : decode cX7_power 10 = .ok (.iload_n 0, 1) := by decide +kernel
theorem dX7_power_11 : decode cX7_power 11 = .ok (.imul, 1) := by decide +kernel
theorem dX7_power_12 : decode cX7_power 12 = .ok (.istore_n 2, 1) := by decide +kernel
theorem dX7_power_13 : decode cX7_power 13 = .ok (.iinc 3 1, 3) := by decide +kernel
theorem dX7_power_16 : decode cX7_power 16 = .ok (.goto (-12), 3) := by decide +kernel
theorem dX7_power_19 : decode cX7_power 19 = .ok (.iload_n 2, 1) := by decide +kernel
theorem dX7_power_20 : decode cX7_power 20 = .ok (.ireturn, 1) := by decide +kernel
theorem dX7_nextWay_0 : decode cX7_nextWay 0 = .ok (.iload_n 1, 1) := by decide +kernel
theorem dX7_nextWay_1 : decode cX7_nextWay 1 = .ok (.iconst 1, 1) := by decide +kernel
theorem dX7_nextWay_2 : decode cX7_nextWay 2 = .ok (.isub, 1) := by decide +kernel
theorem dX7_nextWay_3 : decode cX7_nextWay 3 = .ok (.istore 4, 2) := by decide +kernel
theorem dX7_nextWay_5 : decode cX7_nextWay 5 = .ok (.iload 4, 2) := by decide +kernel
theorem dX7_nextWay_7 : decode cX7_nextWay 7 = .ok (.ifCond .lt 42, 3) := by decide +kernel
theorem dX7_nextWay_10 : decode cX7_nextWay 10 = .ok (.aload_n 0, 1) := by decide +kernel
theorem dX7_nextWay_11 : decode cX7_nextWay 11 = .ok (.getfield 37, 3) := by decide +kernel
theorem dX7_nextWay_14 : decode cX7_nextWay 14 = .ok (.iload 4, 2) := by decide +kernel
theorem dX7_nextWay_16 : decode cX7_nextWay 16 = .ok (.iaload, 1) := by decide +kernel
theorem dX7_nextWay_17 : decode cX7_nextWay 17 = .ok (.iload_n 3, 1) := by decide +kernel
theorem dX7_nextWay_18 : decode cX7_nextWay 18 = .ok (.if_icmp .ge 17, 3) := by decide +kernel
theorem dX7_nextWay_21 : decode cX7_nextWay 21 = .ok (.aload_n 0, 1) := by decide +kernel
theorem dX7_nextWay_22 : decode cX7_nextWay 22 = .ok (.getfield 37, 3) := by decide +kernel
theorem dX7_nextWay_25 : decode cX7_nextWay 25 = .ok (.iload 4, 2) := by decide +kernel
theorem dX7_nextWay_27 : decode cX7_nextWay 27 = .ok (.dup2, 1) := by decide +kernel
theorem dX7_nextWay_28 : decode cX7_nextWay 28 = .ok (.iaload, 1) := by decide +kernel
theorem dX7_nextWay_29 : decode cX7_nextWay 29 = .ok (.iconst 1, 1) := by decide +kernel
theorem dX7_nextWay_30 : decode cX7_nextWay 30 = .ok (.iadd, 1) := by decide +kernel
theorem dX7_nextWay_31 : decode cX7_nextWay 31 = .ok (.iastore, 1) := by decide +kernel
theorem dX7_nextWay_32 : decode cX7_nextWay 32 = .ok (.iload 4, 2) := by decide +kernel
theorem dX7_nextWay_34 : decode cX7_nextWay 34 = .ok (.ireturn, 1) := by decide +kernel
theorem dX7_nextWay_35 : decode cX7_nextWay 35 = .ok (.aload_n 0, 1) := by decide +kernel
theorem dX7_nextWay_36 : decode cX7_nextWay 36 = .ok (.getfield 37, 3) := by decide +kernel
theorem dX7_nextWay_39 : decode cX7_nextWay 39 = .ok (.iload 4, 2) := by decide +kernel
theorem dX7_nextWay_41 : decode cX7_nextWay 41 = .ok (.iload_n 2, 1) := by decide +kernel
theorem dX7_nextWay_42 : decode cX7_nextWay 42 = .ok (.iastore, 1) := by decide +kernel
theorem dX7_nextWay_43 : decode cX7_nextWay 43 = .ok (.iinc 4 (-1), 3) := by decide +kernel
theorem dX7_nextWay_46 : decode cX7_nextWay 46 = .ok (.goto (-41), 3) := by decide +kernel
theorem dX7_nextWay_49 : decode cX7_nextWay 49 = .ok (.iconst 0, 1) := by decide +kernel
theorem dX7_nextWay_50 : decode cX7_nextWay 50 = .ok (.ireturn, 1) := by decide +kernel
theorem dX7_planFor_0 : decode cX7_planFor 0 = .ok (.aload_n 0, 1) := by decide +kernel
theorem dX7_planFor_1 : decode cX7_planFor 1 = .ok (.iload_n 2, 1) := by decide +kernel
theorem dX7_planFor_2 : decode cX7_planFor 2 = .ok (.iconst 1, 1) := by decide +kernel
theorem dX7_planFor_3 : decode cX7_planFor 3 = .ok (.invokevirtual 272, 3) := by decide +kernel
theorem dX7_planFor_6 : decode cX7_planFor 6 = .ok (.iconst 3, 1) := by decide +kernel
theorem dX7_planFor_7 : decode cX7_planFor 7 = .ok (.iload_n 2, 1) := by decide +kernel
theorem dX7_planFor_8 : decode cX7_planFor 8 = .ok (.invokestatic 275, 3) := by decide +kernel
theorem dX7_planFor_11 : decode cX7_planFor 11 = .ok (.istore_n 3, 1) := by decide +kernel
theorem dX7_planFor_12 : decode cX7_planFor 12 = .ok (.iconst (-1), 1) := by decide +kernel
theorem dX7_planFor_13 : decode cX7_planFor 13 = .ok (.istore 4, 2) := by decide +kernel
theorem dX7_planFor_15 : decode cX7_planFor 15 = .ok (.iconst 0, 1) := by decide +kernel
theorem dX7_planFor_16 : decode cX7_planFor 16 = .ok (.istore 5, 2) := by decide +kernel
theorem dX7_planFor_18 : decode cX7_planFor 18 = .ok (.iconst 0, 1) := by decide +kernel
theorem dX7_planFor_19 : decode cX7_planFor 19 = .ok (.istore 6, 2) := by decide +kernel
theorem dX7_planFor_21 : decode cX7_planFor 21 = .ok (.iload 6, 2) := by decide +kernel
theorem dX7_planFor_23 : decode cX7_planFor 23 = .ok (.iload_n 3, 1) := by decide +kernel
theorem dX7_planFor_24 : decode cX7_planFor 24 = .ok (.if_icmp .ge 124, 3) := by decide +kernel
theorem dX7_planFor_27 : decode cX7_planFor 27 = .ok (.iload 5, 2) := by decide +kernel
theorem dX7_planFor_29 : decode cX7_planFor 29 = .ok (.istore 7, 2) := by decide +kernel
theorem dX7_planFor_31 : decode cX7_planFor 31 = .ok (.iload 7, 2) := by decide +kernel
theorem dX7_planFor_33 : decode cX7_planFor 33 = .ok (.iload_n 2, 1) := by decide +kernel
theorem dX7_planFor_34 : decode cX7_planFor 34 = .ok (.if_icmp .ge 51, 3) := by decide +kernel
theorem dX7_planFor_37 : decode cX7_planFor 37 = .ok (.aload_n 0, 1) := by decide +kernel
theorem dX7_planFor_38 : decode cX7_planFor 38 = .ok (.getfield 78, 3) := by decide +kernel
theorem dX7_planFor_41 : decode cX7_planFor 41 = .ok (.iload 7, 2) := by decide +kernel
theorem dX7_planFor_43 : decode cX7_planFor 43 = .ok (.iconst 1, 1) := by decide +kernel
theorem dX7_planFor_44 : decode cX7_planFor 44 = .ok (.iadd, 1) := by decide +kernel
theorem dX7_planFor_45 : decode cX7_planFor 45 = .ok (.aaload, 1) := by decide +kernel
theorem dX7_planFor_46 : decode cX7_planFor 46 = .ok (.astore 8, 2) := by decide +kernel
theorem dX7_planFor_48 : decode cX7_planFor 48 = .ok (.aload 8, 2) := by decide +kernel
theorem dX7_planFor_50 : decode cX7_planFor 50 = .ok (.aload_n 0, 1) := by decide +kernel
theorem dX7_planFor_51 : decode cX7_planFor 51 = .ok (.getfield 78, 3) := by decide +kernel
theorem dX7_planFor_54 : decode cX7_planFor 54 = .ok (.iload 7, 2) := by decide +kernel
theorem dX7_planFor_56 : decode cX7_planFor 56 = .ok (.aaload, 1) := by decide +kernel
theorem dX7_planFor_57 : decode cX7_planFor 57 = .ok (.invokevirtual 109, 3) := by decide +kernel
theorem dX7_planFor_60 : decode cX7_planFor 60 = .ok (.aload 8, 2) := by decide +kernel
theorem dX7_planFor_62 : decode cX7_planFor 62 = .ok (.getfield 164, 3) := by decide +kernel
theorem dX7_planFor_65 : decode cX7_planFor 65 = .ok (.iload_n 1, 1) := by decide +kernel
theorem dX7_planFor_66 : decode cX7_planFor 66 = .ok (.aload_n 0, 1) := by decide +kernel
theorem dX7_planFor_67 : decode cX7_planFor 67 = .ok (.getfield 37, 3) := by decide +kernel
theorem dX7_planFor_70 : decode cX7_planFor 70 = .ok (.iload 7, 2) := by decide +kernel
theorem dX7_planFor_72 : decode cX7_planFor 72 = .ok (.iaload, 1) := by decide +kernel
theorem dX7_planFor_73 : decode cX7_planFor 73 = .ok (.iastore, 1) := by decide +kernel
theorem dX7_planFor_74 : decode cX7_planFor 74 = .ok (.aload 8, 2) := by decide +kernel
theorem dX7_planFor_76 : decode cX7_planFor 76 = .ok (.invokevirtual 278, 3) := by decide +kernel
theorem dX7_planFor_79 : decode cX7_planFor 79 = .ok (.iinc 7 1, 3) := by decide +kernel
theorem dX7_planFor_82 : decode cX7_planFor 82 = .ok (.goto (-51), 3) := by decide +kernel
theorem dX7_planFor_85 : decode cX7_planFor 85 = .ok (.aload_n 0, 1) := by decide +kernel
theorem dX7_planFor_86 : decode cX7_planFor 86 = .ok (.getfield 78, 3) := by decide +kernel
theorem dX7_planFor_89 : decode cX7_planFor 89 = .ok (.iload_n 2, 1) := by decide +kernel
theorem dX7_planFor_90 : decode cX7_planFor 90 = .ok (.aaload, 1) := by decide +kernel
theorem dX7_planFor_91 : decode cX7_planFor 91 = .ok (.getfield 167, 3) := by decide +kernel
theorem dX7_planFor_94 : decode cX7_planFor 94 = .ok (.iload_n 1, 1) := by decide +kernel
theorem dX7_planFor_95 : decode cX7_planFor 95 = .ok (.iaload, 1) := by decide +kernel
theorem dX7_planFor_96 : decode cX7_planFor 96 = .ok (.aload_n 0, 1) := by decide +kernel
theorem dX7_planFor_97 : decode cX7_planFor 97 = .ok (.getfield 72, 3) := by decide +kernel
theorem dX7_planFor_100 : decode cX7_planFor 100 = .ok (.getfield 167, 3) := by decide +kernel
theorem dX7_planFor_103 : decode cX7_planFor 103 = .ok (.iload_n 1, 1) := by decide +kernel
theorem dX7_planFor_104 : decode cX7_planFor 104 = .ok (.iaload, 1) := by decide +kernel
theorem dX7_planFor_105 : decode cX7_planFor 105 = .ok (.isub, 1) := by decide +kernel
theorem dX7_planFor_106 : decode cX7_planFor 106 = .ok (.istore 7, 2) := by decide +kernel
theorem dX7_planFor_108 : decode cX7_planFor 108 = .ok (.iload 7, 2) := by decide +kernel
theorem dX7_planFor_110 : decode cX7_planFor 110 = .ok (.iload 4, 2) := by decide +kernel
theorem dX7_planFor_112 : decode cX7_planFor 112 = .ok (.if_icmp .le 21, 3) := by decide +kernel
theorem dX7_planFor_115 : decode cX7_planFor 115 = .ok (.iload 7, 2) := by decide +kernel
theorem dX7_planFor_117 : decode cX7_planFor 117 = .ok (.istore 4, 2) := by decide +kernel
theorem dX7_planFor_119 : decode cX7_planFor 119 = .ok (.aload_n 0, 1) := by decide +kernel
theorem dX7_planFor_120 : decode cX7_planFor 120 = .ok (.getfield 37, 3) := by decide +kernel
theorem dX7_planFor_123 : decode cX7_planFor 123 = .ok (.iconst 0, 1) := by decide +kernel
theorem dX7_planFor_124 : decode cX7_planFor 124 = .ok (.aload_n 0, 1) := by decide +kernel
theorem dX7_planFor_125 : decode cX7_planFor 125 = .ok (.getfield 41, 3) := by decide +kernel
theorem dX7_planFor_128 : decode cX7_planFor 128 = .ok (.iconst 0, 1) := by decide +kernel
theorem dX7_planFor_129 : decode cX7_planFor 129 = .ok (.iload_n 2, 1) := by decide +kernel
theorem dX7_planFor_130 : decode cX7_planFor 130 = .ok (.invokestatic 281, 3) := by decide +kernel
theorem dX7_planFor_133 : decode cX7_planFor 133 = .ok (.aload_n 0, 1) := by decide +kernel
theorem dX7_planFor_134 : decode cX7_planFor 134 = .ok (.iload_n 2, 1) := by decide +kernel
theorem dX7_planFor_135 : decode cX7_planFor 135 = .ok (.iconst 1, 1) := by decide +kernel
theorem dX7_planFor_136 : decode cX7_planFor 136 = .ok (.iconst 3, 1) := by decide +kernel
theorem dX7_planFor_137 : decode cX7_planFor 137 = .ok (.invokevirtual 287, 3) := by decide +kernel
theorem dX7_planFor_140 : decode cX7_planFor 140 = .ok (.istore 5, 2) := by decide +kernel
theorem dX7_planFor_142 : decode cX7_planFor 142 = .ok (.iinc 6 1, 3) := by decide +kernel
theorem dX7_planFor_145 : decode cX7_planFor 145 = .ok (.goto (-124), 3) := by decide +kernel
theorem dX7_planFor_148 : decode cX7_planFor 148 = .ok (.iload 4, 2) := by decide +kernel
theorem dX7_planFor_150 : decode cX7_planFor 150 = .ok (.ireturn, 1) := by decide +kernel
def f_X7_isStripe (h : Hp) (p1 : Int32) : Option Bool :=
  jn (fun (v1 : Bool) =>
    some v1) fun (j20 : Bool → Option Bool) =>
  jn (
    j20 false) fun (j19 : Option Bool) =>
  if p1 < 0 then
    j19
  else
  onO (gO h 7 0 13) fun o2 =>
  if (gI h 5 o2 11) ≤ p1 then
    j19
  else
  j20 true
abbrev rmX7_isStripe : Room := { frames := 0, cells := 0, slots := 0, locals := 0 }
set_option maxRecDepth 100000 in
set_option maxHeartbeats 4000000 in
theorem w_X7_isStripe (X : Cx) (F : Fx X cX7_isStripe RX7 (some .boolean) rmX7_isStripe) (hA : xA X = Aw (xG X)) (hL : xL X = 2) (h : Hp) (p1 : Int32) : Wm X (fun v => some (.int (b2i v))) (fun _ => h) (fun _ => True) 0 [(0, .ref (adr (xG X) 7 0 0)), (1, .int p1)] [] h (f_X7_isStripe h p1) := by
  have hS : ∀ i : Nat, i < 2 → i < xL X := fun i z => by rw [hL]; exact z
  unfold f_X7_isStripe
  refine r_iload_n F 1 rfl dX7_isStripe_0 rfl ?_
  refine Wt_jn (fun (j20 : Bool → Option Bool) => ∀ v1 : Bool, Wm X (fun v => some (.int (b2i v))) (fun _ => h) (fun _ => True) 20 [] [.int (b2i v1)] h (j20 v1)) ?_ fun j20 hj20 => ?_
  · intro v1
    exact r_zret F hA v1 rfl rfl rfl trivial dX7_isStripe_20
  refine Wt_jn (fun (j19 : Option Bool) => Wm X (fun v => some (.int (b2i v))) (fun _ => h) (fun _ => True) 19 [] [] h (j19)) ?_ fun j19 hj19 => ?_
  · skip
    refine r_iconst F (v := 0) dX7_isStripe_19 (by decide) ?_
    exact Wt_pick [] rfl (hj20 false)
  refine r_iflt F (tgt := 19) dX7_isStripe_1 (by decide) ?_ ?_
  · skip
    exact Wt_pick [] rfl (hj19)
  refine r_iload_n F 1 rfl dX7_isStripe_4 rfl ?_
  refine r_aload_n F 0 rfl dX7_isStripe_5 rfl ?_
  refine r_getO F frX7_56 (by decide) dX7_isStripe_6 fun o2 hp_o2 => ?_
  refine r_getI F frX7_307 hp_o2 dX7_isStripe_9 ?_
  refine r_icmpge F (tgt := 19) dX7_isStripe_12 (by decide) ?_ ?_
  · skip
    exact Wt_pick [] rfl (hj19)
  refine r_iconst F (v := 1) dX7_isStripe_15 (by decide) ?_
  refine r_goto F (tgt := 20) dX7_isStripe_16 (by decide) ?_
  exact Wt_pick [] rfl (hj20 true)
theorem c_X7_isStripe (G : Gx) (l : Launch) (h : Hp) (p1 : Int32) : Ctr G l yX7_isStripe (.code yX7_isStripe cX7_isStripe 2 (some .boolean) :: GT) rmX7_isStripe [.ref (adr G 7 0 0), .int p1] h (f_X7_isStripe h p1) (fun v => some (.int (b2i v))) (fun _ => h) (fun _ => True) :=
  ctr_of (by decide) (Nat.le_of_ble_eq_true rfl) ⟨rfl, rfl⟩ fun X _ e2 hA hL F => by subst e2; exact w_X7_isStripe X F hA hL h p1
def f_X7_lot (h : Hp) (p1 : Int32) (p2 : Int32) : Option (Bool × Hp) :=
  (f_X7_isStripe h p1).bind fun v1 =>
  jn (
    some (false, h)) fun (j29 : Option (Bool × Hp)) =>
  if (b2i v1) = 0 then
    j29
  else
  (f_X7_isCroft h p2).bind fun v2 =>
  if (b2i v2) = 0 then
    j29
  else
  grd (inb p1 8) <|
  if ¬ (gA h 3 1 1 p1.toNatClampNeg) = p2 then
    grd (inb p1 8) <|
    (f_X6_add h 2 p1 (gA h 3 1 1 p1.toNatClampNeg)).bind fun h3 =>
    grd (inb p1 8) <| lt_ (sA h3 3 1 1 p1.toNatClampNeg p2) fun h4 =>
    some (true, h4)
  else
  j29
abbrev rmX7_lot : Room := { frames := 2, cells := 0, slots := 0, locals := 41 }
set_option maxRecDepth 100000 in
set_option maxHeartbeats 4000000 in
theorem w_X7_lot (X : Cx) (F : Fx X cX7_lot RX7 (some .boolean) rmX7_lot) (hA : xA X = Aw (xG X)) (hL : xL X = 3) (h : Hp) (p1 : Int32) (p2 : Int32) : Wm X (fun v => some (.int (b2i v.1))) (fun v => v.2) (fun _ => True) 0 [(0, .ref (adr (xG X) 7 0 0)), (1, .int p1), (2, .int p2)] [] h (f_X7_lot h p1 p2) := by
  have hS : ∀ i : Nat, i < 3 → i < xL X := fun i z => by rw [hL]; exact z
  unfold f_X7_lot
  refine r_aload_n F 0 rfl dX7_lot_0 rfl ?_
  refine r_iload_n F 1 rfl dX7_lot_1 rfl ?_
  refine k_zP (run_V F cvX7_130 (by decide) (c_X7_isStripe (xG X) _ h p1) rfl rfl ⟨⟨rfl, rfl⟩, Nat.le_of_ble_eq_true rfl, Nat.le_of_ble_eq_true rfl⟩ (Nat.le_of_ble_eq_true rfl) dX7_lot_2) fun v1 _ => ?_
  refine Wt_jn (fun (j29 : Option (Bool × Hp)) => Wm X (fun v => some (.int (b2i v.1))) (fun v => v.2) (fun _ => True) 29 [] [] h (j29)) ?_ fun j29 hj29 => ?_
  · skip
    refine r_iconst F (v := 0) dX7_lot_29 (by decide) ?_
    exact r_zret F hA false rfl rfl rfl trivial dX7_lot_30
  refine r_ifeq F (tgt := 29) dX7_lot_5 (by decide) ?_ ?_
  · skip
    exact Wt_pick [] rfl (hj29)
  refine r_aload_n F 0 rfl dX7_lot_8 rfl ?_
  refine r_iload_n F 2 rfl dX7_lot_9 rfl ?_
  refine k_zP (run_V F cvX7_152 (by decide) (c_X7_isCroft (xG X) _ h p2) rfl rfl ⟨⟨rfl, rfl⟩, Nat.le_of_ble_eq_true rfl, Nat.le_of_ble_eq_true rfl⟩ (Nat.le_of_ble_eq_true rfl) dX7_lot_10) fun v2 _ => ?_
  refine r_ifeq F (tgt := 29) dX7_lot_13 (by decide) ?_ ?_
  · skip
    exact Wt_pick [] rfl (hj29)
  refine r_aload_n F 0 rfl dX7_lot_16 rfl ?_
  refine r_getS F frX7_72 (by decide) 1 rfl dX7_lot_17 ?_
  refine r_getA F frX7_149 (by decide) dX7_lot_20 ?_
  refine r_iload_n F 1 rfl dX7_lot_23 rfl ?_
  refine r_iaload F (ar_3_1 1 (by decide)) dX7_lot_24 ?_
  refine r_iload_n F 2 rfl dX7_lot_25 rfl ?_
  refine r_icmpne F (tgt := 31) dX7_lot_26 (by decide) ?_ ?_
  · skip
    refine r_aload_n F 0 rfl dX7_lot_31 rfl ?_
    refine r_getS F frX7_33 (by decide) 0 rfl dX7_lot_32 ?_
    refine r_iconst F (v := 2) dX7_lot_35 (by decide) ?_
    refine r_iload_n F 1 rfl dX7_lot_36 rfl ?_
    refine r_aload_n F 0 rfl dX7_lot_37 rfl ?_
    refine r_getS F frX7_72 (by decide) 1 rfl dX7_lot_38 ?_
    refine r_getA F frX7_149 (by decide) dX7_lot_41 ?_
    refine r_iload_n F 1 rfl dX7_lot_44 rfl ?_
    refine r_iaload F (ar_3_1 1 (by decide)) dX7_lot_45 ?_
    refine k_vH (run_V F cvX7_224 (by decide) (c_X6_add (xG X) _ h 2 p1 (gA h 3 1 1 p1.toNatClampNeg)) rfl rfl ⟨⟨rfl, rfl⟩, Nat.le_of_ble_eq_true rfl, Nat.le_of_ble_eq_true rfl⟩ (Nat.le_of_ble_eq_true rfl) dX7_lot_46) fun h3 => ?_
    refine r_aload_n F 0 rfl dX7_lot_49 rfl ?_
    refine r_getS F frX7_72 (by decide) 1 rfl dX7_lot_50 ?_
    refine r_getA F frX7_149 (by decide) dX7_lot_53 ?_
    refine r_iload_n F 1 rfl dX7_lot_56 rfl ?_
    refine r_iload_n F 2 rfl dX7_lot_57 rfl ?_
    refine r_iastore F (ar_3_1 1 (by decide)) dX7_lot_58 fun h4 => ?_
    refine r_iconst F (v := 1) dX7_lot_59 (by decide) ?_
    exact r_zret F hA true rfl rfl rfl trivial dX7_lot_60
  exact Wt_pick [] rfl (hj29)
theorem c_X7_lot (G : Gx) (l : Launch) (h : Hp) (p1 : Int32) (p2 : Int32) : Ctr G l yX7_lot (.code yX7_lot cX7_lot 3 (some .boolean) :: GT) rmX7_lot [.ref (adr G 7 0 0), .int p1, .int p2] h (f_X7_lot h p1 p2) (fun v => some (.int (b2i v.1))) (fun v => v.2) (fun _ => True) :=
  ctr_of (by decide) (Nat.le_of_ble_eq_true rfl) ⟨rfl, rfl⟩ fun X _ e2 hA hL F => by subst e2; exact w_X7_lot X F hA hL h p1 p2
def f_X7_canLend (h : Hp) (p1 : Int32) (p2 : Int32) : Option Bool :=
  (f_X7_isCroft h p1).bind fun v1 =>
  jn (fun (v2 : Bool) =>
    some v2) fun (j51 : Bool → Option Bool) =>
  jn (
    j51 false) fun (j50 : Option Bool) =>
  if (b2i v1) = 0 then
    j50
  else
  (f_X7_isCroft h p2).bind fun v3 =>
  if (b2i v3) = 0 then
    j50
  else
  if p1 = p2 then
    j50
  else
  grd (inb p1 4) <|
  if (gA h 3 1 2 p1.toNatClampNeg) ≤ 0 then
    j50
  else
  grd (inb p2 4) <|
  if 5 ≤ (gA h 3 1 2 p2.toNatClampNeg) then
    j50
  else
  j51 true
abbrev rmX7_canLend : Room := { frames := 1, cells := 0, slots := 0, locals := 21 }
set_option maxRecDepth 100000 in
set_option maxHeartbeats 4000000 in
theorem w_X7_canLend (X : Cx) (F : Fx X cX7_canLend RX7 (some .boolean) rmX7_canLend) (hA : xA X = Aw (xG X)) (hL : xL X = 3) (h : Hp) (p1 : Int32) (p2 : Int32) : Wm X (fun v => some (.int (b2i v))) (fun _ => h) (fun _ => True) 0 [(0, .ref (adr (xG X) 7 0 0)), (1, .int p1), (2, .int p2)] [] h (f_X7_canLend h p1 p2) := by
  have hS : ∀ i : Nat, i < 3 → i < xL X := fun i z => by rw [hL]; exact z
  unfold f_X7_canLend
  refine r_aload_n F 0 rfl dX7_canLend_0 rfl ?_
  refine r_iload_n F 1 rfl dX7_canLend_1 rfl ?_
  refine k_zP (run_V F cvX7_152 (by decide) (c_X7_isCroft (xG X) _ h p1) rfl rfl ⟨⟨rfl, rfl⟩, Nat.le_of_ble_eq_true rfl, Nat.le_of_ble_eq_true rfl⟩ (Nat.le_of_ble_eq_true rfl) dX7_canLend_2) fun v1 _ => ?_
  refine Wt_jn (fun (j51 : Bool → Option Bool) => ∀ v2 : Bool, Wm X (fun v => some (.int (b2i v))) (fun _ => h) (fun _ => True) 51 [] [.int (b2i v2)] h (j51 v2)) ?_ fun j51 hj51 => ?_
  · intro v2
    exact r_zret F hA v2 rfl rfl rfl trivial dX7_canLend_51
  refine Wt_jn (fun (j50 : Option Bool) => Wm X (fun v => some (.int (b2i v))) (fun _ => h) (fun _ => True) 50 [] [] h (j50)) ?_ fun j50 hj50 => ?_
  · skip
    refine r_iconst F (v := 0) dX7_canLend_50 (by decide) ?_
    exact Wt_pick [] rfl (hj51 false)
  refine r_ifeq F (tgt := 50) dX7_canLend_5 (by decide) ?_ ?_
  · skip
    exact Wt_pick [] rfl (hj50)
  refine r_aload_n F 0 rfl dX7_canLend_8 rfl ?_
  refine r_iload_n F 2 rfl dX7_canLend_9 rfl ?_
  refine k_zP (run_V F cvX7_152 (by decide) (c_X7_isCroft (xG X) _ h p2) rfl rfl ⟨⟨rfl, rfl⟩, Nat.le_of_ble_eq_true rfl, Nat.le_of_ble_eq_true rfl⟩ (Nat.le_of_ble_eq_true rfl) dX7_canLend_10) fun v3 _ => ?_
  refine r_ifeq F (tgt := 50) dX7_canLend_13 (by decide) ?_ ?_
  · skip
    exact Wt_pick [] rfl (hj50)
  refine r_iload_n F 1 rfl dX7_canLend_16 rfl ?_
  refine r_iload_n F 2 rfl dX7_canLend_17 rfl ?_
  refine r_icmpeq F (tgt := 50) dX7_canLend_18 (by decide) ?_ ?_
  · skip
    exact Wt_pick [] rfl (hj50)
  refine r_aload_n F 0 rfl dX7_canLend_21 rfl ?_
  refine r_getS F frX7_72 (by decide) 1 rfl dX7_canLend_22 ?_
  refine r_getA F frX7_155 (by decide) dX7_canLend_25 ?_
  refine r_iload_n F 1 rfl dX7_canLend_28 rfl ?_
  refine r_iaload F (ar_3_2 1 (by decide)) dX7_canLend_29 ?_
  refine r_ifle F (tgt := 50) dX7_canLend_30 (by decide) ?_ ?_
  · skip
    exact Wt_pick [] rfl (hj50)
  refine r_aload_n F 0 rfl dX7_canLend_33 rfl ?_
  refine r_getS F frX7_72 (by decide) 1 rfl dX7_canLend_34 ?_
  refine r_getA F frX7_155 (by decide) dX7_canLend_37 ?_
  refine r_iload_n F 2 rfl dX7_canLend_40 rfl ?_
  refine r_iaload F (ar_3_2 1 (by decide)) dX7_canLend_41 ?_
  refine r_iconst F (v := 5) dX7_canLend_42 (by decide) ?_
  refine r_icmpge F (tgt := 50) dX7_canLend_43 (by decide) ?_ ?_
  · skip
    exact Wt_pick [] rfl (hj50)
  refine r_iconst F (v := 1) dX7_canLend_46 (by decide) ?_
  refine r_goto F (tgt := 51) dX7_canLend_47 (by decide) ?_
  exact Wt_pick [] rfl (hj51 true)
theorem c_X7_canLend (G : Gx) (l : Launch) (h : Hp) (p1 : Int32) (p2 : Int32) : Ctr G l yX7_canLend (.code yX7_canLend cX7_canLend 3 (some .boolean) :: GT) rmX7_canLend [.ref (adr G 7 0 0), .int p1, .int p2] h (f_X7_canLend h p1 p2) (fun v => some (.int (b2i v))) (fun _ => h) (fun _ => True) :=
  ctr_of (by decide) (Nat.le_of_ble_eq_true rfl) ⟨rfl, rfl⟩ fun X _ e2 hA hL F => by subst e2; exact w_X7_canLend X F hA hL h p1 p2
def f_X7_lend (h : Hp) (p1 : Int32) (p2 : Int32) : Option (Bool × Hp) :=
  (f_X7_canLend h p1 p2).bind fun v1 =>
  if ¬ (b2i v1) = 0 then
    (f_X6_add h 3 p1 p2).bind fun h2 =>
    (f_X3_moveCart h2 1 p1 p2).bind fun h3 =>
    some (true, h3)
  else
  some (false, h)
abbrev rmX7_lend : Room := { frames := 2, cells := 0, slots := 0, locals := 43 }
set_option maxRecDepth 100000 in
set_option maxHeartbeats 4000000 in
theorem w_X7_lend (X : Cx) (F : Fx X cX7_lend RX7 (some .boolean) rmX7_lend) (hA : xA X = Aw (xG X)) (hL : xL X = 3) (h : Hp) (p1 : Int32) (p2 : Int32) : Wm X (fun v => some (.int (b2i v.1))) (fun v => v.2) (fun _ => True) 0 [(0, .ref (adr (xG X) 7 0 0)), (1, .int p1), (2, .int p2)] [] h (f_X7_lend h p1 p2) := by
  have hS : ∀ i : Nat, i < 3 → i < xL X := fun i z => by rw [hL]; exact z
  unfold f_X7_lend
  refine r_aload_n F 0 rfl dX7_lend_0 rfl ?_
  refine r_iload_n F 1 rfl dX7_lend_1 rfl ?_
  refine r_iload_n F 2 rfl dX7_lend_2 rfl ?_
  refine k_zP (run_V F cvX7_234 (by decide) (c_X7_canLend (xG X) _ h p1 p2) rfl rfl ⟨⟨rfl, rfl⟩, Nat.le_of_ble_eq_true rfl, Nat.le_of_ble_eq_true rfl⟩ (Nat.le_of_ble_eq_true rfl) dX7_lend_3) fun v1 _ => ?_
  refine r_ifne F (tgt := 11) dX7_lend_6 (by decide) ?_ ?_
  · skip
    refine r_aload_n F 0 rfl dX7_lend_11 rfl ?_
    refine r_getS F frX7_33 (by decide) 0 rfl dX7_lend_12 ?_
    refine r_iconst F (v := 3) dX7_lend_15 (by decide) ?_
    refine r_iload_n F 1 rfl dX7_lend_16 rfl ?_
    refine r_iload_n F 2 rfl dX7_lend_17 rfl ?_
    refine k_vH (run_V F cvX7_224 (by decide) (c_X6_add (xG X) _ h 3 p1 p2) rfl rfl ⟨⟨rfl, rfl⟩, Nat.le_of_ble_eq_true rfl, Nat.le_of_ble_eq_true rfl⟩ (Nat.le_of_ble_eq_true rfl) dX7_lend_18) fun h2 => ?_
    refine r_aload_n F 0 rfl dX7_lend_21 rfl ?_
    refine r_getS F frX7_72 (by decide) 1 rfl dX7_lend_22 ?_
    refine r_iload_n F 1 rfl dX7_lend_25 rfl ?_
    refine r_iload_n F 2 rfl dX7_lend_26 rfl ?_
    refine k_vH (run_V F cvX7_238 (by decide) (c_X3_moveCart (xG X) _ h2 1 (by decide) p1 p2) rfl rfl ⟨⟨rfl, rfl⟩, Nat.le_of_ble_eq_true rfl, Nat.le_of_ble_eq_true rfl⟩ (Nat.le_of_ble_eq_true rfl) dX7_lend_27) fun h3 => ?_
    refine r_iconst F (v := 1) dX7_lend_30 (by decide) ?_
    exact r_zret F hA true rfl rfl rfl trivial dX7_lend_31
  refine r_iconst F (v := 0) dX7_lend_9 (by decide) ?_
  exact r_zret F hA false rfl rfl rfl trivial dX7_lend_10
theorem c_X7_lend (G : Gx) (l : Launch) (h : Hp) (p1 : Int32) (p2 : Int32) : Ctr G l yX7_lend (.code yX7_lend cX7_lend 3 (some .boolean) :: GT) rmX7_lend [.ref (adr G 7 0 0), .int p1, .int p2] h (f_X7_lend h p1 p2) (fun v => some (.int (b2i v.1))) (fun v => v.2) (fun _ => True) :=
  ctr_of (by decide) (Nat.le_of_ble_eq_true rfl) ⟨rfl, rfl⟩ fun X _ e2 hA hL F => by subst e2; exact w_X7_lend X F hA hL h p1 p2
def f_X7_go (N : Nat) (h : Hp) (p1 : Int32) : Option (Int32 × Hp) :=
  jn (
    some ((-1), h)) fun (j25 : Option (Int32 × Hp)) =>
  if p1 < 0 then
    j25
  else
  if 99 < p1 then
    j25
  else
  if ((gI h 3 1 11) + p1) ≤ 9999 then
    jn (fun (h1 : Hp) =>
      (f_X3_passHoursWithGales N h1 1 p1).bind fun h2 =>
      some ((gI h2 3 1 11), h2)) fun (j39 : Hp → Option (Int32 × Hp)) =>
    if p1 ≤ 0 then
      j39 h
    else
    lt_ (sI h 6 0 3 0) fun h3 =>
    j39 h3
  else
  j25
abbrev rmX7_go : Room := { frames := 6, cells := 0, slots := 0, locals := 148 }
set_option maxRecDepth 100000 in
set_option maxHeartbeats 4000000 in
theorem w_X7_go (X : Cx) (F : Fx X cX7_go RX7 (some .int) rmX7_go) (hA : xA X = Aw (xG X)) (hL : xL X = 2) (N : Nat) (h : Hp) (p1 : Int32) : Wm X (fun v => some (.int v.1)) (fun v => v.2) (fun _ => True) 0 [(0, .ref (adr (xG X) 7 0 0)), (1, .int p1)] [] h (f_X7_go N h p1) := by
  have hS : ∀ i : Nat, i < 2 → i < xL X := fun i z => by rw [hL]; exact z
  unfold f_X7_go
  refine r_iload_n F 1 rfl dX7_go_0 rfl ?_
  refine Wt_jn (fun (j25 : Option (Int32 × Hp)) => Wm X (fun v => some (.int v.1)) (fun v => v.2) (fun _ => True) 25 [] [] h (j25)) ?_ fun j25 hj25 => ?_
  · skip
    refine r_iconst F (v := (-1)) dX7_go_25 (by decide) ?_
    exact r_iret F hA rfl rfl trivial dX7_go_26
  refine r_iflt F (tgt := 25) dX7_go_1 (by decide) ?_ ?_
  · skip
    exact Wt_pick [] rfl (hj25)
  refine r_iload_n F 1 rfl dX7_go_4 rfl ?_
  refine r_bipush F (v := 99) dX7_go_5 (by decide) ?_
  refine r_icmpgt F (tgt := 25) dX7_go_7 (by decide) ?_ ?_
  · skip
    exact Wt_pick [] rfl (hj25)
  refine r_aload_n F 0 rfl dX7_go_10 rfl ?_
  refine r_getS F frX7_72 (by decide) 1 rfl dX7_go_11 ?_
  refine r_getI F frX7_241 (by decide) dX7_go_14 ?_
  refine r_iload_n F 1 rfl dX7_go_17 rfl ?_
  refine r_iadd F dX7_go_18 ?_
  refine r_sipush F (v := 9999) dX7_go_19 (by decide) ?_
  refine r_icmple F (tgt := 27) dX7_go_22 (by decide) ?_ ?_
  · skip
    refine r_iload_n F 1 rfl dX7_go_27 rfl ?_
    refine Wt_jn (fun (j39 : Hp → Option (Int32 × Hp)) => ∀ h1 : Hp, Wm X (fun v => some (.int v.1)) (fun v => v.2) (fun _ => True) 39 [(0, .ref (adr (xG X) 7 0 0)), (1, .int p1)] [] h1 (j39 h1)) ?_ fun j39 hj39 => ?_
    · intro h1
      refine r_aload_n F 0 rfl dX7_go_39 rfl ?_
      refine r_getS F frX7_72 (by decide) 1 rfl dX7_go_40 ?_
      refine r_iload_n F 1 rfl dX7_go_43 rfl ?_
      refine k_vH (run_V F cvX7_244 (by decide) (c_X3_passHoursWithGales (xG X) _ N h1 1 (by decide) p1) rfl rfl ⟨⟨rfl, rfl⟩, Nat.le_of_ble_eq_true rfl, Nat.le_of_ble_eq_true rfl⟩ (Nat.le_of_ble_eq_true rfl) dX7_go_44) fun h2 => ?_
      refine r_aload_n F 0 rfl dX7_go_47 rfl ?_
      refine r_getS F frX7_72 (by decide) 1 rfl dX7_go_48 ?_
      refine r_getI F frX7_241 (by decide) dX7_go_51 ?_
      exact r_iret F hA rfl rfl trivial dX7_go_54
    refine r_ifle F (tgt := 39) dX7_go_28 (by decide) ?_ ?_
    · skip
      exact Wt_pick [0, 1] rfl (hj39 h)
    refine r_aload_n F 0 rfl dX7_go_31 rfl ?_
    refine r_getS F frX7_33 (by decide) 0 rfl dX7_go_32 ?_
    refine r_iconst F (v := 0) dX7_go_35 (by decide) ?_
    refine r_putI F frX7_117 (by decide) rfl rfl dX7_go_36 fun h3 => ?_
    exact Wt_pick [0, 1] rfl (hj39 h3)
  exact Wt_pick [] rfl (hj25)
theorem c_X7_go (G : Gx) (l : Launch) (N : Nat) (h : Hp) (p1 : Int32) : Ctr G l yX7_go (.code yX7_go cX7_go 2 (some .int) :: GT) rmX7_go [.ref (adr G 7 0 0), .int p1] h (f_X7_go N h p1) (fun v => some (.int v.1)) (fun v => v.2) (fun _ => True) :=
  ctr_of (by decide) (Nat.le_of_ble_eq_true rfl) ⟨rfl, rfl⟩ fun X _ e2 hA hL F => by subst e2; exact w_X7_go X F hA hL N h p1
def f_X7_isIn (p0 : Int32) (p1 : Int32) (p2 : Int32) : Option Bool :=
  jn (fun (v1 : Bool) =>
    some v1) fun (j15 : Bool → Option Bool) =>
  jn (
    j15 false) fun (j14 : Option Bool) =>
  if p0 < p1 then
    j14
  else
  if p2 < p0 then
    j14
  else
  j15 true
abbrev rmX7_isIn : Room := { frames := 0, cells := 0, slots := 0, locals := 0 }
set_option maxRecDepth 100000 in
set_option maxHeartbeats 4000000 in
theorem w_X7_isIn (X : Cx) (F : Fx X cX7_isIn RX7 (some .boolean) rmX7_isIn) (hA : xA X = Aw (xG X)) (hL : xL X = 3) (h : Hp) (p0 : Int32) (p1 : Int32) (p2 : Int32) : Wm X (fun v => some (.int (b2i v))) (fun _ => h) (fun _ => True) 0 [(0, .int p0), (1, .int p1), (2, .int p2)] [] h (f_X7_isIn p0 p1 p2) := by
  have hS : ∀ i : Nat, i < 3 → i < xL X := fun i z => by rw [hL]; exact z
  unfold f_X7_isIn
  refine r_iload_n F 0 rfl dX7_isIn_0 rfl ?_
  refine r_iload_n F 1 rfl dX7_isIn_1 rfl ?_
  refine Wt_jn (fun (j15 : Bool → Option Bool) => ∀ v1 : Bool, Wm X (fun v => some (.int (b2i v))) (fun _ => h) (fun _ => True) 15 [] [.int (b2i v1)] h (j15 v1)) ?_ fun j15 hj15 => ?_
  · intro v1
    exact r_zret F hA v1 rfl rfl rfl trivial dX7_isIn_15
  refine Wt_jn (fun (j14 : Option Bool) => Wm X (fun v => some (.int (b2i v))) (fun _ => h) (fun _ => True) 14 [] [] h (j14)) ?_ fun j14 hj14 => ?_
  · skip
    refine r_iconst F (v := 0) dX7_isIn_14 (by decide) ?_
    exact Wt_pick [] rfl (hj15 false)
  refine r_icmplt F (tgt := 14) dX7_isIn_2 (by decide) ?_ ?_
  · skip
    exact Wt_pick [] rfl (hj14)
  refine r_iload_n F 0 rfl dX7_isIn_5 rfl ?_
  refine r_iload_n F 2 rfl dX7_isIn_6 rfl ?_
  refine r_icmpgt F (tgt := 14) dX7_isIn_7 (by decide) ?_ ?_
  · skip
    exact Wt_pick [] rfl (hj14)
  refine r_iconst F (v := 1) dX7_isIn_10 (by decide) ?_
  refine r_goto F (tgt := 15) dX7_isIn_11 (by decide) ?_
  exact Wt_pick [] rfl (hj15 true)
theorem c_X7_isIn (G : Gx) (l : Launch) (h : Hp) (p0 : Int32) (p1 : Int32) (p2 : Int32) : Ctr G l yX7_isIn (.code yX7_isIn cX7_isIn 3 (some .boolean) :: GT) rmX7_isIn [.int p0, .int p1, .int p2] h (f_X7_isIn p0 p1 p2) (fun v => some (.int (b2i v))) (fun _ => h) (fun _ => True) :=
  ctr_of (by decide) (Nat.le_of_ble_eq_true rfl) ⟨rfl, rfl⟩ fun X _ e2 hA hL F => by subst e2; exact w_X7_isIn X F hA hL h p0 p1 p2
def f_X7_ruledBy_23 (N : Nat) (p2 : Int32) (o1 : Nat) (r23 : Int32 → Hp → Option (Nat × Hp)) (v4 : Int32) (h5 : Hp) : Option (Nat × Hp) :=
  if 4 ≤ v4 then
    (f_X3_passHours N h5 o1 p2).bind fun h6 =>
    some (o1, h6)
  else
  grd (inb v4 4) <| lt_ (sA h5 3 o1 5 v4.toNatClampNeg 0) fun h7 =>
  lt_ (v4 + 1) fun v8 =>
  r23 v8 h7
def f_X7_ruledBy (N : Nat) (h : Hp) (p1 : Int32) (p2 : Int32) : Option (Nat × Hp) :=
  grd (inb 0 7) <| lt_ (3 + (0 : Int32).toNatClampNeg) fun o1 =>
  (f_X3_copy h o1 1).bind fun h2 =>
  lt_ (sI h2 3 o1 14 p1) fun h3 =>
  iter (fun _ _ => none) (f_X7_ruledBy_23 N p2 o1) N 0 h3
abbrev rmX7_ruledBy : Room := { frames := 6, cells := 0, slots := 0, locals := 148 }
set_option maxRecDepth 100000 in
set_option maxHeartbeats 4000000 in
theorem w_X7_ruledBy (X : Cx) (F : Fx X cX7_ruledBy RX7 (some (.object "WeedStrand$Strand")) rmX7_ruledBy) (hA : xA X = Aw (xG X)) (hL : xL X = 5) (N : Nat) (h : Hp) (p1 : Int32) (p2 : Int32) : Wm X (fun v => some (.ref (adr (xG X) 3 v.1 0))) (fun v => v.2) (fun v => v.1 < cnt 3) 0 [(0, .ref (adr (xG X) 7 0 0)), (1, .int p1), (2, .int p2)] [] h (f_X7_ruledBy N h p1 p2) := by
  have hS : ∀ i : Nat, i < 5 → i < xL X := fun i z => by rw [hL]; exact z
  unfold f_X7_ruledBy
  refine r_aload_n F 0 rfl dX7_ruledBy_0 rfl ?_
  refine r_getA F frX7_78 (by decide) dX7_ruledBy_1 ?_
  refine r_iconst F (v := 0) dX7_ruledBy_4 (by decide) ?_
  refine r_aaload F dX7_ruledBy_5 fun o1 hp_o1 => ?_
  refine r_astore_n F [(3, .ref (adr (xG X) 3 o1 0)), (0, .ref (adr (xG X) 7 0 0)), (1, .int p1), (2, .int p2)] rfl dX7_ruledBy_6 rfl (hS _ (by decide)) ?_
  refine r_aload_n F 0 rfl dX7_ruledBy_7 rfl ?_
  refine r_aload_n F 1 rfl dX7_ruledBy_8 rfl ?_
  refine r_getS F frX7_72 (by decide) 1 rfl dX7_ruledBy_9 ?_
  refine k_vH (run_V F cvX7_109 hp_o1 (c_X3_copy (xG X) _ h o1 hp_o1 1 (by decide)) rfl rfl ⟨⟨rfl, rfl⟩, Nat.le_of_ble_eq_true rfl, Nat.le_of_ble_eq_true rfl⟩ (Nat.le_of_ble_eq_true rfl) dX7_ruledBy_12) fun h2 => ?_
  refine r_aload_n F 0 rfl dX7_ruledBy_15 rfl ?_
  refine r_iload_n F 2 rfl dX7_ruledBy_16 rfl ?_
  refine r_putI F frX7_231 hp_o1 rfl rfl dX7_ruledBy_17 fun h3 => ?_
  refine r_iconst F (v := 0) dX7_ruledBy_20 (by decide) ?_
  refine r_istore F [(4, .int 0), (3, .ref (adr (xG X) 3 o1 0)), (0, .ref (adr (xG X) 7 0 0)), (1, .int p1), (2, .int p2)] rfl dX7_ruledBy_21 (hS _ (by decide)) ?_
  have hl23 : ∀ n : Nat, ∀ v4 : Int32, ∀ h5 : Hp, Wm X (fun v => some (.ref (adr (xG X) 3 v.1 0))) (fun v => v.2) (fun v => v.1 < cnt 3) 23 [(2, .int p2), (3, .ref (adr (xG X) 3 o1 0)), (4, .int v4)] [] h5 (iter (fun _ _ => none) (f_X7_ruledBy_23 N p2 o1) n v4 h5) := by
    intro n
    induction n with
    | zero => intro v4 h5; exact Wt_none
    | succ n ih =>
      revert ih
      show (∀ v4 : Int32, ∀ h5 : Hp, Wm X (fun v => some (.ref (adr (xG X) 3 v.1 0))) (fun v => v.2) (fun v => v.1 < cnt 3) 23 [(2, .int p2), (3, .ref (adr (xG X) 3 o1 0)), (4, .int v4)] [] h5 (iter (fun _ _ => none) (f_X7_ruledBy_23 N p2 o1) n v4 h5)) → _
      intro ih23 v4 h5
      show Wm X (fun v => some (.ref (adr (xG X) 3 v.1 0))) (fun v => v.2) (fun v => v.1 < cnt 3) 23 [(2, .int p2), (3, .ref (adr (xG X) 3 o1 0)), (4, .int v4)] [] h5 (f_X7_ruledBy_23 N p2 o1 (iter (fun _ _ => none) (f_X7_ruledBy_23 N p2 o1) n) v4 h5)
      revert ih23
      generalize iter (fun _ _ => none) (f_X7_ruledBy_23 N p2 o1) n = r23
      intro ih23
      unfold f_X7_ruledBy_23
      refine r_iload F 2 rfl dX7_ruledBy_23 ?_
      refine r_aload_n F 1 rfl dX7_ruledBy_25 rfl ?_
      refine r_getA F frX7_164 hp_o1 dX7_ruledBy_26 ?_
      refine r_alen0 F (v := 4) (ar_3_5 o1 hp_o1) (by decide) dX7_ruledBy_29 ?_
      refine r_icmpge F (tgt := 47) dX7_ruledBy_30 (by decide) ?_ ?_
      · skip
        refine r_aload_n F 1 rfl dX7_ruledBy_47 rfl ?_
        refine r_iload_n F 0 rfl dX7_ruledBy_48 rfl ?_
        refine k_vH (run_V F cvX7_265 hp_o1 (c_X3_passHours (xG X) _ N h5 o1 hp_o1 p2) rfl rfl ⟨⟨rfl, rfl⟩, Nat.le_of_ble_eq_true rfl, Nat.le_of_ble_eq_true rfl⟩ (Nat.le_of_ble_eq_true rfl) dX7_ruledBy_49) fun h6 => ?_
        refine r_aload_n F 1 rfl dX7_ruledBy_52 rfl ?_
        exact r_aret F hA rfl rfl rfl hp_o1 dX7_ruledBy_53
      refine r_aload_n F 1 rfl dX7_ruledBy_33 rfl ?_
      refine r_getA F frX7_164 hp_o1 dX7_ruledBy_34 ?_
      refine r_iload F 2 rfl dX7_ruledBy_37 ?_
      refine r_iconst F (v := 0) dX7_ruledBy_39 (by decide) ?_
      refine r_iastore F (ar_3_5 o1 hp_o1) dX7_ruledBy_40 fun h7 => ?_
      refine r_iinc F (v := 1) 2 rfl (by decide) (fun v8 => [(4, .int v8), (2, .int p2), (3, .ref (adr (xG X) 3 o1 0))]) (fun _ => rfl) dX7_ruledBy_41 (hS _ (by decide)) fun v8 => ?_
      refine r_goto F (tgt := 23) dX7_ruledBy_44 (by decide) ?_
      exact Wt_pick [1, 2, 0] rfl (ih23 v8 h7)
  exact Wt_pick [4, 1, 0] rfl (hl23 N 0 h3)
theorem c_X7_ruledBy (G : Gx) (l : Launch) (N : Nat) (h : Hp) (p1 : Int32) (p2 : Int32) : Ctr G l yX7_ruledBy (.code yX7_ruledBy cX7_ruledBy 5 (some (.object "WeedStrand$Strand")) :: GT) rmX7_ruledBy [.ref (adr G 7 0 0), .int p1, .int p2] h (f_X7_ruledBy N h p1 p2) (fun v => some (.ref (adr G 3 v.1 0))) (fun v => v.2) (fun v => v.1 < cnt 3) :=
  ctr_of (by decide) (Nat.le_of_ble_eq_true rfl) ⟨rfl, rfl⟩ fun X _ e2 hA hL F => by subst e2; exact w_X7_ruledBy X F hA hL N h p1 p2
def f_X7_table (N : Nat) (h : Hp) (p1 : Int32) (p2 : Int32) (p3 : Int32) : Option (Int32 × Hp) :=
  (f_X7_isRule p1).bind fun v1 =>
  jn (
    some ((-1), h)) fun (j17 : Option (Int32 × Hp)) =>
  if (b2i v1) = 0 then
    j17
  else
  (f_X7_isIn p2 0 99).bind fun v2 =>
  if ¬ (b2i v2) = 0 then
    bd2 (f_X7_ruledBy N h p1 p2) fun o4 h3 =>
    if p3 = 0 then
      (f_X3_allGot N h3 o4).bind fun v5 =>
      (f_X3_allGot N h3 1).bind fun v6 =>
      some ((v5 - v6), h3)
    else
    if p3 = 1 then
      some (((gI h3 3 o4 13) - (gI h3 3 1 13)), h3)
    else
    if p3 = 2 then
      some ((gI h3 3 o4 12), h3)
    else
    if p3 = 3 then
      (f_X3_allGains N h3 o4).bind fun v7 =>
      (f_X3_allGains N h3 1).bind fun v8 =>
      some ((v7 - v8), h3)
    else
    some ((-1), h3)
  else
  j17
abbrev rmX7_table : Room := { frames := 7, cells := 0, slots := 0, locals := 172 }
set_option maxRecDepth 100000 in
set_option maxHeartbeats 4000000 in
theorem w_X7_table (X : Cx) (F : Fx X cX7_table RX7 (some .int) rmX7_table) (hA : xA X = Aw (xG X)) (hL : xL X = 5) (N : Nat) (h : Hp) (p1 : Int32) (p2 : Int32) (p3 : Int32) : Wm X (fun v => some (.int v.1)) (fun v => v.2) (fun _ => True) 0 [(0, .ref (adr (xG X) 7 0 0)), (1, .int p1), (2, .int p2), (3, .int p3)] [] h (f_X7_table N h p1 p2 p3) := by
  have hS : ∀ i : Nat, i < 5 → i < xL X := fun i z => by rw [hL]; exact z
  unfold f_X7_table
  refine r_iload_n F 1 rfl dX7_table_0 rfl ?_
  refine k_zP (run_S F csX7_228 (c_X7_isRule (xG X) _ h p1) rfl rfl ⟨⟨rfl, rfl⟩, Nat.le_of_ble_eq_true rfl, Nat.le_of_ble_eq_true rfl⟩ (Nat.le_of_ble_eq_true rfl) dX7_table_1) fun v1 _ => ?_
  refine Wt_jn (fun (j17 : Option (Int32 × Hp)) => Wm X (fun v => some (.int v.1)) (fun v => v.2) (fun _ => True) 17 [] [] h (j17)) ?_ fun j17 hj17 => ?_
  · skip
    refine r_iconst F (v := (-1)) dX7_table_17 (by decide) ?_
    exact r_iret F hA rfl rfl trivial dX7_table_18
  refine r_ifeq F (tgt := 17) dX7_table_4 (by decide) ?_ ?_
  · skip
    exact Wt_pick [] rfl (hj17)
  refine r_iload_n F 2 rfl dX7_table_7 rfl ?_
  refine r_iconst F (v := 0) dX7_table_8 (by decide) ?_
  refine r_bipush F (v := 99) dX7_table_9 (by decide) ?_
  refine k_zP (run_S F csX7_247 (c_X7_isIn (xG X) _ h p2 0 99) rfl rfl ⟨⟨rfl, rfl⟩, Nat.le_of_ble_eq_true rfl, Nat.le_of_ble_eq_true rfl⟩ (Nat.le_of_ble_eq_true rfl) dX7_table_11) fun v2 _ => ?_
  refine r_ifne F (tgt := 19) dX7_table_14 (by decide) ?_ ?_
  · skip
    refine r_aload_n F 0 rfl dX7_table_19 rfl ?_
    refine r_iload_n F 1 rfl dX7_table_20 rfl ?_
    refine r_iload_n F 2 rfl dX7_table_21 rfl ?_
    refine k_rH (run_V F cvX7_251 (by decide) (c_X7_ruledBy (xG X) _ N h p1 p2) rfl rfl ⟨⟨rfl, rfl⟩, Nat.le_of_ble_eq_true rfl, Nat.le_of_ble_eq_true rfl⟩ (Nat.le_of_ble_eq_true rfl) dX7_table_22) fun o4 h3 hp_o4 => ?_
    refine r_astore F [(4, .ref (adr (xG X) 3 o4 0)), (0, .ref (adr (xG X) 7 0 0)), (1, .int p1), (2, .int p2), (3, .int p3)] rfl dX7_table_25 (hS _ (by decide)) ?_
    refine r_iload_n F 4 rfl dX7_table_27 rfl ?_
    refine r_tsc F (tgt := 60) 0 0 dX7_table_28 rfl (by decide) (by decide) (by decide) ?_ fun n0 => ?_
    · skip
      refine r_aload F 0 rfl dX7_table_60 ?_
      refine k_iP (run_V F cvX7_255 hp_o4 (c_X3_allGot (xG X) _ N h3 o4 hp_o4) rfl rfl ⟨⟨rfl, rfl⟩, Nat.le_of_ble_eq_true rfl, Nat.le_of_ble_eq_true rfl⟩ (Nat.le_of_ble_eq_true rfl) dX7_table_62) fun v5 _ => ?_
      refine r_aload_n F 1 rfl dX7_table_65 rfl ?_
      refine r_getS F frX7_72 (by decide) 1 rfl dX7_table_66 ?_
      refine k_iP (run_V F cvX7_255 (by decide) (c_X3_allGot (xG X) _ N h3 1 (by decide)) rfl rfl ⟨⟨rfl, rfl⟩, Nat.le_of_ble_eq_true rfl, Nat.le_of_ble_eq_true rfl⟩ (Nat.le_of_ble_eq_true rfl) dX7_table_69) fun v6 _ => ?_
      refine r_isub F dX7_table_72 ?_
      exact r_iret F hA rfl rfl trivial dX7_table_73
    refine r_tsc F (tgt := 74) 1 1 dX7_table_28 rfl (by decide) (by decide) (by decide) ?_ fun n1 => ?_
    · skip
      refine r_aload F 0 rfl dX7_table_74 ?_
      refine r_getI F frX7_259 hp_o4 dX7_table_76 ?_
      refine r_aload_n F 1 rfl dX7_table_79 rfl ?_
      refine r_getS F frX7_72 (by decide) 1 rfl dX7_table_80 ?_
      refine r_getI F frX7_259 (by decide) dX7_table_83 ?_
      refine r_isub F dX7_table_86 ?_
      exact r_iret F hA rfl rfl trivial dX7_table_87
    refine r_tsc F (tgt := 88) 2 2 dX7_table_28 rfl (by decide) (by decide) (by decide) ?_ fun n2 => ?_
    · skip
      refine r_aload F 0 rfl dX7_table_88 ?_
      refine r_getI F frX7_221 hp_o4 dX7_table_90 ?_
      exact r_iret F hA rfl rfl trivial dX7_table_93
    refine r_tsc F (tgt := 94) 3 3 dX7_table_28 rfl (by decide) (by decide) (by decide) ?_ fun n3 => ?_
    · skip
      refine r_aload F 0 rfl dX7_table_94 ?_
      refine k_iP (run_V F cvX7_262 hp_o4 (c_X3_allGains (xG X) _ N h3 o4 hp_o4) rfl rfl ⟨⟨rfl, rfl⟩, Nat.le_of_ble_eq_true rfl, Nat.le_of_ble_eq_true rfl⟩ (Nat.le_of_ble_eq_true rfl) dX7_table_96) fun v7 _ => ?_
      refine r_aload_n F 1 rfl dX7_table_99 rfl ?_
      refine r_getS F frX7_72 (by decide) 1 rfl dX7_table_100 ?_
      refine k_iP (run_V F cvX7_262 (by decide) (c_X3_allGains (xG X) _ N h3 1 (by decide)) rfl rfl ⟨⟨rfl, rfl⟩, Nat.le_of_ble_eq_true rfl, Nat.le_of_ble_eq_true rfl⟩ (Nat.le_of_ble_eq_true rfl) dX7_table_103) fun v8 _ => ?_
      refine r_isub F dX7_table_106 ?_
      exact r_iret F hA rfl rfl trivial dX7_table_107
    refine r_tsd F (tgt := 108) dX7_table_28 (by have e0 := lv_neT n0 (a := 0) (by decide); have e1 := lv_neT n1 (a := 1) (by decide); have e2 := lv_neT n2 (a := 2) (by decide); have e3 := lv_neT n3 (a := 3) (by decide); omega) (by decide) ?_
    refine r_iconst F (v := (-1)) dX7_table_108 (by decide) ?_
    exact r_iret F hA rfl rfl trivial dX7_table_109
  exact Wt_pick [] rfl (hj17)
theorem c_X7_table (G : Gx) (l : Launch) (N : Nat) (h : Hp) (p1 : Int32) (p2 : Int32) (p3 : Int32) : Ctr G l yX7_table (.code yX7_table cX7_table 5 (some .int) :: GT) rmX7_table [.ref (adr G 7 0 0), .int p1, .int p2, .int p3] h (f_X7_table N h p1 p2 p3) (fun v => some (.int v.1)) (fun v => v.2) (fun _ => True) :=
  ctr_of (by decide) (Nat.le_of_ble_eq_true rfl) ⟨rfl, rfl⟩ fun X _ e2 hA hL F => by subst e2; exact w_X7_table X F hA hL N h p1 p2 p3
def f_X7_startWays_15 (p1 : Int32) (p2 : Int32) (r15 : Int32 → Hp → Option Hp) (v3 : Int32) (h4 : Hp) : Option Hp :=
  jn (
    some h4) fun (j42 : Option Hp) =>
  if p1 ≤ v3 then
    j42
  else
  if 6 ≤ v3 then
    j42
  else
  grd (inb v3 6) <| lt_ (sA h4 7 0 0 v3.toNatClampNeg p2) fun h5 =>
  lt_ (v3 + 1) fun v6 =>
  r15 v6 h5
def f_X7_startWays (N : Nat) (h : Hp) (p1 : Int32) (p2 : Int32) : Option Hp :=
  grd (inb 0 7) <| lt_ (3 + (0 : Int32).toNatClampNeg) fun o1 =>
  (f_X3_copy h o1 1).bind fun h2 =>
  iter (fun _ _ => none) (f_X7_startWays_15 p1 p2) N 0 h2
abbrev rmX7_startWays : Room := { frames := 2, cells := 0, slots := 0, locals := 39 }
set_option maxRecDepth 100000 in
set_option maxHeartbeats 4000000 in
theorem w_X7_startWays (X : Cx) (F : Fx X cX7_startWays RX7 none rmX7_startWays) (hA : xA X = Aw (xG X)) (hL : xL X = 4) (N : Nat) (h : Hp) (p1 : Int32) (p2 : Int32) : Wm X (fun _ => none) (fun v => v) (fun _ => True) 0 [(0, .ref (adr (xG X) 7 0 0)), (1, .int p1), (2, .int p2)] [] h (f_X7_startWays N h p1 p2) := by
  have hS : ∀ i : Nat, i < 4 → i < xL X := fun i z => by rw [hL]; exact z
  unfold f_X7_startWays
  refine r_aload_n F 0 rfl dX7_startWays_0 rfl ?_
  refine r_getA F frX7_78 (by decide) dX7_startWays_1 ?_
  refine r_iconst F (v := 0) dX7_startWays_4 (by decide) ?_
  refine r_aaload F dX7_startWays_5 fun o1 hp_o1 => ?_
  refine r_aload_n F 0 rfl dX7_startWays_6 rfl ?_
  refine r_getS F frX7_72 (by decide) 1 rfl dX7_startWays_7 ?_
  refine k_vH (run_V F cvX7_109 hp_o1 (c_X3_copy (xG X) _ h o1 hp_o1 1 (by decide)) rfl rfl ⟨⟨rfl, rfl⟩, Nat.le_of_ble_eq_true rfl, Nat.le_of_ble_eq_true rfl⟩ (Nat.le_of_ble_eq_true rfl) dX7_startWays_10) fun h2 => ?_
  refine r_iconst F (v := 0) dX7_startWays_13 (by decide) ?_
  refine r_istore_n F [(3, .int 0), (0, .ref (adr (xG X) 7 0 0)), (1, .int p1), (2, .int p2)] rfl dX7_startWays_14 rfl (hS _ (by decide)) ?_
  have hl15 : ∀ n : Nat, ∀ v3 : Int32, ∀ h4 : Hp, Wm X (fun _ => none) (fun v => v) (fun _ => True) 15 [(0, .ref (adr (xG X) 7 0 0)), (1, .int p1), (2, .int p2), (3, .int v3)] [] h4 (iter (fun _ _ => none) (f_X7_startWays_15 p1 p2) n v3 h4) := by
    intro n
    induction n with
    | zero => intro v3 h4; exact Wt_none
    | succ n ih =>
      revert ih
      show (∀ v3 : Int32, ∀ h4 : Hp, Wm X (fun _ => none) (fun v => v) (fun _ => True) 15 [(0, .ref (adr (xG X) 7 0 0)), (1, .int p1), (2, .int p2), (3, .int v3)] [] h4 (iter (fun _ _ => none) (f_X7_startWays_15 p1 p2) n v3 h4)) → _
      intro ih15 v3 h4
      show Wm X (fun _ => none) (fun v => v) (fun _ => True) 15 [(0, .ref (adr (xG X) 7 0 0)), (1, .int p1), (2, .int p2), (3, .int v3)] [] h4 (f_X7_startWays_15 p1 p2 (iter (fun _ _ => none) (f_X7_startWays_15 p1 p2) n) v3 h4)
      revert ih15
      generalize iter (fun _ _ => none) (f_X7_startWays_15 p1 p2) n = r15
      intro ih15
      unfold f_X7_startWays_15
      refine r_iload_n F 3 rfl dX7_startWays_15 rfl ?_
      refine r_iload_n F 1 rfl dX7_startWays_16 rfl ?_
      refine Wt_jn (fun (j42 : Option Hp) => Wm X (fun _ => none) (fun v => v) (fun _ => True) 42 [] [] h4 (j42)) ?_ fun j42 hj42 => ?_
      · skip
        exact r_vret F hA rfl rfl trivial dX7_startWays_42
      refine r_icmpge F (tgt := 42) dX7_startWays_17 (by decide) ?_ ?_
      · skip
        exact Wt_pick [] rfl (hj42)
      refine r_iload_n F 3 rfl dX7_startWays_20 rfl ?_
      refine r_aload_n F 0 rfl dX7_startWays_21 rfl ?_
      refine r_getA F frX7_37 (by decide) dX7_startWays_22 ?_
      refine r_alen0 F (v := 6) (ar_7_0 0 (by decide)) (by decide) dX7_startWays_25 ?_
      refine r_icmpge F (tgt := 42) dX7_startWays_26 (by decide) ?_ ?_
      · skip
        exact Wt_pick [] rfl (hj42)
      refine r_aload_n F 0 rfl dX7_startWays_29 rfl ?_
      refine r_getA F frX7_37 (by decide) dX7_startWays_30 ?_
      refine r_iload_n F 3 rfl dX7_startWays_33 rfl ?_
      refine r_iload_n F 2 rfl dX7_startWays_34 rfl ?_
      refine r_iastore F (ar_7_0 0 (by decide)) dX7_startWays_35 fun h5 => ?_
      refine r_iinc F (v := 1) 3 rfl (by decide) (fun v6 => [(3, .int v6), (0, .ref (adr (xG X) 7 0 0)), (1, .int p1), (2, .int p2)]) (fun _ => rfl) dX7_startWays_36 (hS _ (by decide)) fun v6 => ?_
      refine r_goto F (tgt := 15) dX7_startWays_39 (by decide) ?_
      exact Wt_pick [1, 2, 3, 0] rfl (ih15 v6 h5)
  exact Wt_pick [1, 2, 3, 0] rfl (hl15 N 0 h2)
theorem c_X7_startWays (G : Gx) (l : Launch) (N : Nat) (h : Hp) (p1 : Int32) (p2 : Int32) : Ctr G l yX7_startWays (.code yX7_startWays cX7_startWays 4 none :: GT) rmX7_startWays [.ref (adr G 7 0 0), .int p1, .int p2] h (f_X7_startWays N h p1 p2) (fun _ => none) (fun v => v) (fun _ => True) :=
  ctr_of (by decide) (Nat.le_of_ble_eq_true rfl) ⟨rfl, rfl⟩ fun X _ e2 hA hL F => by subst e2; exact w_X7_startWays X F hA hL N h p1 p2
def f_X7_power_4 (p0 : Int32) (p1 : Int32) (r4 : Int32 → Int32 → Option Int32) (v1 : Int32) (v2 : Int32) : Option Int32 :=
  if p1 ≤ v2 then
    some v1
  else
  lt_ ((v1 * p0)) fun v3 =>
  lt_ (v2 + 1) fun v4 =>
  r4 v3 v4
def f_X7_power (N : Nat) (p0 : Int32) (p1 : Int32) : Option Int32 :=
  iter (fun _ _ => none) (f_X7_power_4 p0 p1) N 1 0
abbrev rmX7_power : Room := { frames := 0, cells := 0, slots := 0, locals := 0 }
set_option maxRecDepth 100000 in
set_option maxHeartbeats 4000000 in
theorem w_X7_power (X : Cx) (F : Fx X cX7_power RX7 (some .int) rmX7_power) (hA : xA X = Aw (xG X)) (hL : xL X = 4) (h : Hp) (N : Nat) (p0 : Int32) (p1 : Int32) : Wm X (fun v => some (.int v)) (fun _ => h) (fun _ => True) 0 [(0, .int p0), (1, .int p1)] [] h (f_X7_power N p0 p1) := by
  have hS : ∀ i : Nat, i < 4 → i < xL X := fun i z => by rw [hL]; exact z
  unfold f_X7_power
  refine r_iconst F (v := 1) dX7_power_0 (by decide) ?_
  refine r_istore_n F [(2, .int 1), (0, .int p0), (1, .int p1)] rfl dX7_power_1 rfl (hS _ (by decide)) ?_
  refine r_iconst F (v := 0) dX7_power_2 (by decide) ?_
  refine r_istore_n F [(3, .int 0), (2, .int 1), (0, .int p0), (1, .int p1)] rfl dX7_power_3 rfl (hS _ (by decide)) ?_
  have hl4 : ∀ n : Nat, ∀ v1 : Int32, ∀ v2 : Int32, Wm X (fun v => some (.int v)) (fun _ => h) (fun _ => True) 4 [(0, .int p0), (1, .int p1), (2, .int v1), (3, .int v2)] [] h (iter (fun _ _ => none) (f_X7_power_4 p0 p1) n v1 v2) := by
    intro n
    induction n with
    | zero => intro v1 v2; exact Wt_none
    | succ n ih =>
      revert ih
      show (∀ v1 : Int32, ∀ v2 : Int32, Wm X (fun v => some (.int v)) (fun _ => h) (fun _ => True) 4 [(0, .int p0), (1, .int p1), (2, .int v1), (3, .int v2)] [] h (iter (fun _ _ => none) (f_X7_power_4 p0 p1) n v1 v2)) → _
      intro ih4 v1 v2
      show Wm X (fun v => some (.int v)) (fun _ => h) (fun _ => True) 4 [(0, .int p0), (1, .int p1), (2, .int v1), (3, .int v2)] [] h (f_X7_power_4 p0 p1 (iter (fun _ _ => none) (f_X7_power_4 p0 p1) n) v1 v2)
      revert ih4
      generalize iter (fun _ _ => none) (f_X7_power_4 p0 p1) n = r4
      intro ih4
      unfold f_X7_power_4
      refine r_iload_n F 3 rfl dX7_power_4 rfl ?_
      refine r_iload_n F 1 rfl dX7_power_5 rfl ?_
      refine r_icmpge F (tgt := 19) dX7_power_6 (by decide) ?_ ?_
      · skip
        refine r_iload_n F 2 rfl dX7_power_19 rfl ?_
        exact r_iret F hA rfl rfl trivial dX7_power_20
      refine r_iload_n F 2 rfl dX7_power_9 rfl ?_
      refine r_iload_n F 0 rfl dX7_power_10 rfl ?_
      refine r_imul F dX7_power_11 ?_
      refine r_nmI fun v3 => ?_
      refine r_istore_n F [(2, .int v3), (0, .int p0), (1, .int p1), (3, .int v2)] rfl dX7_power_12 rfl (hS _ (by decide)) ?_
      refine r_iinc F (v := 1) 3 rfl (by decide) (fun v4 => [(3, .int v4), (2, .int v3), (0, .int p0), (1, .int p1)]) (fun _ => rfl) dX7_power_13 (hS _ (by decide)) fun v4 => ?_
      refine r_goto F (tgt := 4) dX7_power_16 (by decide) ?_
      exact Wt_pick [2, 3, 1, 0] rfl (ih4 v3 v4)
  exact Wt_pick [2, 3, 1, 0] rfl (hl4 N 1 0)
theorem c_X7_power (G : Gx) (l : Launch) (h : Hp) (N : Nat) (p0 : Int32) (p1 : Int32) : Ctr G l yX7_power (.code yX7_power cX7_power 4 (some .int) :: GT) rmX7_power [.int p0, .int p1] h (f_X7_power N p0 p1) (fun v => some (.int v)) (fun _ => h) (fun _ => True) :=
  ctr_of (by decide) (Nat.le_of_ble_eq_true rfl) ⟨rfl, rfl⟩ fun X _ e2 hA hL F => by subst e2; exact w_X7_power X F hA hL h N p0 p1
def f_X7_nextWay_5 (p2 : Int32) (p3 : Int32) (r5 : Int32 → Hp → Option (Int32 × Hp)) (v2 : Int32) (h3 : Hp) : Option (Int32 × Hp) :=
  if v2 < 0 then
    some (0, h3)
  else
  grd (inb v2 6) <|
  if p3 ≤ (gA h3 7 0 0 v2.toNatClampNeg) then
    grd (inb v2 6) <| lt_ (sA h3 7 0 0 v2.toNatClampNeg p2) fun h4 =>
    lt_ (v2 + (-1)) fun v5 =>
    r5 v5 h4
  else
  grd (inb v2 6) <|
  grd (inb v2 6) <| lt_ (sA h3 7 0 0 v2.toNatClampNeg ((gA h3 7 0 0 v2.toNatClampNeg) + 1)) fun h6 =>
  some (v2, h6)
def f_X7_nextWay (N : Nat) (h : Hp) (p1 : Int32) (p2 : Int32) (p3 : Int32) : Option (Int32 × Hp) :=
  lt_ ((p1 - 1)) fun v1 =>
  iter (fun _ _ => none) (f_X7_nextWay_5 p2 p3) N v1 h
abbrev rmX7_nextWay : Room := { frames := 0, cells := 0, slots := 0, locals := 0 }
set_option maxRecDepth 100000 in
set_option maxHeartbeats 4000000 in
theorem w_X7_nextWay (X : Cx) (F : Fx X cX7_nextWay RX7 (some .int) rmX7_nextWay) (hA : xA X = Aw (xG X)) (hL : xL X = 5) (N : Nat) (h : Hp) (p1 : Int32) (p2 : Int32) (p3 : Int32) : Wm X (fun v => some (.int v.1)) (fun v => v.2) (fun _ => True) 0 [(0, .ref (adr (xG X) 7 0 0)), (1, .int p1), (2, .int p2), (3, .int p3)] [] h (f_X7_nextWay N h p1 p2 p3) := by
  have hS : ∀ i : Nat, i < 5 → i < xL X := fun i z => by rw [hL]; exact z
  unfold f_X7_nextWay
  refine r_iload_n F 1 rfl dX7_nextWay_0 rfl ?_
  refine r_iconst F (v := 1) dX7_nextWay_1 (by decide) ?_
  refine r_isub F dX7_nextWay_2 ?_
  refine r_nmI fun v1 => ?_
  refine r_istore F [(4, .int v1), (0, .ref (adr (xG X) 7 0 0)), (1, .int p1), (2, .int p2), (3, .int p3)] rfl dX7_nextWay_3 (hS _ (by decide)) ?_
  have hl5 : ∀ n : Nat, ∀ v2 : Int32, ∀ h3 : Hp, Wm X (fun v => some (.int v.1)) (fun v => v.2) (fun _ => True) 5 [(0, .ref (adr (xG X) 7 0 0)), (2, .int p2), (3, .int p3), (4, .int v2)] [] h3 (iter (fun _ _ => none) (f_X7_nextWay_5 p2 p3) n v2 h3) := by
    intro n
    induction n with
    | zero => intro v2 h3; exact Wt_none
    | succ n ih =>
      revert ih
      show (∀ v2 : Int32, ∀ h3 : Hp, Wm X (fun v => some (.int v.1)) (fun v => v.2) (fun _ => True) 5 [(0, .ref (adr (xG X) 7 0 0)), (2, .int p2), (3, .int p3), (4, .int v2)] [] h3 (iter (fun _ _ => none) (f_X7_nextWay_5 p2 p3) n v2 h3)) → _
      intro ih5 v2 h3
      show Wm X (fun v => some (.int v.1)) (fun v => v.2) (fun _ => True) 5 [(0, .ref (adr (xG X) 7 0 0)), (2, .int p2), (3, .int p3), (4, .int v2)] [] h3 (f_X7_nextWay_5 p2 p3 (iter (fun _ _ => none) (f_X7_nextWay_5 p2 p3) n) v2 h3)
      revert ih5
      generalize iter (fun _ _ => none) (f_X7_nextWay_5 p2 p3) n = r5
      intro ih5
      unfold f_X7_nextWay_5
      refine r_iload F 3 rfl dX7_nextWay_5 ?_
      refine r_iflt F (tgt := 49) dX7_nextWay_7 (by decide) ?_ ?_
      · skip
        refine r_iconst F (v := 0) dX7_nextWay_49 (by decide) ?_
        exact r_iret F hA rfl rfl trivial dX7_nextWay_50
      refine r_aload_n F 0 rfl dX7_nextWay_10 rfl ?_
      refine r_getA F frX7_37 (by decide) dX7_nextWay_11 ?_
      refine r_iload F 3 rfl dX7_nextWay_14 ?_
      refine r_iaload F (ar_7_0 0 (by decide)) dX7_nextWay_16 ?_
      refine r_iload_n F 2 rfl dX7_nextWay_17 rfl ?_
      refine r_icmpge F (tgt := 35) dX7_nextWay_18 (by decide) ?_ ?_
      · skip
        refine r_aload_n F 0 rfl dX7_nextWay_35 rfl ?_
        refine r_getA F frX7_37 (by decide) dX7_nextWay_36 ?_
        refine r_iload F 3 rfl dX7_nextWay_39 ?_
        refine r_iload_n F 1 rfl dX7_nextWay_41 rfl ?_
        refine r_iastore F (ar_7_0 0 (by decide)) dX7_nextWay_42 fun h4 => ?_
        refine r_iinc F (v := (-1)) 3 rfl (by decide) (fun v5 => [(4, .int v5), (0, .ref (adr (xG X) 7 0 0)), (2, .int p2), (3, .int p3)]) (fun _ => rfl) dX7_nextWay_43 (hS _ (by decide)) fun v5 => ?_
        refine r_goto F (tgt := 5) dX7_nextWay_46 (by decide) ?_
        exact Wt_pick [1, 2, 3, 0] rfl (ih5 v5 h4)
      refine r_aload_n F 0 rfl dX7_nextWay_21 rfl ?_
      refine r_getA F frX7_37 (by decide) dX7_nextWay_22 ?_
      refine r_iload F 3 rfl dX7_nextWay_25 ?_
      refine r_dup2 F rfl rfl dX7_nextWay_27 ?_
      refine r_iaload F (ar_7_0 0 (by decide)) dX7_nextWay_28 ?_
      refine r_iconst F (v := 1) dX7_nextWay_29 (by decide) ?_
      refine r_iadd F dX7_nextWay_30 ?_
      refine r_iastore F (ar_7_0 0 (by decide)) dX7_nextWay_31 fun h6 => ?_
      refine r_iload F 3 rfl dX7_nextWay_32 ?_
      exact r_iret F hA rfl rfl trivial dX7_nextWay_34
  exact Wt_pick [1, 3, 4, 0] rfl (hl5 N v1 h)
theorem c_X7_nextWay (G : Gx) (l : Launch) (N : Nat) (h : Hp) (p1 : Int32) (p2 : Int32) (p3 : Int32) : Ctr G l yX7_nextWay (.code yX7_nextWay cX7_nextWay 5 (some .int) :: GT) rmX7_nextWay [.ref (adr G 7 0 0), .int p1, .int p2, .int p3] h (f_X7_nextWay N h p1 p2 p3) (fun v => some (.int v.1)) (fun v => v.2) (fun _ => True) :=
  ctr_of (by decide) (Nat.le_of_ble_eq_true rfl) ⟨rfl, rfl⟩ fun X _ e2 hA hL F => by subst e2; exact w_X7_nextWay X F hA hL N h p1 p2 p3
def f_X7_planFor_31 (N : Nat) (p1 : Int32) (p2 : Int32) (r21 : Int32 → Int32 → Int32 → Hp → Option (Int32 × Hp)) (v3 : Int32) (v5 : Int32) (r31 : Int32 → Hp → Option (Int32 × Hp)) (v7 : Int32) (h8 : Hp) : Option (Int32 × Hp) :=
  if p2 ≤ v7 then
    grd (inb p2 7) <| lt_ (3 + p2.toNatClampNeg) fun o9 =>
    grd (inb p1 4) <|
    grd (inb p1 4) <|
    lt_ (((gA h8 3 o9 6 p1.toNatClampNeg) - (gA h8 3 1 6 p1.toNatClampNeg))) fun v10 =>
    jn (fun (v11 : Int32) (h12 : Hp) =>
      bd2 (f_X7_nextWay N h12 p2 1 3) fun v14 h13 =>
      lt_ (v5 + 1) fun v15 =>
      r21 v11 v14 v15 h13) fun (j133 : Int32 → Hp → Option (Int32 × Hp)) =>
    if v10 ≤ v3 then
      j133 v3 h8
    else
    grd ((0 ≤ (0 : Int32) ∧ 0 ≤ (0 : Int32) ∧ 0 ≤ p2) ∧ (0 : Int32).toNatClampNeg + p2.toNatClampNeg ≤ 6 ∧ (0 : Int32).toNatClampNeg + p2.toNatClampNeg ≤ 6) <| lt_ (sAf h8 7 0 1 (va_cpy (gA h8 7 0 0) (gA h8 7 0 1) (0 : Int32).toNatClampNeg (0 : Int32).toNatClampNeg p2.toNatClampNeg)) fun h16 =>
    j133 v10 h16
  else
  grd (inb (v7 + 1) 7) <| lt_ (3 + (v7 + 1).toNatClampNeg) fun o17 =>
  grd (inb v7 7) <| lt_ (3 + v7.toNatClampNeg) fun o18 =>
  (f_X3_copy h8 o17 o18).bind fun h19 =>
  grd (inb v7 6) <|
  grd (inb p1 4) <| lt_ (sA h19 3 o17 5 p1.toNatClampNeg (gA h19 7 0 0 v7.toNatClampNeg)) fun h20 =>
  (f_X3_passHour N h20 o17).bind fun h21 =>
  lt_ (v7 + 1) fun v22 =>
  r31 v22 h21
def f_X7_planFor_21 (N : Nat) (p1 : Int32) (p2 : Int32) (v2 : Int32) (r21 : Int32 → Int32 → Int32 → Hp → Option (Int32 × Hp)) (v3 : Int32) (v4 : Int32) (v5 : Int32) (h6 : Hp) : Option (Int32 × Hp) :=
  if v2 ≤ v5 then
    some (v3, h6)
  else
  iter (fun _ _ => none) (f_X7_planFor_31 N p1 p2 r21 v3 v5) N v4 h6
def f_X7_planFor (N : Nat) (h : Hp) (p1 : Int32) (p2 : Int32) : Option (Int32 × Hp) :=
  (f_X7_startWays N h p2 1).bind fun h1 =>
  (f_X7_power N 3 p2).bind fun v2 =>
  iter (fun _ _ _ _ => none) (f_X7_planFor_21 N p1 p2 v2) N (-1) 0 0 h1
abbrev rmX7_planFor : Room := { frames := 5, cells := 0, slots := 0, locals := 126 }
set_option maxRecDepth 100000 in
set_option maxHeartbeats 4000000 in
theorem w_X7_planFor (X : Cx) (F : Fx X cX7_planFor RX7 (some .int) rmX7_planFor) (hA : xA X = Aw (xG X)) (hL : xL X = 9) (N : Nat) (h : Hp) (p1 : Int32) (p2 : Int32) : Wm X (fun v => some (.int v.1)) (fun v => v.2) (fun _ => True) 0 [(0, .ref (adr (xG X) 7 0 0)), (1, .int p1), (2, .int p2)] [] h (f_X7_planFor N h p1 p2) := by
  have hS : ∀ i : Nat, i < 9 → i < xL X := fun i z => by rw [hL]; exact z
  unfold f_X7_planFor
  refine r_aload_n F 0 rfl dX7_planFor_0 rfl ?_
  refine r_iload_n F 2 rfl dX7_planFor_1 rfl ?_
  refine r_iconst F (v := 1) dX7_planFor_2 (by decide) ?_
  refine k_vH (run_V F cvX7_272 (by decide) (c_X7_startWays (xG X) _ N h p2 1) rfl rfl ⟨⟨rfl, rfl⟩, Nat.le_of_ble_eq_true rfl, Nat.le_of_ble_eq_true rfl⟩ (Nat.le_of_ble_eq_true rfl) dX7_planFor_3) fun h1 => ?_
  refine r_iconst F (v := 3) dX7_planFor_6 (by decide) ?_
  refine r_iload_n F 2 rfl dX7_planFor_7 rfl ?_
  refine k_iP (run_S F csX7_275 (c_X7_power (xG X) _ h1 N 3 p2) rfl rfl ⟨⟨rfl, rfl⟩, Nat.le_of_ble_eq_true rfl, Nat.le_of_ble_eq_true rfl⟩ (Nat.le_of_ble_eq_true rfl) dX7_planFor_8) fun v2 _ => ?_
  refine r_istore_n F [(3, .int v2), (0, .ref (adr (xG X) 7 0 0)), (1, .int p1), (2, .int p2)] rfl dX7_planFor_11 rfl (hS _ (by decide)) ?_
  refine r_iconst F (v := (-1)) dX7_planFor_12 (by decide) ?_
  refine r_istore F [(4, .int (-1)), (3, .int v2), (0, .ref (adr (xG X) 7 0 0)), (1, .int p1), (2, .int p2)] rfl dX7_planFor_13 (hS _ (by decide)) ?_
  refine r_iconst F (v := 0) dX7_planFor_15 (by decide) ?_
  refine r_istore F [(5, .int 0), (4, .int (-1)), (3, .int v2), (0, .ref (adr (xG X) 7 0 0)), (1, .int p1), (2, .int p2)] rfl dX7_planFor_16 (hS _ (by decide)) ?_
  refine r_iconst F (v := 0) dX7_planFor_18 (by decide) ?_
  refine r_istore F [(6, .int 0), (5, .int 0), (4, .int (-1)), (3, .int v2), (0, .ref (adr (xG X) 7 0 0)), (1, .int p1), (2, .int p2)] rfl dX7_planFor_19 (hS _ (by decide)) ?_
  have hl21 : ∀ n : Nat, ∀ v3 : Int32, ∀ v4 : Int32, ∀ v5 : Int32, ∀ h6 : Hp, Wm X (fun v => some (.int v.1)) (fun v => v.2) (fun _ => True) 21 [(0, .ref (adr (xG X) 7 0 0)), (1, .int p1), (2, .int p2), (3, .int v2), (4, .int v3), (5, .int v4), (6, .int v5)] [] h6 (iter (fun _ _ _ _ => none) (f_X7_planFor_21 N p1 p2 v2) n v3 v4 v5 h6) := by
    intro n
    induction n with
    | zero => intro v3 v4 v5 h6; exact Wt_none
    | succ n ih =>
      revert ih
      show (∀ v3 : Int32, ∀ v4 : Int32, ∀ v5 : Int32, ∀ h6 : Hp, Wm X (fun v => some (.int v.1)) (fun v => v.2) (fun _ => True) 21 [(0, .ref (adr (xG X) 7 0 0)), (1, .int p1), (2, .int p2), (3, .int v2), (4, .int v3), (5, .int v4), (6, .int v5)] [] h6 (iter (fun _ _ _ _ => none) (f_X7_planFor_21 N p1 p2 v2) n v3 v4 v5 h6)) → _
      intro ih21 v3 v4 v5 h6
      show Wm X (fun v => some (.int v.1)) (fun v => v.2) (fun _ => True) 21 [(0, .ref (adr (xG X) 7 0 0)), (1, .int p1), (2, .int p2), (3, .int v2), (4, .int v3), (5, .int v4), (6, .int v5)] [] h6 (f_X7_planFor_21 N p1 p2 v2 (iter (fun _ _ _ _ => none) (f_X7_planFor_21 N p1 p2 v2) n) v3 v4 v5 h6)
      revert ih21
      generalize iter (fun _ _ _ _ => none) (f_X7_planFor_21 N p1 p2 v2) n = r21
      intro ih21
      unfold f_X7_planFor_21
      refine r_iload F 6 rfl dX7_planFor_21 ?_
      refine r_iload_n F 3 rfl dX7_planFor_23 rfl ?_
      refine r_icmpge F (tgt := 148) dX7_planFor_24 (by decide) ?_ ?_
      · skip
        refine r_iload F 4 rfl dX7_planFor_148 ?_
        exact r_iret F hA rfl rfl trivial dX7_planFor_150
      refine r_iload F 5 rfl dX7_planFor_27 ?_
      refine r_istore F [(7, .int v4), (0, .ref (adr (xG X) 7 0 0)), (1, .int p1), (2, .int p2), (3, .int v2), (4, .int v3), (5, .int v4), (6, .int v5)] rfl dX7_planFor_29 (hS _ (by decide)) ?_
      have hl31 : ∀ n : Nat, ∀ v7 : Int32, ∀ h8 : Hp, Wm X (fun v => some (.int v.1)) (fun v => v.2) (fun _ => True) 31 [(0, .ref (adr (xG X) 7 0 0)), (1, .int p1), (2, .int p2), (3, .int v2), (4, .int v3), (6, .int v5), (7, .int v7)] [] h8 (iter (fun _ _ => none) (f_X7_planFor_31 N p1 p2 r21 v3 v5) n v7 h8) := by
        intro n
        induction n with
        | zero => intro v7 h8; exact Wt_none
        | succ n ih =>
          revert ih
          show (∀ v7 : Int32, ∀ h8 : Hp, Wm X (fun v => some (.int v.1)) (fun v => v.2) (fun _ => True) 31 [(0, .ref (adr (xG X) 7 0 0)), (1, .int p1), (2, .int p2), (3, .int v2), (4, .int v3), (6, .int v5), (7, .int v7)] [] h8 (iter (fun _ _ => none) (f_X7_planFor_31 N p1 p2 r21 v3 v5) n v7 h8)) → _
          intro ih31 v7 h8
          show Wm X (fun v => some (.int v.1)) (fun v => v.2) (fun _ => True) 31 [(0, .ref (adr (xG X) 7 0 0)), (1, .int p1), (2, .int p2), (3, .int v2), (4, .int v3), (6, .int v5), (7, .int v7)] [] h8 (f_X7_planFor_31 N p1 p2 r21 v3 v5 (iter (fun _ _ => none) (f_X7_planFor_31 N p1 p2 r21 v3 v5) n) v7 h8)
          revert ih31
          generalize iter (fun _ _ => none) (f_X7_planFor_31 N p1 p2 r21 v3 v5) n = r31
          intro ih31
          unfold f_X7_planFor_31
          refine r_iload F 6 rfl dX7_planFor_31 ?_
          refine r_iload_n F 2 rfl dX7_planFor_33 rfl ?_
          refine r_icmpge F (tgt := 85) dX7_planFor_34 (by decide) ?_ ?_
          · skip
            refine r_aload_n F 0 rfl dX7_planFor_85 rfl ?_
            refine r_getA F frX7_78 (by decide) dX7_planFor_86 ?_
            refine r_iload_n F 2 rfl dX7_planFor_89 rfl ?_
            refine r_aaload F dX7_planFor_90 fun o9 hp_o9 => ?_
            refine r_getA F frX7_167 hp_o9 dX7_planFor_91 ?_
            refine r_iload_n F 1 rfl dX7_planFor_94 rfl ?_
            refine r_iaload F (ar_3_6 o9 hp_o9) dX7_planFor_95 ?_
            refine r_aload_n F 0 rfl dX7_planFor_96 rfl ?_
            refine r_getS F frX7_72 (by decide) 1 rfl dX7_planFor_97 ?_
            refine r_getA F frX7_167 (by decide) dX7_planFor_100 ?_
            refine r_iload_n F 1 rfl dX7_planFor_103 rfl ?_
            refine r_iaload F (ar_3_6 1 (by decide)) dX7_planFor_104 ?_
            refine r_isub F dX7_planFor_105 ?_
            refine r_nmI fun v10 => ?_
            refine r_istore F [(7, .int v10), (0, .ref (adr (xG X) 7 0 0)), (1, .int p1), (2, .int p2), (3, .int v2), (4, .int v3), (6, .int v5)] rfl dX7_planFor_106 (hS _ (by decide)) ?_
            refine r_iload F 0 rfl dX7_planFor_108 ?_
            refine r_iload F 5 rfl dX7_planFor_110 ?_
            refine Wt_jn (fun (j133 : Int32 → Hp → Option (Int32 × Hp)) => ∀ v11 : Int32, ∀ h12 : Hp, Wm X (fun v => some (.int v.1)) (fun v => v.2) (fun _ => True) 133 [(0, .ref (adr (xG X) 7 0 0)), (1, .int p1), (2, .int p2), (3, .int v2), (4, .int v11), (6, .int v5)] [] h12 (j133 v11 h12)) ?_ fun j133 hj133 => ?_
            · intro v11 h12
              refine r_aload_n F 0 rfl dX7_planFor_133 rfl ?_
              refine r_iload_n F 2 rfl dX7_planFor_134 rfl ?_
              refine r_iconst F (v := 1) dX7_planFor_135 (by decide) ?_
              refine r_iconst F (v := 3) dX7_planFor_136 (by decide) ?_
              refine k_iH (run_V F cvX7_287 (by decide) (c_X7_nextWay (xG X) _ N h12 p2 1 3) rfl rfl ⟨⟨rfl, rfl⟩, Nat.le_of_ble_eq_true rfl, Nat.le_of_ble_eq_true rfl⟩ (Nat.le_of_ble_eq_true rfl) dX7_planFor_137) fun v14 h13 => ?_
              refine r_istore F [(5, .int v14), (0, .ref (adr (xG X) 7 0 0)), (1, .int p1), (2, .int p2), (3, .int v2), (4, .int v11), (6, .int v5)] rfl dX7_planFor_140 (hS _ (by decide)) ?_
              refine r_iinc F (v := 1) 6 rfl (by decide) (fun v15 => [(6, .int v15), (5, .int v14), (0, .ref (adr (xG X) 7 0 0)), (1, .int p1), (2, .int p2), (3, .int v2), (4, .int v11)]) (fun _ => rfl) dX7_planFor_142 (hS _ (by decide)) fun v15 => ?_
              refine r_goto F (tgt := 21) dX7_planFor_145 (by decide) ?_
              exact Wt_pick [2, 3, 4, 5, 6, 1, 0] rfl (ih21 v11 v14 v15 h13)
            refine r_icmple F (tgt := 133) dX7_planFor_112 (by decide) ?_ ?_
            · skip
              exact Wt_pick [1, 2, 3, 4, 5, 6] rfl (hj133 v3 h8)
            refine r_iload F 0 rfl dX7_planFor_115 ?_
            refine r_istore F [(4, .int v10), (7, .int v10), (0, .ref (adr (xG X) 7 0 0)), (1, .int p1), (2, .int p2), (3, .int v2), (6, .int v5)] rfl dX7_planFor_117 (hS _ (by decide)) ?_
            refine r_aload_n F 2 rfl dX7_planFor_119 rfl ?_
            refine r_getA F frX7_37 (by decide) dX7_planFor_120 ?_
            refine r_iconst F (v := 0) dX7_planFor_123 (by decide) ?_
            refine r_aload_n F 2 rfl dX7_planFor_124 rfl ?_
            refine r_getA F frX7_41 (by decide) dX7_planFor_125 ?_
            refine r_iconst F (v := 0) dX7_planFor_128 (by decide) ?_
            refine r_iload_n F 4 rfl dX7_planFor_129 rfl ?_
            refine r_copy F (ar_7_0 0 (by decide)) (ar_7_1 0 (by decide)) wd_824 ws_copy ⟨Nat.le_of_ble_eq_true rfl, Nat.le_of_ble_eq_true rfl⟩ dX7_planFor_130 fun h16 => ?_
            exact Wt_pick [2, 3, 4, 5, 0, 6] rfl (hj133 v10 h16)
          refine r_aload_n F 0 rfl dX7_planFor_37 rfl ?_
          refine r_getA F frX7_78 (by decide) dX7_planFor_38 ?_
          refine r_iload F 6 rfl dX7_planFor_41 ?_
          refine r_iconst F (v := 1) dX7_planFor_43 (by decide) ?_
          refine r_iadd F dX7_planFor_44 ?_
          refine r_aaload F dX7_planFor_45 fun o17 hp_o17 => ?_
          refine r_astore F [(8, .ref (adr (xG X) 3 o17 0)), (0, .ref (adr (xG X) 7 0 0)), (1, .int p1), (2, .int p2), (3, .int v2), (4, .int v3), (6, .int v5), (7, .int v7)] rfl dX7_planFor_46 (hS _ (by decide)) ?_
          refine r_aload F 0 rfl dX7_planFor_48 ?_
          refine r_aload_n F 1 rfl dX7_planFor_50 rfl ?_
          refine r_getA F frX7_78 (by decide) dX7_planFor_51 ?_
          refine r_iload F 7 rfl dX7_planFor_54 ?_
          refine r_aaload F dX7_planFor_56 fun o18 hp_o18 => ?_
          refine k_vH (run_V F cvX7_109 hp_o17 (c_X3_copy (xG X) _ h8 o17 hp_o17 o18 hp_o18) rfl rfl ⟨⟨rfl, rfl⟩, Nat.le_of_ble_eq_true rfl, Nat.le_of_ble_eq_true rfl⟩ (Nat.le_of_ble_eq_true rfl) dX7_planFor_57) fun h19 => ?_
          refine r_aload F 0 rfl dX7_planFor_60 ?_
          refine r_getA F frX7_164 hp_o17 dX7_planFor_62 ?_
          refine r_iload_n F 2 rfl dX7_planFor_65 rfl ?_
          refine r_aload_n F 1 rfl dX7_planFor_66 rfl ?_
          refine r_getA F frX7_37 (by decide) dX7_planFor_67 ?_
          refine r_iload F 7 rfl dX7_planFor_70 ?_
          refine r_iaload F (ar_7_0 0 (by decide)) dX7_planFor_72 ?_
          refine r_iastore F (ar_3_5 o17 hp_o17) dX7_planFor_73 fun h20 => ?_
          refine r_aload F 0 rfl dX7_planFor_74 ?_
          refine k_vH (run_V F cvX7_278 hp_o17 (c_X3_passHour (xG X) _ N h20 o17 hp_o17) rfl rfl ⟨⟨rfl, rfl⟩, Nat.le_of_ble_eq_true rfl, Nat.le_of_ble_eq_true rfl⟩ (Nat.le_of_ble_eq_true rfl) dX7_planFor_76) fun h21 => ?_
          refine r_iinc F (v := 1) 7 rfl (by decide) (fun v22 => [(7, .int v22), (8, .ref (adr (xG X) 3 o17 0)), (0, .ref (adr (xG X) 7 0 0)), (1, .int p1), (2, .int p2), (3, .int v2), (4, .int v3), (6, .int v5)]) (fun _ => rfl) dX7_planFor_79 (hS _ (by decide)) fun v22 => ?_
          refine r_goto F (tgt := 31) dX7_planFor_82 (by decide) ?_
          exact Wt_pick [2, 3, 4, 5, 6, 7, 0] rfl (ih31 v22 h21)
      exact Wt_pick [1, 2, 3, 4, 5, 7, 0] rfl (hl31 N v4 h6)
  exact Wt_pick [4, 5, 6, 3, 2, 1, 0] rfl (hl21 N (-1) 0 0 h1)
theorem c_X7_planFor (G : Gx) (l : Launch) (N : Nat) (h : Hp) (p1 : Int32) (p2 : Int32) : Ctr G l yX7_planFor (.code yX7_planFor cX7_planFor 9 (some .int) :: GT) rmX7_planFor [.ref (adr G 7 0 0), .int p1, .int p2] h (f_X7_planFor N h p1 p2) (fun v => some (.int v.1)) (fun v => v.2) (fun _ => True) :=
  ctr_of (by decide) (Nat.le_of_ble_eq_true rfl) ⟨rfl, rfl⟩ fun X _ e2 hA hL F => by subst e2; exact w_X7_planFor X F hA hL N h p1 p2
