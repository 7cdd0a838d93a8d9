theorem dX8_act_0 : decode cX8_act 0 = .ok (.aload_n 0, 1) := by decide +kernel
theorem dX8_act_1 : decode cX8_act 1 = .ok (.iconst 0, 1) := by decide +kernel
theorem dX8_act_2 : decode cX8_act 2 = .ok (.putfield 163, 3) := by decide +kernel
theorem dX8_act_5 : decode cX8_act 5 = .ok (.aload_n 0, 1) := by decide +kernel
theorem dX8_act_6 : decode cX8_act 6 = .ok (.iload_n 1, 1) := by decide +kernel
theorem dX8_act_7 : decode cX8_act 7 = .ok (.invokevirtual 462, 3) := by decide +kernel
theorem dX8_act_10 : decode cX8_act 10 = .ok (.ifCond .eq 22, 3) := by decide +kernel
theorem dX8_act_13 : decode cX8_act 13 = .ok (.iload_n 2, 1) := by decide +kernel
theorem dX8_act_14 : decode cX8_act 14 = .ok (.iconst 0, 1) := by decide +kernel
theorem dX8_act_15 : decode cX8_act 15 = .ok (.iconst 3, 1) := by decide +kernel
theorem dX8_act_16 : decode cX8_act 16 = .ok (.invokestatic 208, 3) := by decide +kernel
theorem dX8_act_19 : decode cX8_act 19 = .ok (.ifCond .eq 13, 3) := by decide +kernel
theorem dX8_act_22 : decode cX8_act 22 = .ok (.aload_n 0, 1) := by decide +kernel
theorem dX8_act_23 : decode cX8_act 23 = .ok (.getfield 97, 3) := by decide +kernel
theorem dX8_act_26 : decode cX8_act 26 = .ok (.iload_n 1, 1) := by decide +kernel
theorem dX8_act_27 : decode cX8_act 27 = .ok (.iaload, 1) := by decide +kernel
theorem dX8_act_28 : decode cX8_act 28 = .ok (.iload_n 2, 1) := by decide +kernel
theorem dX8_act_29 : decode cX8_act 29 = .ok (.if_icmp .ne 5, 3) := by decide +kernel
theorem dX8_act_32 : decode cX8_act 32 = .ok (.iconst 0, 1) := by decide +kernel
theorem dX8_act_33 : decode cX8_act 33 = .ok (.ireturn, 1) := by decide +kernel
theorem dX8_act_34 : decode cX8_act 34 = .ok (.aload_n 0, 1) := by decide +kernel
theorem dX8_act_35 : decode cX8_act 35 = .ok (.invokevirtual 473, 3) := by decide +kernel
theorem dX8_act_38 : decode cX8_act 38 = .ok (.aload_n 0, 1) := by decide +kernel
theorem dX8_act_39 : decode cX8_act 39 = .ok (.getfield 97, 3) := by decide +kernel
theorem dX8_act_42 : decode cX8_act 42 = .ok (.iload_n 1, 1) := by decide +kernel
theorem dX8_act_43 : decode cX8_act 43 = .ok (.iload_n 2, 1) := by decide +kernel
theorem dX8_act_44 : decode cX8_act 44 = .ok (.iastore, 1) := by decide +kernel
theorem dX8_act_45 : decode cX8_act 45 = .ok (.iconst 1, 1) := by decide +kernel
theorem dX8_act_46 : decode cX8_act 46 = .ok (.ireturn, 1) := by decide +kernel
theorem dX8_rule_0 : decode cX8_rule 0 = .ok (.aload_n 0, 1) := by decide +kernel
theorem dX8_rule_1 : decode cX8_rule 1 = .ok (.iconst 0, 1) := by decide +kernel
theorem dX8_rule_2 : decode cX8_rule 2 = .ok (.putfield 163, 3) := by decide +kernel
theorem dX8_rule_5 : decode cX8_rule 5 = .ok (.iload_n 1, 1) := by decide +kernel
theorem dX8_rule_6 : decode cX8_rule 6 = .ok (.iconst 0, 1) := by decide +kernel
theorem dX8_rule_7 : decode cX8_rule 7 = .ok (.iconst 2, 1) := by decide +kernel
theorem dX8_rule_8 : decode cX8_rule 8 = .ok (.invokestatic 208, 3) := by decide +kernel
theorem dX8_rule_11 : decode cX8_rule 11 = .ok (.ifCond .eq 11, 3) := by decide +kernel
theorem dX8_rule_14 : decode cX8_rule 14 = .ok (.iload_n 1, 1) := by decide +kernel
theorem dX8_rule_15 : decode cX8_rule 15 = .ok (.aload_n 0, 1) := by decide +kernel
theorem dX8_rule_16 : decode cX8_rule 16 = .ok (.getfield 363, 3) := by decide +kernel
theorem dX8_rule_19 : decode cX8_rule 19 = .ok (.if_icmp .ne 5, 3) := by decide +kernel
theorem dX8_rule_22 : decode cX8_rule 22 = .ok (.iconst 0, 1) := by decide +kernel
theorem dX8_rule_23 : decode cX8_rule 23 = .ok (.ireturn, 1) := by decide +kernel
theorem dX8_rule_24 : decode cX8_rule 24 = .ok (.aload_n 0, 1) := by decide +kernel
theorem dX8_rule_25 : decode cX8_rule 25 = .ok (.invokevirtual 473, 3) := by decide +kernel
theorem dX8_rule_28 : decode cX8_rule 28 = .ok (.aload_n 0, 1) := by decide +kernel
theorem dX8_rule_29 : decode cX8_rule 29 = .ok (.iload_n 1, 1) := by decide +kernel
theorem dX8_rule_30 : decode cX8_rule 30 = .ok (.putfield 363, 3) := by decide +kernel
theorem dX8_rule_33 : decode cX8_rule 33 = .ok (.iconst 1, 1) := by decide +kernel
theorem dX8_rule_34 : decode cX8_rule 34 = .ok (.ireturn, 1) := by decide +kernel
theorem dX8_lot_0 : decode cX8_lot 0 = .ok (.aload_n 0, 1) := by decide +kernel
theorem dX8_lot_1 : decode cX8_lot 1 = .ok (.iconst 0, 1) := by decide +kernel
theorem dX8_lot_2 : decode cX8_lot 2 = .ok (.putfield 163, 3) := by decide +kernel
theorem dX8_lot_5 : decode cX8_lot 5 = .ok (.aload_n 0, 1) := by decide +kernel
theorem dX8_lot_6 : decode cX8_lot 6 = .ok (.iload_n 1, 1) := by decide +kernel
theorem dX8_lot_7 : decode cX8_lot 7 = .ok (.invokevirtual 456, 3) := by decide +kernel
theorem dX8_lot_10 : decode cX8_lot 10 = .ok (.ifCond .eq 21, 3) := by decide +kernel
theorem dX8_lot_13 : decode cX8_lot 13 = .ok (.aload_n 0, 1) := by decide +kernel
theorem dX8_lot_14 : decode cX8_lot 14 = .ok (.iload_n 2, 1) := by decide +kernel
theorem dX8_lot_15 : decode cX8_lot 15 = .ok (.invokevirtual 462, 3) := by decide +kernel
theorem dX8_lot_18 : decode cX8_lot 18 = .ok (.ifCond .eq 13, 3) := by decide +kernel
theorem dX8_lot_21 : decode cX8_lot 21 = .ok (.aload_n 0, 1) := by decide +kernel
theorem dX8_lot_22 : decode cX8_lot 22 = .ok (.getfield 88, 3) := by decide +kernel
theorem dX8_lot_25 : decode cX8_lot 25 = .ok (.iload_n 1, 1) := by decide +kernel
theorem dX8_lot_26 : decode cX8_lot 26 = .ok (.iaload, 1) := by decide +kernel
theorem dX8_lot_27 : decode cX8_lot 27 = .ok (.iload_n 2, 1) := by decide +kernel
theorem dX8_lot_28 : decode cX8_lot 28 = .ok (.if_icmp .ne 5, 3) := by decide +kernel
theorem dX8_lot_31 : decode cX8_lot 31 = .ok (.iconst 0, 1) := by decide +kernel
theorem dX8_lot_32 : decode cX8_lot 32 = .ok (.ireturn, 1) := by decide +kernel
theorem dX8_lot_33 : decode cX8_lot 33 = .ok (.aload_n 0, 1) := by decide +kernel
theorem dX8_lot_34 : decode cX8_lot 34 = .ok (.invokevirtual 473, 3) := by decide +kernel
theorem dX8_lot_37 : decode cX8_lot 37 = .ok (.aload_n 0, 1) := by decide +kernel
theorem dX8_lot_38 : decode cX8_lot 38 = .ok (.getfield 88, 3) := by decide +kernel
theorem dX8_lot_41 : decode cX8_lot 41 = .ok (.iload_n 1, 1) := by decide +kernel
theorem dX8_lot_42 : decode cX8_lot 42 = .ok (.iload_n 2, 1) := by decide +kernel
theorem dX8_lot_43 : decode cX8_lot 43 = .ok (.iastore, 1) := by decide +kernel
theorem dX8_lot_44 : decode cX8_lot 44 = .ok (.iconst 1, 1) := by decide +kernel
theorem dX8_lot_45 : decode cX8_lot 45 = .ok (.ireturn, 1) := by decide +kernel
theorem dX8_canLend_0 : decode cX8_canLend 0 = .ok (.aload_n 0, 1) := by decide +kernel
theorem dX8_canLend_1 : decode cX8_canLend 1 = .ok (.iload_n 1, 1) := by decide +kernel
theorem dX8_canLend_2 : decode cX8_canLend 2 = .ok (.invokevirtual 462, 3) := by decide +kernel
theorem dX8_canLend_5 : decode cX8_canLend 5 = .ok (.ifCond .eq 39, 3) := by decide +kernel
theorem dX8_canLend_8 : decode cX8_canLend 8 = .ok (.aload_n 0, 1) := by decide +kernel
theorem dX8_canLend_9 : decode cX8_canLend 9 = .ok (.iload_n 2, 1) := by decide +kernel
theorem dX8_canLend_10 : decode cX8_canLend 10 = .ok (.invokevirtual 462, 3) := by decide +kernel
theorem dX8_canLend_13 : decode cX8_canLend 13 = .ok (.ifCond .eq 31, 3) := by decide +kernel
theorem dX8_canLend_16 : decode cX8_canLend 16 = .ok (.iload_n 1, 1) := by decide +kernel
theorem dX8_canLend_17 : decode cX8_canLend 17 = .ok (.iload_n 2, 1) := by decide +kernel
theorem dX8_canLend_18 : decode cX8_canLend 18 = .ok (.if_icmp .eq 26, 3) := by decide +kernel
theorem dX8_canLend_21 : decode cX8_canLend 21 = .ok (.aload_n 0, 1) := by decide +kernel
theorem dX8_canLend_22 : decode cX8_canLend 22 = .ok (.getfield 91, 3) := by decide +kernel
theorem dX8_canLend_25 : decode cX8_canLend 25 = .ok (.iload_n 1, 1) := by decide +kernel
theorem dX8_canLend_26 : decode cX8_canLend 26 = .ok (.iaload, 1) := by decide +kernel
theorem dX8_canLend_27 : decode cX8_canLend 27 = .ok (.ifCond .le 17, 3) := by decide +kernel
theorem dX8_canLend_30 : decode cX8_canLend 30 = .ok (.aload_n 0, 1) := by decide +kernel
theorem dX8_canLend_31 : decode cX8_canLend 31 = .ok (.getfield 91, 3) := by decide +kernel
theorem dX8_canLend_34 : decode cX8_canLend 34 = .ok (.iload_n 2, 1) := by decide +kernel
theorem dX8_canLend_35 : decode cX8_canLend 35 = .ok (.iaload, 1) := by decide +kernel
theorem dX8_canLend_36 : decode cX8_canLend 36 = .ok (.iconst 5, 1) := by decide +kernel
theorem dX8_canLend_37 : decode cX8_canLend 37 = .ok (.if_icmp .ge 7, 3) := by decide +kernel
theorem dX8_canLend_40 : decode cX8_canLend 40 = .ok (.iconst 1, 1) := by decide +kernel
theorem dX8_canLend_41 : decode cX8_canLend 41 = .ok (.goto 4, 3) := by decide +kernel
theorem dX8_canLend_44 : decode cX8_canLend 44 = .ok (.iconst 0, 1) := by decide +kernel
theorem dX8_canLend_45 : decode cX8_canLend 45 = .ok (.ireturn, 1) := by decide +kernel
theorem dX8_lend_0 : decode cX8_lend 0 = .ok (.aload_n 0, 1) := by decide +kernel
theorem dX8_lend_1 : decode cX8_lend 1 = .ok (.iconst 0, 1) := by decide +kernel
theorem dX8_lend_2 : decode cX8_lend 2 = .ok (.putfield 163, 3) := by decide +kernel
theorem dX8_lend_5 : decode cX8_lend 5 = .ok (.aload_n 0, 1) := by decide +kernel
theorem dX8_lend_6 : decode cX8_lend 6 = .ok (.iload_n 1, 1) := by decide +kernel
theorem dX8_lend_7 : decode cX8_lend 7 = .ok (.iload_n 2, 1) := by decide +kernel
theorem dX8_lend_8 : decode cX8_lend 8 = .ok (.invokevirtual 476, 3) := by decide +kernel
theorem dX8_lend_11 : decode cX8_lend 11 = .ok (.ifCond .ne 5, 3) := by decide +kernel
theorem dX8_lend_14 : decode cX8_lend 14 = .ok (.iconst 0, 1) := by decide +kernel
theorem dX8_lend_15 : decode cX8_lend 15 = .ok (.ireturn, 1) := by decide +kernel
theorem dX8_lend_16 : decode cX8_lend 16 = .ok (.aload_n 0, 1) := by decide +kernel
theorem dX8_lend_17 : decode cX8_lend 17 = .ok (.invokevirtual 473, 3) := by decide +kernel
theorem dX8_lend_20 : decode cX8_lend 20 = .ok (.aload_n 0, 1) := by decide +kernel
theorem dX8_lend_21 : decode cX8_lend 21 = .ok (.getfield 91, 3) := by decide +kernel
theorem dX8_lend_24 : decode cX8_lend 24 = .ok (.iload_n 1, 1) := by decide +kernel
theorem dX8_lend_25 : decode cX8_lend 25 = .ok (.dup2, 1) := by decide +kernel
theorem dX8_lend_26 : decode cX8_lend 26 = .ok (.iaload, 1) := by decide +kernel
theorem dX8_lend_27 : decode cX8_lend 27 = .ok (.iconst 1, 1) := by decide +kernel
theorem dX8_lend_28 : decode cX8_lend 28 = .ok (.isub, 1) := by decide +kernel
theorem dX8_lend_29 : decode cX8_lend 29 = .ok (.iastore, 1) := by decide +kernel
theorem dX8_lend_30 : decode cX8_lend 30 = .ok (.aload_n 0, 1) := by decide +kernel
theorem dX8_lend_31 : decode cX8_lend 31 = .ok (.getfield 91, 3) := by decide +kernel
theorem dX8_lend_34 : decode cX8_lend 34 = .ok (.iload_n 2, 1) := by decide +kernel
theorem dX8_lend_35 : decode cX8_lend 35 = .ok (.dup2, 1) := by decide +kernel
theorem dX8_lend_36 : decode cX8_lend 36 = .ok (.iaload, 1) := by decide +kernel
theorem dX8_lend_37 : decode cX8_lend 37 = .ok (.iconst 1, 1) := by decide +kernel
theorem dX8_lend_38 : decode cX8_lend 38 = .ok (.iadd, 1) := by decide +kernel
theorem dX8_lend_39 : decode cX8_lend 39 = .ok (.iastore, 1) := by decide +kernel
theorem dX8_lend_40 : decode cX8_lend 40 = .ok (.iconst 1, 1) := by decide +kernel
theorem dX8_lend_41 : decode cX8_lend 41 = .ok (.ireturn, 1) := by decide +kernel
theorem dX8_go_0 : decode cX8_go 0 = .ok (.aload_n 0, 1) := by decide +kernel
theorem dX8_go_1 : decode cX8_go 1 = .ok (.iconst 0, 1) := by decide +kernel
theorem dX8_go_2 : decode cX8_go 2 = .ok (.putfield 163, 3) := by decide +kernel
theorem dX8_go_5 : decode cX8_go 5 = .ok (.iload_n 1, 1) := by decide +kernel
theorem dX8_go_6 : decode cX8_go 6 = .ok (.iconst 0, 1) := by decide +kernel
theorem dX8_go_7 : decode cX8_go 7 = .ok (.bipush 99, 2) := by decide +kernel
theorem dX8_go_9 : decode cX8_go 9 = .ok (.invokestatic 208, 3) := by decide +kernel
theorem dX8_go_12 : decode cX8_go 12 = .ok (.ifCond .eq 17, 3) := by decide +kernel
theorem dX8_go_15 : decode cX8_go 15 = .ok (.aload_n 0, 1) := by decide +kernel
theorem dX8_go_16 : decode cX8_go 16 = .ok (.getfield 115, 3) := by decide +kernel
theorem dX8_go_19 : decode cX8_go 19 = .ok (.iconst 0, 1) := by decide +kernel
theorem dX8_go_20 : decode cX8_go 20 = .ok (.iaload, 1) := by decide +kernel
theorem dX8_go_21 : decode cX8_go 21 = .ok (.iload_n 1, 1) := by decide +kernel
theorem dX8_go_22 : decode cX8_go 22 = .ok (.iadd, 1) := by decide +kernel
theorem dX8_go_23 : decode cX8_go 23 = .ok (.sipush 9999, 3) := by decide +kernel
theorem dX8_go_26 : decode cX8_go 26 = .ok (.if_icmp .le 5, 3) := by decide +kernel
theorem dX8_go_29 : decode cX8_go 29 = .ok (.iconst (-1), 1) := by decide +kernel
theorem dX8_go_30 : decode cX8_go 30 = .ok (.ireturn, 1) := by decide +kernel
theorem dX8_go_31 : decode cX8_go 31 = .ok (.aload_n 0, 1) := by decide +kernel
theorem dX8_go_32 : decode cX8_go 32 = .ok (.invokevirtual 370, 3) := by decide +kernel
theorem dX8_go_35 : decode cX8_go 35 = .ok (.iconst 0, 1) := by decide +kernel
theorem dX8_go_36 : decode cX8_go 36 = .ok (.istore_n 2, 1) := by decide +kernel
theorem dX8_go_37 : decode cX8_go 37 = .ok (.iload_n 2, 1) := by decide +kernel
theorem dX8_go_38 : decode cX8_go 38 = .ok (.iload_n 1, 1) := by decide +kernel
theorem dX8_go_39 : decode cX8_go 39 = .ok (.if_icmp .ge 23, 3) := by decide +kernel
theorem dX8_go_42 : decode cX8_go 42 = .ok (.aload_n 0, 1) := by decide +kernel
theorem dX8_go_43 : decode cX8_go 43 = .ok (.iconst 0, 1) := by decide +kernel
theorem dX8_go_44 : decode cX8_go 44 = .ok (.invokevirtual 479, 3) := by decide +kernel
theorem dX8_go_47 : decode cX8_go 47 = .ok (.aload_n 0, 1) := by decide +kernel
theorem dX8_go_48 : decode cX8_go 48 = .ok (.iconst 0, 1) := by decide +kernel
theorem dX8_go_49 : decode cX8_go 49 = .ok (.aload_n 0, 1) := by decide +kernel
theorem dX8_go_50 : decode cX8_go 50 = .ok (.getfield 363, 3) := by decide +kernel
theorem dX8_go_53 : decode cX8_go 53 = .ok (.invokevirtual 482, 3) := by decide +kernel
theorem dX8_go_56 : decode cX8_go 56 = .ok (.iinc 2 1, 3) := by decide +kernel
theorem dX8_go_59 : decode cX8_go 59 = .ok (.goto (-22), 3) := by decide +kernel
theorem dX8_go_62 : decode cX8_go 62 = .ok (.aload_n 0, 1) := by decide +kernel
theorem dX8_go_63 : decode cX8_go 63 = .ok (.iload_n 1, 1) := by decide +kernel
theorem dX8_go_64 : decode cX8_go 64 = .ok (.ifCond .le 7, 3) := by decide +kernel
theorem dX8_go_67 : decode cX8_go 67 = .ok (.iconst 0, 1) := by decide +kernel
theorem dX8_go_68 : decode cX8_go 68 = .ok (.goto 7, 3) := by decide +kernel
theorem dX8_go_71 : decode cX8_go 71 = .ok (.aload_n 0, 1) := by decide +kernel
theorem dX8_go_72 : decode cX8_go 72 = .ok (.getfield 376, 3) := by decide +kernel
theorem dX8_go_75 : decode cX8_go 75 = .ok (.putfield 376, 3) := by decide +kernel
theorem dX8_go_78 : decode cX8_go 78 = .ok (.aload_n 0, 1) := by decide +kernel
theorem dX8_go_79 : decode cX8_go 79 = .ok (.getfield 115, 3) := by decide +kernel
theorem dX8_go_82 : decode cX8_go 82 = .ok (.iconst 0, 1) := by decide +kernel
theorem dX8_go_83 : decode cX8_go 83 = .ok (.iaload, 1) := by decide +kernel
theorem dX8_go_84 : decode cX8_go 84 = .ok (.ireturn, 1) := by decide +kernel
theorem dX8_gotAll_0 : decode cX8_gotAll 0 = .ok (.iconst 0, 1) := by decide +kernel
theorem dX8_gotAll_1 : decode cX8_gotAll 1 = .ok (.istore_n 2, 1) := by decide +kernel
theorem dX8_gotAll_2 : decode cX8_gotAll 2 = .ok (.iconst 0, 1) := by decide +kernel
theorem dX8_gotAll_3 : decode cX8_gotAll 3 = .ok (.istore_n 3, 1) := by decide +kernel
theorem dX8_gotAll_4 : decode cX8_gotAll 4 = .ok (.iload_n 3, 1) := by decide +kernel
theorem dX8_gotAll_5 : decode cX8_gotAll 5 = .ok (.aload_n 0, 1) := by decide +kernel
theorem dX8_gotAll_6 : decode cX8_gotAll 6 = .ok (.getfield 249, 3) := by decide +kernel
theorem dX8_gotAll_9 : decode cX8_gotAll 9 = .ok (.if_icmp .ge 23, 3) := by decide +kernel
theorem dX8_gotAll_12 : decode cX8_gotAll 12 = .ok (.iload_n 2, 1) := by decide +kernel
theorem dX8_gotAll_13 : decode cX8_gotAll 13 = .ok (.aload_n 0, 1) := by decide +kernel
theorem dX8_gotAll_14 : decode cX8_gotAll 14 = .ok (.getfield 106, 3) := by decide +kernel
theorem dX8_gotAll_17 : decode cX8_gotAll 17 = .ok (.bipush 6, 2) := by decide +kernel
theorem dX8_gotAll_19 : decode cX8_gotAll 19 = .ok (.iload_n 1, 1) := by decide +kernel
theorem dX8_gotAll_20 : decode cX8_gotAll 20 = .ok (.imul, 1) := by decide +kernel
theorem dX8_gotAll_21 : decode cX8_gotAll 21 = .ok (.iload_n 3, 1) := by decide +kernel
theorem dX8_gotAll_22 : decode cX8_gotAll 22 = .ok (.iadd, 1) := by decide +kernel
theorem dX8_gotAll_23 : decode cX8_gotAll 23 = .ok (.iaload, 1) := by decide +kernel
theorem dX8_gotAll_24 : decode cX8_gotAll 24 = .ok (.iadd, 1) := by decide +kernel
theorem dX8_gotAll_25 : decode cX8_gotAll 25 = .ok (.istore_n 2, 1) := by decide +kernel
theorem dX8_gotAll_26 : decode cX8_gotAll 26 = .ok (.iinc 3 1, 3) := by decide +kernel
theorem dX8_gotAll_29 : decode cX8_gotAll 29 = .ok (.goto (-25), 3) := by decide +kernel
theorem dX8_gotAll_32 : decode cX8_gotAll 32 = .ok (.iload_n 2, 1) := by decide +kernel
theorem dX8_gotAll_33 : decode cX8_gotAll 33 = .ok (.ireturn, 1) := by decide +kernel
theorem dX8_gains_0 : decode cX8_gains 0 = .ok (.iconst 0, 1) := by decide +kernel
theorem dX8_gains_1 : decode cX8_gains 1 = .ok (.istore_n 2, 1) := by decide +kernel
theorem dX8_gains_2 : decode cX8_gains 2 = .ok (.iconst 0, 1) := by decide +kernel
theorem dX8_gains_3 : decode cX8_gains 3 = .ok (.istore_n 3, 1) := by decide +kernel
theorem dX8_gains_4 : decode cX8_gains 4 = .ok (.iload_n 3, 1) := by decide +kernel
theorem dX8_gains_5 : decode cX8_gains 5 = .ok (.aload_n 0, 1) := by decide +kernel
theorem dX8_gains_6 : decode cX8_gains 6 = .ok (.getfield 246, 3) := by decide +kernel
theorem dX8_gains_9 : decode cX8_gains 9 = .ok (.if_icmp .ge 22, 3) := by decide +kernel
theorem dX8_gains_12 : decode cX8_gains 12 = .ok (.iload_n 2, 1) := by decide +kernel
theorem dX8_gains_13 : decode cX8_gains 13 = .ok (.aload_n 0, 1) := by decide +kernel
theorem dX8_gains_14 : decode cX8_gains 14 = .ok (.getfield 100, 3) := by decide +kernel
theorem dX8_gains_17 : decode cX8_gains 17 = .ok (.iconst 4, 1) := by decide +kernel
theorem dX8_gains_18 : decode cX8_gains 18 = .ok (.iload_n 1, 1) := by decide +kernel
theorem dX8_gains_19 : decode cX8_gains 19 = .ok (.imul, 1) := by decide +kernel
theorem dX8_gains_20 : decode cX8_gains 20 = .ok (.iload_n 3, 1) := by decide +kernel
theorem dX8_gains_21 : decode cX8_gains 21 = .ok (.iadd, 1) := by decide +kernel
theorem dX8_gains_22 : decode cX8_gains 22 = .ok (.iaload, 1) := by decide +kernel
theorem dX8_gains_23 : decode cX8_gains 23 = .ok (.iadd, 1) := by decide +kernel
theorem dX8_gains_24 : decode cX8_gains 24 = .ok (.istore_n 2, 1) := by decide +kernel
theorem dX8_gains_25 : decode cX8_gains 25 = .ok (.iinc 3 1, 3) := by decide +kernel
theorem dX8_gains_28 : decode cX8_gains 28 = .ok (.goto (-24), 3) := by decide +kernel
theorem dX8_gains_31 : decode cX8_gains 31 = .ok (.iload_n 2, 1) := by decide +kernel
theorem dX8_gains_32 : decode cX8_gains 32 = .ok (.ireturn, 1) := by decide +kernel
theorem dX8_goTried_0 : decode cX8_goTried 0 = .ok (.iconst 0, 1) := by decide +kernel
theorem dX8_goTried_1 : decode cX8_goTried 1 = .ok (.istore_n 3, 1) := by decide +kernel
theorem dX8_goTried_2 : decode cX8_goTried 2 = .ok (.iload_n 3, 1) := by decide +kernel
theorem dX8_goTried_3 : decode cX8_goTried 3 = .ok (.iload_n 1, 1) := by decide +kernel
theorem dX8_goTried_4 : decode cX8_goTried 4 = .ok (.if_icmp .ge 15, 3) := by decide +kernel
theorem dX8_goTried_7 : decode cX8_goTried 7 = .ok (.aload_n 0, 1) := by decide +kernel
theorem dX8_goTried_8 : decode cX8_goTried 8 = .ok (.iconst 1, 1) := by decide +kernel
theorem dX8_goTried_9 : decode cX8_goTried 9 = .ok (.iload_n 2, 1) := by decide +kernel
theorem dX8_goTried_10 : decode cX8_goTried 10 = .ok (.invokevirtual 482, 3) := by decide +kernel
theorem dX8_goTried_13 : decode cX8_goTried 13 = .ok (.iinc 3 1, 3) := by decide +kernel
theorem dX8_goTried_16 : decode cX8_goTried 16 = .ok (.goto (-14), 3) := by decide +kernel
theorem dX8_goTried_19 : decode cX8_goTried 19 = .ok (.return_, 1) := by decide +kernel
theorem dX8_layRule_0 : decode cX8_layRule 0 = .ok (.aload_n 0, 1) := by decide +kernel
theorem dX8_layRule_1 : decode cX8_layRule 1 = .ok (.invokevirtual 485, 3) := by decide +kernel
theorem dX8_layRule_4 : decode cX8_layRule 4 = .ok (.iconst 0, 1) := by decide +kernel
theorem dX8_layRule_5 : decode cX8_layRule 5 = .ok (.istore_n 3, 1) := by decide +kernel
theorem dX8_layRule_6 : decode cX8_layRule 6 = .ok (.iload_n 3, 1) := by decide +kernel
theorem dX8_layRule_7 : decode cX8_layRule 7 = .ok (.iconst 4, 1) := by decide +kernel
theorem dX8_layRule_8 : decode cX8_layRule 8 = .ok (.if_icmp .ge 18, 3) := by decide +kernel
theorem dX8_layRule_11 : decode cX8_layRule 11 = .ok (.aload_n 0, 1) := by decide +kernel
theorem dX8_layRule_12 : decode cX8_layRule 12 = .ok (.getfield 97, 3) := by decide +kernel
theorem dX8_layRule_15 : decode cX8_layRule 15 = .ok (.iconst 4, 1) := by decide +kernel
theorem dX8_layRule_16 : decode cX8_layRule 16 = .ok (.iload_n 3, 1) := by decide +kernel
theorem dX8_layRule_17 : decode cX8_layRule 17 = .ok (.iadd, 1) := by decide +kernel
theorem dX8_layRule_18 : decode cX8_layRule 18 = .ok (.iconst 0, 1) := by decide +kernel
theorem dX8_layRule_19 : decode cX8_layRule 19 = .ok (.iastore, 1) := by decide +kernel
theorem dX8_layRule_20 : decode cX8_layRule 20 = .ok (.iinc 3 1, 3) := by decide +kernel
theorem dX8_layRule_23 : decode cX8_layRule 23 = .ok (.goto (-17), 3) := by decide +kernel
theorem dX8_layRule_26 : decode cX8_layRule 26 = .ok (.aload_n 0, 1) := by decide +kernel
theorem dX8_layRule_27 : decode cX8_layRule 27 = .ok (.iload_n 2, 1) := by decide +kernel
theorem dX8_layRule_28 : decode cX8_layRule 28 = .ok (.iload_n 1, 1) := by decide +kernel
theorem dX8_layRule_29 : decode cX8_layRule 29 = .ok (.invokevirtual 488, 3) := by decide +kernel
theorem dX8_layRule_32 : decode cX8_layRule 32 = .ok (.return_, 1) := by decide +kernel
theorem dX8_table_0 : decode cX8_table 0 = .ok (.aload_n 0, 1) := by decide +kernel
theorem dX8_table_1 : decode cX8_table 1 = .ok (.iconst 0, 1) := by decide +kernel
theorem dX8_table_2 : decode cX8_table 2 = .ok (.putfield 163, 3) := by decide +kernel
theorem dX8_table_5 : decode cX8_table 5 = .ok (.iload_n 1, 1) := by decide +kernel
theorem dX8_table_6 : decode cX8_table 6 = .ok (.iconst 0, 1) := by decide +kernel
theorem dX8_table_7 : decode cX8_table 7 = .ok (.iconst 2, 1) := by decide +kernel
theorem dX8_table_8 : decode cX8_table 8 = .ok (.invokestatic 208, 3) := by decide +kernel
theorem dX8_table_11 : decode cX8_table 11 = .ok (.ifCond .eq 22, 3) := by decide +kernel
theorem dX8_table_14 : decode cX8_table 14 = .ok (.iload_n 2, 1) := by decide +kernel
theorem dX8_table_15 : decode cX8_table 15 = .ok (.iconst 0, 1) := by decide +kernel
theorem dX8_table_16 : decode cX8_table 16 = .ok (.bipush 99, 2) := by decide +kernel
theorem dX8_table_18 : decode cX8_table 18 = .ok (.invokestatic 208, 3) := by decide +kernel
theorem dX8_table_21 : decode cX8_table 21 = .ok (.ifCond .eq 12, 3) := by decide +kernel
theorem dX8_table_24 : decode cX8_table 24 = .ok (.iload_n 3, 1) := by decide +kernel
theorem dX8_table_25 : decode cX8_table 25 = .ok (.iconst 0, 1) := by decide +kernel
theorem dX8_table_26 : decode cX8_table 26 = .ok (.iconst 3, 1) := by decide +kernel
theorem dX8_table_27 : decode cX8_table 27 = .ok (.invokestatic 208, 3) := by decide +kernel
theorem dX8_table_30 : decode cX8_table 30 = .ok (.ifCond .ne 5, 3) := by decide +kernel
theorem dX8_table_33 : decode cX8_table 33 = .ok (.iconst (-1), 1) := by decide +kernel
theorem dX8_table_34 : decode cX8_table 34 = .ok (.ireturn, 1) := by decide +kernel
theorem dX8_table_35 : decode cX8_table 35 = .ok (.aload_n 0, 1) := by decide +kernel
theorem dX8_table_36 : decode cX8_table 36 = .ok (.iload_n 1, 1) := by decide +kernel
theorem dX8_table_37 : decode cX8_table 37 = .ok (.iload_n 2, 1) := by decide +kernel
theorem dX8_table_38 : decode cX8_table 38 = .ok (.invokevirtual 491, 3) := by decide +kernel
theorem dX8_table_41 : decode cX8_table 41 = .ok (.iload_n 3, 1) := by decide +kernel
theorem dX8_table_42 : decode cX8_table 42 = .ok (.ifCond .ne 17, 3) := by decide +kernel
theorem dX8_table_45 : decode cX8_table 45 = .ok (.aload_n 0, 1) := by decide +kernel
theorem dX8_table_46 : decode cX8_table 46 = .ok (.iconst 1, 1) := by decide +kernel
theorem dX8_table_47 : decode cX8_table 47 = .ok (.invokevirtual 494, 3) := by decide +kernel
theorem dX8_table_50 : decode cX8_table 50 = .ok (.aload_n 0, 1) := by decide +kernel
theorem dX8_table_51 : decode cX8_table 51 = .ok (.iconst 0, 1) := by decide +kernel
theorem dX8_table_52 : decode cX8_table 52 = .ok (.invokevirtual 494, 3) := by decide +kernel
theorem dX8_table_55 : decode cX8_table 55 = .ok (.isub, 1) := by decide +kernel
theorem dX8_table_56 : decode cX8_table 56 = .ok (.goto 49, 3) := by decide +kernel
theorem dX8_table_59 : decode cX8_table 59 = .ok (.iload_n 3, 1) := by decide +kernel
theorem dX8_table_60 : decode cX8_table 60 = .ok (.iconst 1, 1) := by decide +kernel
theorem dX8_table_61 : decode cX8_table 61 = .ok (.if_icmp .ne 19, 3) := by decide +kernel
theorem dX8_table_64 : decode cX8_table 64 = .ok (.aload_n 0, 1) := by decide +kernel
theorem dX8_table_65 : decode cX8_table 65 = .ok (.getfield 112, 3) := by decide +kernel
theorem dX8_table_68 : decode cX8_table 68 = .ok (.iconst 1, 1) := by decide +kernel
theorem dX8_table_69 : decode cX8_table 69 = .ok (.iaload, 1) := by decide +kernel
theorem dX8_table_70 : decode cX8_table 70 = .ok (.aload_n 0, 1) := by decide +kernel
theorem dX8_table_71 : decode cX8_table 71 = .ok (.getfield 112, 3) := by decide +kernel
theorem dX8_table_74 : decode cX8_table 74 = .ok (.iconst 0, 1) := by decide +kernel
theorem dX8_table_75 : decode cX8_table 75 = .ok (.iaload, 1) := by decide +kernel
theorem dX8_table_76 : decode cX8_table 76 = .ok (.isub, 1) := by decide +kernel
theorem dX8_table_77 : decode cX8_table 77 = .ok (.goto 28, 3) := by decide +kernel
theorem dX8_table_80 : decode cX8_table 80 = .ok (.iload_n 3, 1) := by decide +kernel
theorem dX8_table_81 : decode cX8_table 81 = .ok (.iconst 2, 1) := by decide +kernel
theorem dX8_table_82 : decode cX8_table 82 = .ok (.if_icmp .ne 12, 3) := by decide +kernel
theorem dX8_table_85 : decode cX8_table 85 = .ok (.aload_n 0, 1) := by decide +kernel
theorem dX8_table_86 : decode cX8_table 86 = .ok (.getfield 109, 3) := by decide +kernel
theorem dX8_table_89 : decode cX8_table 89 = .ok (.iconst 1, 1) := by decide +kernel
theorem dX8_table_90 : decode cX8_table 90 = .ok (.iaload, 1) := by decide +kernel
theorem dX8_table_91 : decode cX8_table 91 = .ok (.goto 14, 3) := by decide +kernel
theorem dX8_table_94 : decode cX8_table 94 = .ok (.aload_n 0, 1) := by decide +kernel
theorem dX8_table_95 : decode cX8_table 95 = .ok (.iconst 1, 1) := by decide +kernel
theorem dX8_table_96 : decode cX8_table 96 = .ok (.invokevirtual 497, 3) := by decide +kernel
theorem dX8_table_99 : decode cX8_table 99 = .ok (.aload_n 0, 1) := by decide +kernel
theorem dX8_table_100 : decode cX8_table 100 = .ok (.iconst 0, 1) := by decide +kernel
theorem dX8_table_101 : decode cX8_table 101 = .ok (.invokevirtual 497, 3) := by decide +kernel
theorem dX8_table_104 : decode cX8_table 104 = .ok (.isub, 1) := by decide +kernel
theorem dX8_table_105 : decode cX8_table 105 = .ok (.ireturn, 1) := by decide +kernel
def f_X8_act (N : Nat) (h : Hp) (p1 : Int32) (p2 : Int32) : Option (Bool × Hp) :=
  lt_ (sI h 8 0 2 0) fun h1 =>
  (f_X8_isCroft h1 p1).bind fun v2 =>
  jn (
    some (false, h1)) fun (j32 : Option (Bool × Hp)) =>
  if (b2i v2) = 0 then
    j32
  else
  (f_X8_isIn p2 0 3).bind fun v3 =>
  if (b2i v3) = 0 then
    j32
  else
  grd (inb p1 8) <|
  if ¬ (gA h1 8 0 27 p1.toNatClampNeg) = p2 then
    (f_X8_remember N h1).bind fun h4 =>
    grd (inb p1 8) <| lt_ (sA h4 8 0 27 p1.toNatClampNeg p2) fun h5 =>
    some (true, h5)
  else
  j32
abbrev rmX8_act : Room := { frames := 2, cells := 0, slots := 0, locals := 44 }
set_option maxRecDepth 100000 in
set_option maxHeartbeats 4000000 in
theorem w_X8_act (X : Cx) (F : Fx X cX8_act RX8 (some .boolean) rmX8_act) (hA : xA X = Aw (xG X)) (hL : xL X = 3) (N : Nat) (h : Hp) (p1 : Int32) (p2 : Int32) : Wm X (fun v => some (.int (b2i v.1))) (fun v => v.2) (fun _ => True) 0 [(0, .ref (adr (xG X) 8 0 0)), (1, .int p1), (2, .int p2)] [] h (f_X8_act N h p1 p2) := by
  have hS : ∀ i : Nat, i < 3 → i < xL X := fun i z => by rw [hL]; exact z
  unfold f_X8_act
  refine r_aload_n F 0 rfl dX8_act_0 rfl ?_
  refine r_iconst F (v := 0) dX8_act_1 (by decide) ?_
  refine r_putI F frX8_163 (by decide) rfl rfl dX8_act_2 fun h1 => ?_
  refine r_aload_n F 0 rfl dX8_act_5 rfl ?_
  refine r_iload_n F 1 rfl dX8_act_6 rfl ?_
  refine k_zP (run_V F cvX8_462 (by decide) (c_X8_isCroft (xG X) _ h1 p1) rfl rfl ⟨⟨rfl, rfl⟩, Nat.le_of_ble_eq_true rfl, Nat.le_of_ble_eq_true rfl⟩ (Nat.le_of_ble_eq_true rfl) dX8_act_7) fun v2 _ => ?_
  refine Wt_jn (fun (j32 : Option (Bool × Hp)) => Wm X (fun v => some (.int (b2i v.1))) (fun v => v.2) (fun _ => True) 32 [] [] h1 (j32)) ?_ fun j32 hj32 => ?_
  · skip
    refine r_iconst F (v := 0) dX8_act_32 (by decide) ?_
    exact r_zret F hA false rfl rfl rfl trivial dX8_act_33
  refine r_ifeq F (tgt := 32) dX8_act_10 (by decide) ?_ ?_
  · skip
    exact Wt_pick [] rfl (hj32)
  refine r_iload_n F 2 rfl dX8_act_13 rfl ?_
  refine r_iconst F (v := 0) dX8_act_14 (by decide) ?_
  refine r_iconst F (v := 3) dX8_act_15 (by decide) ?_
  refine k_zP (run_S F csX8_208 (c_X8_isIn (xG X) _ h1 p2 0 3) rfl rfl ⟨⟨rfl, rfl⟩, Nat.le_of_ble_eq_true rfl, Nat.le_of_ble_eq_true rfl⟩ (Nat.le_of_ble_eq_true rfl) dX8_act_16) fun v3 _ => ?_
  refine r_ifeq F (tgt := 32) dX8_act_19 (by decide) ?_ ?_
  · skip
    exact Wt_pick [] rfl (hj32)
  refine r_aload_n F 0 rfl dX8_act_22 rfl ?_
  refine r_getA F frX8_97 (by decide) dX8_act_23 ?_
  refine r_iload_n F 1 rfl dX8_act_26 rfl ?_
  refine r_iaload F (ar_8_27 0 (by decide)) dX8_act_27 ?_
  refine r_iload_n F 2 rfl dX8_act_28 rfl ?_
  refine r_icmpne F (tgt := 34) dX8_act_29 (by decide) ?_ ?_
  · skip
    refine r_aload_n F 0 rfl dX8_act_34 rfl ?_
    refine k_vH (run_V F cvX8_473 (by decide) (c_X8_remember (xG X) _ N h1) rfl rfl ⟨⟨rfl, rfl⟩, Nat.le_of_ble_eq_true rfl, Nat.le_of_ble_eq_true rfl⟩ (Nat.le_of_ble_eq_true rfl) dX8_act_35) fun h4 => ?_
    refine r_aload_n F 0 rfl dX8_act_38 rfl ?_
    refine r_getA F frX8_97 (by decide) dX8_act_39 ?_
    refine r_iload_n F 1 rfl dX8_act_42 rfl ?_
    refine r_iload_n F 2 rfl dX8_act_43 rfl ?_
    refine r_iastore F (ar_8_27 0 (by decide)) dX8_act_44 fun h5 => ?_
    refine r_iconst F (v := 1) dX8_act_45 (by decide) ?_
    exact r_zret F hA true rfl rfl rfl trivial dX8_act_46
  exact Wt_pick [] rfl (hj32)
theorem c_X8_act (G : Gx) (l : Launch) (N : Nat) (h : Hp) (p1 : Int32) (p2 : Int32) : Ctr G l yX8_act (.code yX8_act cX8_act 3 (some .boolean) :: GT) rmX8_act [.ref (adr G 8 0 0), .int p1, .int p2] h (f_X8_act N h p1 p2) (fun v => some (.int (b2i v.1))) (fun v => v.2) (fun _ => True) :=
  ctr_of (by decide) (Nat.le_of_ble_eq_true rfl) ⟨rfl, rfl⟩ fun X _ e2 hA hL F => by subst e2; exact w_X8_act X F hA hL N h p1 p2
def f_X8_rule (N : Nat) (h : Hp) (p1 : Int32) : Option (Bool × Hp) :=
  lt_ (sI h 8 0 2 0) fun h1 =>
  (f_X8_isIn p1 0 2).bind fun v2 =>
  jn (
    some (false, h1)) fun (j22 : Option (Bool × Hp)) =>
  if (b2i v2) = 0 then
    j22
  else
  if ¬ p1 = (gI h1 8 0 61) then
    (f_X8_remember N h1).bind fun h3 =>
    lt_ (sI h3 8 0 61 p1) fun h4 =>
    some (true, h4)
  else
  j22
abbrev rmX8_rule : Room := { frames := 2, cells := 0, slots := 0, locals := 44 }
set_option maxRecDepth 100000 in
set_option maxHeartbeats 4000000 in
theorem w_X8_rule (X : Cx) (F : Fx X cX8_rule RX8 (some .boolean) rmX8_rule) (hA : xA X = Aw (xG X)) (hL : xL X = 2) (N : Nat) (h : Hp) (p1 : Int32) : Wm X (fun v => some (.int (b2i v.1))) (fun v => v.2) (fun _ => True) 0 [(0, .ref (adr (xG X) 8 0 0)), (1, .int p1)] [] h (f_X8_rule N h p1) := by
  have hS : ∀ i : Nat, i < 2 → i < xL X := fun i z => by rw [hL]; exact z
  unfold f_X8_rule
  refine r_aload_n F 0 rfl dX8_rule_0 rfl ?_
  refine r_iconst F (v := 0) dX8_rule_1 (by decide) ?_
  refine r_putI F frX8_163 (by decide) rfl rfl dX8_rule_2 fun h1 => ?_
  refine r_iload_n F 1 rfl dX8_rule_5 rfl ?_
  refine r_iconst F (v := 0) dX8_rule_6 (by decide) ?_
  refine r_iconst F (v := 2) dX8_rule_7 (by decide) ?_
  refine k_zP (run_S F csX8_208 (c_X8_isIn (xG X) _ h1 p1 0 2) rfl rfl ⟨⟨rfl, rfl⟩, Nat.le_of_ble_eq_true rfl, Nat.le_of_ble_eq_true rfl⟩ (Nat.le_of_ble_eq_true rfl) dX8_rule_8) fun v2 _ => ?_
  refine Wt_jn (fun (j22 : Option (Bool × Hp)) => Wm X (fun v => some (.int (b2i v.1))) (fun v => v.2) (fun _ => True) 22 [] [] h1 (j22)) ?_ fun j22 hj22 => ?_
  · skip
    refine r_iconst F (v := 0) dX8_rule_22 (by decide) ?_
    exact r_zret F hA false rfl rfl rfl trivial dX8_rule_23
  refine r_ifeq F (tgt := 22) dX8_rule_11 (by decide) ?_ ?_
  · skip
    exact Wt_pick [] rfl (hj22)
  refine r_iload_n F 1 rfl dX8_rule_14 rfl ?_
  refine r_aload_n F 0 rfl dX8_rule_15 rfl ?_
  refine r_getI F frX8_363 (by decide) dX8_rule_16 ?_
  refine r_icmpne F (tgt := 24) dX8_rule_19 (by decide) ?_ ?_
  · skip
    refine r_aload_n F 0 rfl dX8_rule_24 rfl ?_
    refine k_vH (run_V F cvX8_473 (by decide) (c_X8_remember (xG X) _ N h1) rfl rfl ⟨⟨rfl, rfl⟩, Nat.le_of_ble_eq_true rfl, Nat.le_of_ble_eq_true rfl⟩ (Nat.le_of_ble_eq_true rfl) dX8_rule_25) fun h3 => ?_
    refine r_aload_n F 0 rfl dX8_rule_28 rfl ?_
    refine r_iload_n F 1 rfl dX8_rule_29 rfl ?_
    refine r_putI F frX8_363 (by decide) rfl rfl dX8_rule_30 fun h4 => ?_
    refine r_iconst F (v := 1) dX8_rule_33 (by decide) ?_
    exact r_zret F hA true rfl rfl rfl trivial dX8_rule_34
  exact Wt_pick [] rfl (hj22)
theorem c_X8_rule (G : Gx) (l : Launch) (N : Nat) (h : Hp) (p1 : Int32) : Ctr G l yX8_rule (.code yX8_rule cX8_rule 2 (some .boolean) :: GT) rmX8_rule [.ref (adr G 8 0 0), .int p1] h (f_X8_rule N h p1) (fun v => some (.int (b2i v.1))) (fun v => v.2) (fun _ => True) :=
  ctr_of (by decide) (Nat.le_of_ble_eq_true rfl) ⟨rfl, rfl⟩ fun X _ e2 hA hL F => by subst e2; exact w_X8_rule X F hA hL N h p1
def f_X8_lot (N : Nat) (h : Hp) (p1 : Int32) (p2 : Int32) : Option (Bool × Hp) :=
  lt_ (sI h 8 0 2 0) fun h1 =>
  (f_X8_isStripe h1 p1).bind fun v2 =>
  jn (
    some (false, h1)) fun (j31 : Option (Bool × Hp)) =>
  if (b2i v2) = 0 then
    j31
  else
  (f_X8_isCroft h1 p2).bind fun v3 =>
  if (b2i v3) = 0 then
    j31
  else
  grd (inb p1 16) <|
  if ¬ (gA h1 8 0 24 p1.toNatClampNeg) = p2 then
    (f_X8_remember N h1).bind fun h4 =>
    grd (inb p1 16) <| lt_ (sA h4 8 0 24 p1.toNatClampNeg p2) fun h5 =>
    some (true, h5)
  else
  j31
abbrev rmX8_lot : Room := { frames := 2, cells := 0, slots := 0, locals := 44 }
set_option maxRecDepth 100000 in
set_option maxHeartbeats 4000000 in
theorem w_X8_lot (X : Cx) (F : Fx X cX8_lot RX8 (some .boolean) rmX8_lot) (hA : xA X = Aw (xG X)) (hL : xL X = 3) (N : Nat) (h : Hp) (p1 : Int32) (p2 : Int32) : Wm X (fun v => some (.int (b2i v.1))) (fun v => v.2) (fun _ => True) 0 [(0, .ref (adr (xG X) 8 0 0)), (1, .int p1), (2, .int p2)] [] h (f_X8_lot N h p1 p2) := by
  have hS : ∀ i : Nat, i < 3 → i < xL X := fun i z => by rw [hL]; exact z
  unfold f_X8_lot
  refine r_aload_n F 0 rfl dX8_lot_0 rfl ?_
  refine r_iconst F (v := 0) dX8_lot_1 (by decide) ?_
  refine r_putI F frX8_163 (by decide) rfl rfl dX8_lot_2 fun h1 => ?_
  refine r_aload_n F 0 rfl dX8_lot_5 rfl ?_
  refine r_iload_n F 1 rfl dX8_lot_6 rfl ?_
  refine k_zP (run_V F cvX8_456 (by decide) (c_X8_isStripe (xG X) _ h1 p1) rfl rfl ⟨⟨rfl, rfl⟩, Nat.le_of_ble_eq_true rfl, Nat.le_of_ble_eq_true rfl⟩ (Nat.le_of_ble_eq_true rfl) dX8_lot_7) fun v2 _ => ?_
  refine Wt_jn (fun (j31 : Option (Bool × Hp)) => Wm X (fun v => some (.int (b2i v.1))) (fun v => v.2) (fun _ => True) 31 [] [] h1 (j31)) ?_ fun j31 hj31 => ?_
  · skip
    refine r_iconst F (v := 0) dX8_lot_31 (by decide) ?_
    exact r_zret F hA false rfl rfl rfl trivial dX8_lot_32
  refine r_ifeq F (tgt := 31) dX8_lot_10 (by decide) ?_ ?_
  · skip
    exact Wt_pick [] rfl (hj31)
  refine r_aload_n F 0 rfl dX8_lot_13 rfl ?_
  refine r_iload_n F 2 rfl dX8_lot_14 rfl ?_
  refine k_zP (run_V F cvX8_462 (by decide) (c_X8_isCroft (xG X) _ h1 p2) rfl rfl ⟨⟨rfl, rfl⟩, Nat.le_of_ble_eq_true rfl, Nat.le_of_ble_eq_true rfl⟩ (Nat.le_of_ble_eq_true rfl) dX8_lot_15) fun v3 _ => ?_
  refine r_ifeq F (tgt := 31) dX8_lot_18 (by decide) ?_ ?_
  · skip
    exact Wt_pick [] rfl (hj31)
  refine r_aload_n F 0 rfl dX8_lot_21 rfl ?_
  refine r_getA F frX8_88 (by decide) dX8_lot_22 ?_
  refine r_iload_n F 1 rfl dX8_lot_25 rfl ?_
  refine r_iaload F (ar_8_24 0 (by decide)) dX8_lot_26 ?_
  refine r_iload_n F 2 rfl dX8_lot_27 rfl ?_
  refine r_icmpne F (tgt := 33) dX8_lot_28 (by decide) ?_ ?_
  · skip
    refine r_aload_n F 0 rfl dX8_lot_33 rfl ?_
    refine k_vH (run_V F cvX8_473 (by decide) (c_X8_remember (xG X) _ N h1) rfl rfl ⟨⟨rfl, rfl⟩, Nat.le_of_ble_eq_true rfl, Nat.le_of_ble_eq_true rfl⟩ (Nat.le_of_ble_eq_true rfl) dX8_lot_34) fun h4 => ?_
    refine r_aload_n F 0 rfl dX8_lot_37 rfl ?_
    refine r_getA F frX8_88 (by decide) dX8_lot_38 ?_
    refine r_iload_n F 1 rfl dX8_lot_41 rfl ?_
    refine r_iload_n F 2 rfl dX8_lot_42 rfl ?_
    refine r_iastore F (ar_8_24 0 (by decide)) dX8_lot_43 fun h5 => ?_
    refine r_iconst F (v := 1) dX8_lot_44 (by decide) ?_
    exact r_zret F hA true rfl rfl rfl trivial dX8_lot_45
  exact Wt_pick [] rfl (hj31)
theorem c_X8_lot (G : Gx) (l : Launch) (N : Nat) (h : Hp) (p1 : Int32) (p2 : Int32) : Ctr G l yX8_lot (.code yX8_lot cX8_lot 3 (some .boolean) :: GT) rmX8_lot [.ref (adr G 8 0 0), .int p1, .int p2] h (f_X8_lot N h p1 p2) (fun v => some (.int (b2i v.1))) (fun v => v.2) (fun _ => True) :=
  ctr_of (by decide) (Nat.le_of_ble_eq_true rfl) ⟨rfl, rfl⟩ fun X _ e2 hA hL F => by subst e2; exact w_X8_lot X F hA hL N h p1 p2
def f_X8_canLend (h : Hp) (p1 : Int32) (p2 : Int32) : Option Bool :=
  (f_X8_isCroft h p1).bind fun v1 =>
  jn (fun (v2 : Bool) =>
    some v2) fun (j45 : Bool → Option Bool) =>
  jn (
    j45 false) fun (j44 : Option Bool) =>
  if (b2i v1) = 0 then
    j44
  else
  (f_X8_isCroft h p2).bind fun v3 =>
  if (b2i v3) = 0 then
    j44
  else
  if p1 = p2 then
    j44
  else
  grd (inb p1 8) <|
  if (gA h 8 0 25 p1.toNatClampNeg) ≤ 0 then
    j44
  else
  grd (inb p2 8) <|
  if 5 ≤ (gA h 8 0 25 p2.toNatClampNeg) then
    j44
  else
  j45 true
abbrev rmX8_canLend : Room := { frames := 1, cells := 0, slots := 0, locals := 21 }
set_option maxRecDepth 100000 in
set_option maxHeartbeats 4000000 in
theorem w_X8_canLend (X : Cx) (F : Fx X cX8_canLend RX8 (some .boolean) rmX8_canLend) (hA : xA X = Aw (xG X)) (hL : xL X = 3) (h : Hp) (p1 : Int32) (p2 : Int32) : Wm X (fun v => some (.int (b2i v))) (fun _ => h) (fun _ => True) 0 [(0, .ref (adr (xG X) 8 0 0)), (1, .int p1), (2, .int p2)] [] h (f_X8_canLend h p1 p2) := by
  have hS : ∀ i : Nat, i < 3 → i < xL X := fun i z => by rw [hL]; exact z
  unfold f_X8_canLend
  refine r_aload_n F 0 rfl dX8_canLend_0 rfl ?_
  refine r_iload_n F 1 rfl dX8_canLend_1 rfl ?_
  refine k_zP (run_V F cvX8_462 (by decide) (c_X8_isCroft (xG X) _ h p1) rfl rfl ⟨⟨rfl, rfl⟩, Nat.le_of_ble_eq_true rfl, Nat.le_of_ble_eq_true rfl⟩ (Nat.le_of_ble_eq_true rfl) dX8_canLend_2) fun v1 _ => ?_
  refine Wt_jn (fun (j45 : Bool → Option Bool) => ∀ v2 : Bool, Wm X (fun v => some (.int (b2i v))) (fun _ => h) (fun _ => True) 45 [] [.int (b2i v2)] h (j45 v2)) ?_ fun j45 hj45 => ?_
  · intro v2
    exact r_zret F hA v2 rfl rfl rfl trivial dX8_canLend_45
  refine Wt_jn (fun (j44 : Option Bool) => Wm X (fun v => some (.int (b2i v))) (fun _ => h) (fun _ => True) 44 [] [] h (j44)) ?_ fun j44 hj44 => ?_
  · skip
    refine r_iconst F (v := 0) dX8_canLend_44 (by decide) ?_
    exact Wt_pick [] rfl (hj45 false)
  refine r_ifeq F (tgt := 44) dX8_canLend_5 (by decide) ?_ ?_
  · skip
    exact Wt_pick [] rfl (hj44)
  refine r_aload_n F 0 rfl dX8_canLend_8 rfl ?_
  refine r_iload_n F 2 rfl dX8_canLend_9 rfl ?_
  refine k_zP (run_V F cvX8_462 (by decide) (c_X8_isCroft (xG X) _ h p2) rfl rfl ⟨⟨rfl, rfl⟩, Nat.le_of_ble_eq_true rfl, Nat.le_of_ble_eq_true rfl⟩ (Nat.le_of_ble_eq_true rfl) dX8_canLend_10) fun v3 _ => ?_
  refine r_ifeq F (tgt := 44) dX8_canLend_13 (by decide) ?_ ?_
  · skip
    exact Wt_pick [] rfl (hj44)
  refine r_iload_n F 1 rfl dX8_canLend_16 rfl ?_
  refine r_iload_n F 2 rfl dX8_canLend_17 rfl ?_
  refine r_icmpeq F (tgt := 44) dX8_canLend_18 (by decide) ?_ ?_
  · skip
    exact Wt_pick [] rfl (hj44)
  refine r_aload_n F 0 rfl dX8_canLend_21 rfl ?_
  refine r_getA F frX8_91 (by decide) dX8_canLend_22 ?_
  refine r_iload_n F 1 rfl dX8_canLend_25 rfl ?_
  refine r_iaload F (ar_8_25 0 (by decide)) dX8_canLend_26 ?_
  refine r_ifle F (tgt := 44) dX8_canLend_27 (by decide) ?_ ?_
  · skip
    exact Wt_pick [] rfl (hj44)
  refine r_aload_n F 0 rfl dX8_canLend_30 rfl ?_
  refine r_getA F frX8_91 (by decide) dX8_canLend_31 ?_
  refine r_iload_n F 2 rfl dX8_canLend_34 rfl ?_
  refine r_iaload F (ar_8_25 0 (by decide)) dX8_canLend_35 ?_
  refine r_iconst F (v := 5) dX8_canLend_36 (by decide) ?_
  refine r_icmpge F (tgt := 44) dX8_canLend_37 (by decide) ?_ ?_
  · skip
    exact Wt_pick [] rfl (hj44)
  refine r_iconst F (v := 1) dX8_canLend_40 (by decide) ?_
  refine r_goto F (tgt := 45) dX8_canLend_41 (by decide) ?_
  exact Wt_pick [] rfl (hj45 true)
theorem c_X8_canLend (G : Gx) (l : Launch) (h : Hp) (p1 : Int32) (p2 : Int32) : Ctr G l yX8_canLend (.code yX8_canLend cX8_canLend 3 (some .boolean) :: GT) rmX8_canLend [.ref (adr G 8 0 0), .int p1, .int p2] h (f_X8_canLend h p1 p2) (fun v => some (.int (b2i v))) (fun _ => h) (fun _ => True) :=
  ctr_of (by decide) (Nat.le_of_ble_eq_true rfl) ⟨rfl, rfl⟩ fun X _ e2 hA hL F => by subst e2; exact w_X8_canLend X F hA hL h p1 p2
def f_X8_lend (N : Nat) (h : Hp) (p1 : Int32) (p2 : Int32) : Option (Bool × Hp) :=
  lt_ (sI h 8 0 2 0) fun h1 =>
  (f_X8_canLend h1 p1 p2).bind fun v2 =>
  if ¬ (b2i v2) = 0 then
    (f_X8_remember N h1).bind fun h3 =>
    grd (inb p1 8) <|
    grd (inb p1 8) <| lt_ (sA h3 8 0 25 p1.toNatClampNeg ((gA h3 8 0 25 p1.toNatClampNeg) - 1)) fun h4 =>
    grd (inb p2 8) <|
    grd (inb p2 8) <| lt_ (sA h4 8 0 25 p2.toNatClampNeg ((gA h4 8 0 25 p2.toNatClampNeg) + 1)) fun h5 =>
    some (true, h5)
  else
  some (false, h1)
abbrev rmX8_lend : Room := { frames := 2, cells := 0, slots := 0, locals := 44 }
set_option maxRecDepth 100000 in
set_option maxHeartbeats 4000000 in
theorem w_X8_lend (X : Cx) (F : Fx X cX8_lend RX8 (some .boolean) rmX8_lend) (hA : xA X = Aw (xG X)) (hL : xL X = 3) (N : Nat) (h : Hp) (p1 : Int32) (p2 : Int32) : Wm X (fun v => some (.int (b2i v.1))) (fun v => v.2) (fun _ => True) 0 [(0, .ref (adr (xG X) 8 0 0)), (1, .int p1), (2, .int p2)] [] h (f_X8_lend N h p1 p2) := by
  have hS : ∀ i : Nat, i < 3 → i < xL X := fun i z => by rw [hL]; exact z
  unfold f_X8_lend
  refine r_aload_n F 0 rfl dX8_lend_0 rfl ?_
  refine r_iconst F (v := 0) dX8_lend_1 (by decide) ?_
  refine r_putI F frX8_163 (by decide) rfl rfl dX8_lend_2 fun h1 => ?_
  refine r_aload_n F 0 rfl dX8_lend_5 rfl ?_
  refine r_iload_n F 1 rfl dX8_lend_6 rfl ?_
  refine r_iload_n F 2 rfl dX8_lend_7 rfl ?_
  refine k_zP (run_V F cvX8_476 (by decide) (c_X8_canLend (xG X) _ h1 p1 p2) rfl rfl ⟨⟨rfl, rfl⟩, Nat.le_of_ble_eq_true rfl, Nat.le_of_ble_eq_true rfl⟩ (Nat.le_of_ble_eq_true rfl) dX8_lend_8) fun v2 _ => ?_
  refine r_ifne F (tgt := 16) dX8_lend_11 (by decide) ?_ ?_
  · skip
    refine r_aload_n F 0 rfl dX8_lend_16 rfl ?_
    refine k_vH (run_V F cvX8_473 (by decide) (c_X8_remember (xG X) _ N h1) rfl rfl ⟨⟨rfl, rfl⟩, Nat.le_of_ble_eq_true rfl, Nat.le_of_ble_eq_true rfl⟩ (Nat.le_of_ble_eq_true rfl) dX8_lend_17) fun h3 => ?_
    refine r_aload_n F 0 rfl dX8_lend_20 rfl ?_
    refine r_getA F frX8_91 (by decide) dX8_lend_21 ?_
    refine r_iload_n F 1 rfl dX8_lend_24 rfl ?_
    refine r_dup2 F rfl rfl dX8_lend_25 ?_
    refine r_iaload F (ar_8_25 0 (by decide)) dX8_lend_26 ?_
    refine r_iconst F (v := 1) dX8_lend_27 (by decide) ?_
    refine r_isub F dX8_lend_28 ?_
    refine r_iastore F (ar_8_25 0 (by decide)) dX8_lend_29 fun h4 => ?_
    refine r_aload_n F 0 rfl dX8_lend_30 rfl ?_
    refine r_getA F frX8_91 (by decide) dX8_lend_31 ?_
    refine r_iload_n F 2 rfl dX8_lend_34 rfl ?_
    refine r_dup2 F rfl rfl dX8_lend_35 ?_
    refine r_iaload F (ar_8_25 0 (by decide)) dX8_lend_36 ?_
    refine r_iconst F (v := 1) dX8_lend_37 (by decide) ?_
    refine r_iadd F dX8_lend_38 ?_
    refine r_iastore F (ar_8_25 0 (by decide)) dX8_lend_39 fun h5 => ?_
    refine r_iconst F (v := 1) dX8_lend_40 (by decide) ?_
    exact r_zret F hA true rfl rfl rfl trivial dX8_lend_41
  refine r_iconst F (v := 0) dX8_lend_14 (by decide) ?_
  exact r_zret F hA false rfl rfl rfl trivial dX8_lend_15
theorem c_X8_lend (G : Gx) (l : Launch) (N : Nat) (h : Hp) (p1 : Int32) (p2 : Int32) : Ctr G l yX8_lend (.code yX8_lend cX8_lend 3 (some .boolean) :: GT) rmX8_lend [.ref (adr G 8 0 0), .int p1, .int p2] h (f_X8_lend N h p1 p2) (fun v => some (.int (b2i v.1))) (fun v => v.2) (fun _ => True) :=
  ctr_of (by decide) (Nat.le_of_ble_eq_true rfl) ⟨rfl, rfl⟩ fun X _ e2 hA hL F => by subst e2; exact w_X8_lend X F hA hL N h p1 p2
def f_X8_go_37 (N : Nat) (p1 : Int32) (r37 : Int32 → Hp → Option (Int32 × Hp)) (v4 : Int32) (h5 : Hp) : Option (Int32 × Hp) :=
  if p1 ≤ v4 then
    jn (fun (v6 : Int32) =>
      lt_ (sI h5 8 0 76 v6) fun h7 =>
      grd (inb 0 2) <|
      some ((gA h7 8 0 33 (0 : Int32).toNatClampNeg), h7)) fun (j75 : Int32 → Option (Int32 × Hp)) =>
    if p1 ≤ 0 then
      j75 (gI h5 8 0 76)
    else
    j75 0
  else
  (f_X8_gale N h5 0).bind fun h8 =>
  (f_X8_goOn N h8 0 (gI h8 8 0 61)).bind fun h9 =>
  lt_ (v4 + 1) fun v10 =>
  r37 v10 h9
def f_X8_go (N : Nat) (h : Hp) (p1 : Int32) : Option (Int32 × Hp) :=
  lt_ (sI h 8 0 2 0) fun h1 =>
  (f_X8_isIn p1 0 99).bind fun v2 =>
  jn (
    some ((-1), h1)) fun (j29 : Option (Int32 × Hp)) =>
  if (b2i v2) = 0 then
    j29
  else
  grd (inb 0 2) <|
  if ((gA h1 8 0 33 (0 : Int32).toNatClampNeg) + p1) ≤ 9999 then
    (f_X8_plainTried h1).bind fun h3 =>
    iter (fun _ _ => none) (f_X8_go_37 N p1) N 0 h3
  else
  j29
abbrev rmX8_go : Room := { frames := 9, cells := 0, slots := 0, locals := 219 }
set_option maxRecDepth 100000 in
set_option maxHeartbeats 4000000 in
theorem w_X8_go (X : Cx) (F : Fx X cX8_go RX8 (some .int) rmX8_go) (hA : xA X = Aw (xG X)) (hL : xL X = 3) (N : Nat) (h : Hp) (p1 : Int32) : Wm X (fun v => some (.int v.1)) (fun v => v.2) (fun _ => True) 0 [(0, .ref (adr (xG X) 8 0 0)), (1, .int p1)] [] h (f_X8_go N h p1) := by
  have hS : ∀ i : Nat, i < 3 → i < xL X := fun i z => by rw [hL]; exact z
  unfold f_X8_go
  refine r_aload_n F 0 rfl dX8_go_0 rfl ?_
  refine r_iconst F (v := 0) dX8_go_1 (by decide) ?_
  refine r_putI F frX8_163 (by decide) rfl rfl dX8_go_2 fun h1 => ?_
  refine r_iload_n F 1 rfl dX8_go_5 rfl ?_
  refine r_iconst F (v := 0) dX8_go_6 (by decide) ?_
  refine r_bipush F (v := 99) dX8_go_7 (by decide) ?_
  refine k_zP (run_S F csX8_208 (c_X8_isIn (xG X) _ h1 p1 0 99) rfl rfl ⟨⟨rfl, rfl⟩, Nat.le_of_ble_eq_true rfl, Nat.le_of_ble_eq_true rfl⟩ (Nat.le_of_ble_eq_true rfl) dX8_go_9) fun v2 _ => ?_
  refine Wt_jn (fun (j29 : Option (Int32 × Hp)) => Wm X (fun v => some (.int v.1)) (fun v => v.2) (fun _ => True) 29 [] [] h1 (j29)) ?_ fun j29 hj29 => ?_
  · skip
    refine r_iconst F (v := (-1)) dX8_go_29 (by decide) ?_
    exact r_iret F hA rfl rfl trivial dX8_go_30
  refine r_ifeq F (tgt := 29) dX8_go_12 (by decide) ?_ ?_
  · skip
    exact Wt_pick [] rfl (hj29)
  refine r_aload_n F 0 rfl dX8_go_15 rfl ?_
  refine r_getA F frX8_115 (by decide) dX8_go_16 ?_
  refine r_iconst F (v := 0) dX8_go_19 (by decide) ?_
  refine r_iaload F (ar_8_33 0 (by decide)) dX8_go_20 ?_
  refine r_iload_n F 1 rfl dX8_go_21 rfl ?_
  refine r_iadd F dX8_go_22 ?_
  refine r_sipush F (v := 9999) dX8_go_23 (by decide) ?_
  refine r_icmple F (tgt := 31) dX8_go_26 (by decide) ?_ ?_
  · skip
    refine r_aload_n F 0 rfl dX8_go_31 rfl ?_
    refine k_vH (run_V F cvX8_370 (by decide) (c_X8_plainTried (xG X) _ h1) rfl rfl ⟨⟨rfl, rfl⟩, Nat.le_of_ble_eq_true rfl, Nat.le_of_ble_eq_true rfl⟩ (Nat.le_of_ble_eq_true rfl) dX8_go_32) fun h3 => ?_
    refine r_iconst F (v := 0) dX8_go_35 (by decide) ?_
    refine r_istore_n F [(2, .int 0), (0, .ref (adr (xG X) 8 0 0)), (1, .int p1)] rfl dX8_go_36 rfl (hS _ (by decide)) ?_
    have hl37 : ∀ n : Nat, ∀ v4 : Int32, ∀ h5 : Hp, Wm X (fun v => some (.int v.1)) (fun v => v.2) (fun _ => True) 37 [(0, .ref (adr (xG X) 8 0 0)), (1, .int p1), (2, .int v4)] [] h5 (iter (fun _ _ => none) (f_X8_go_37 N p1) n v4 h5) := by
      intro n
      induction n with
      | zero => intro v4 h5; exact Wt_none
      | succ n ih =>
        revert ih
        show (∀ v4 : Int32, ∀ h5 : Hp, Wm X (fun v => some (.int v.1)) (fun v => v.2) (fun _ => True) 37 [(0, .ref (adr (xG X) 8 0 0)), (1, .int p1), (2, .int v4)] [] h5 (iter (fun _ _ => none) (f_X8_go_37 N p1) n v4 h5)) → _
        intro ih37 v4 h5
        show Wm X (fun v => some (.int v.1)) (fun v => v.2) (fun _ => True) 37 [(0, .ref (adr (xG X) 8 0 0)), (1, .int p1), (2, .int v4)] [] h5 (f_X8_go_37 N p1 (iter (fun _ _ => none) (f_X8_go_37 N p1) n) v4 h5)
        revert ih37
        generalize iter (fun _ _ => none) (f_X8_go_37 N p1) n = r37
        intro ih37
        unfold f_X8_go_37
        refine r_iload_n F 2 rfl dX8_go_37 rfl ?_
        refine r_iload_n F 1 rfl dX8_go_38 rfl ?_
        refine r_icmpge F (tgt := 62) dX8_go_39 (by decide) ?_ ?_
        · skip
          refine r_aload_n F 0 rfl dX8_go_62 rfl ?_
          refine r_iload_n F 1 rfl dX8_go_63 rfl ?_
          refine Wt_jn (fun (j75 : Int32 → Option (Int32 × Hp)) => ∀ v6 : Int32, Wm X (fun v => some (.int v.1)) (fun v => v.2) (fun _ => True) 75 [(0, .ref (adr (xG X) 8 0 0))] [.int v6, .ref (adr (xG X) 8 0 0)] h5 (j75 v6)) ?_ fun j75 hj75 => ?_
          · intro v6
            refine r_putI F frX8_376 (by decide) rfl rfl dX8_go_75 fun h7 => ?_
            refine r_aload_n F 0 rfl dX8_go_78 rfl ?_
            refine r_getA F frX8_115 (by decide) dX8_go_79 ?_
            refine r_iconst F (v := 0) dX8_go_82 (by decide) ?_
            refine r_iaload F (ar_8_33 0 (by decide)) dX8_go_83 ?_
            exact r_iret F hA rfl rfl trivial dX8_go_84
          refine r_ifle F (tgt := 71) dX8_go_64 (by decide) ?_ ?_
          · skip
            refine r_aload_n F 0 rfl dX8_go_71 rfl ?_
            refine r_getI F frX8_376 (by decide) dX8_go_72 ?_
            exact Wt_pick [0] rfl (hj75 (gI h5 8 0 76))
          refine r_iconst F (v := 0) dX8_go_67 (by decide) ?_
          refine r_goto F (tgt := 75) dX8_go_68 (by decide) ?_
          exact Wt_pick [0] rfl (hj75 0)
        refine r_aload_n F 0 rfl dX8_go_42 rfl ?_
        refine r_iconst F (v := 0) dX8_go_43 (by decide) ?_
        refine k_vH (run_V F cvX8_479 (by decide) (c_X8_gale (xG X) _ N h5 0) rfl rfl ⟨⟨rfl, rfl⟩, Nat.le_of_ble_eq_true rfl, Nat.le_of_ble_eq_true rfl⟩ (Nat.le_of_ble_eq_true rfl) dX8_go_44) fun h8 => ?_
        refine r_aload_n F 0 rfl dX8_go_47 rfl ?_
        refine r_iconst F (v := 0) dX8_go_48 (by decide) ?_
        refine r_aload_n F 0 rfl dX8_go_49 rfl ?_
        refine r_getI F frX8_363 (by decide) dX8_go_50 ?_
        refine k_vH (run_V F cvX8_482 (by decide) (c_X8_goOn (xG X) _ N h8 0 (gI h8 8 0 61)) rfl rfl ⟨⟨rfl, rfl⟩, Nat.le_of_ble_eq_true rfl, Nat.le_of_ble_eq_true rfl⟩ (Nat.le_of_ble_eq_true rfl) dX8_go_53) fun h9 => ?_
        refine r_iinc F (v := 1) 2 rfl (by decide) (fun v10 => [(2, .int v10), (0, .ref (adr (xG X) 8 0 0)), (1, .int p1)]) (fun _ => rfl) dX8_go_56 (hS _ (by decide)) fun v10 => ?_
        refine r_goto F (tgt := 37) dX8_go_59 (by decide) ?_
        exact Wt_pick [1, 2, 0] rfl (ih37 v10 h9)
    exact Wt_pick [1, 2, 0] rfl (hl37 N 0 h3)
  exact Wt_pick [] rfl (hj29)
theorem c_X8_go (G : Gx) (l : Launch) (N : Nat) (h : Hp) (p1 : Int32) : Ctr G l yX8_go (.code yX8_go cX8_go 3 (some .int) :: GT) rmX8_go [.ref (adr G 8 0 0), .int p1] h (f_X8_go N h p1) (fun v => some (.int v.1)) (fun v => v.2) (fun _ => True) :=
  ctr_of (by decide) (Nat.le_of_ble_eq_true rfl) ⟨rfl, rfl⟩ fun X _ e2 hA hL F => by subst e2; exact w_X8_go X F hA hL N h p1
def f_X8_gotAll_4 (h : Hp) (p1 : Int32) (r4 : Int32 → Int32 → Option Int32) (v1 : Int32) (v2 : Int32) : Option Int32 :=
  if (gI h 8 0 14) ≤ v2 then
    some v1
  else
  grd (inb ((6 * p1) + v2) 12) <|
  lt_ ((v1 + (gA h 8 0 30 ((6 * p1) + v2).toNatClampNeg))) fun v3 =>
  lt_ (v2 + 1) fun v4 =>
  r4 v3 v4
def f_X8_gotAll (N : Nat) (h : Hp) (p1 : Int32) : Option Int32 :=
  iter (fun _ _ => none) (f_X8_gotAll_4 h p1) N 0 0
abbrev rmX8_gotAll : Room := { frames := 0, cells := 0, slots := 0, locals := 0 }
set_option maxRecDepth 100000 in
set_option maxHeartbeats 4000000 in
theorem w_X8_gotAll (X : Cx) (F : Fx X cX8_gotAll RX8 (some .int) rmX8_gotAll) (hA : xA X = Aw (xG X)) (hL : xL X = 4) (N : Nat) (h : Hp) (p1 : Int32) : Wm X (fun v => some (.int v)) (fun _ => h) (fun _ => True) 0 [(0, .ref (adr (xG X) 8 0 0)), (1, .int p1)] [] h (f_X8_gotAll N h p1) := by
  have hS : ∀ i : Nat, i < 4 → i < xL X := fun i z => by rw [hL]; exact z
  unfold f_X8_gotAll
  refine r_iconst F (v := 0) dX8_gotAll_0 (by decide) ?_
  refine r_istore_n F [(2, .int 0), (0, .ref (adr (xG X) 8 0 0)), (1, .int p1)] rfl dX8_gotAll_1 rfl (hS _ (by decide)) ?_
  refine r_iconst F (v := 0) dX8_gotAll_2 (by decide) ?_
  refine r_istore_n F [(3, .int 0), (2, .int 0), (0, .ref (adr (xG X) 8 0 0)), (1, .int p1)] rfl dX8_gotAll_3 rfl (hS _ (by decide)) ?_
  have hl4 : ∀ n : Nat, ∀ v1 : Int32, ∀ v2 : Int32, Wm X (fun v => some (.int v)) (fun _ => h) (fun _ => True) 4 [(0, .ref (adr (xG X) 8 0 0)), (1, .int p1), (2, .int v1), (3, .int v2)] [] h (iter (fun _ _ => none) (f_X8_gotAll_4 h p1) n v1 v2) := by
    intro n
    induction n with
    | zero => intro v1 v2; exact Wt_none
    | succ n ih =>
      revert ih
      show (∀ v1 : Int32, ∀ v2 : Int32, Wm X (fun v => some (.int v)) (fun _ => h) (fun _ => True) 4 [(0, .ref (adr (xG X) 8 0 0)), (1, .int p1), (2, .int v1), (3, .int v2)] [] h (iter (fun _ _ => none) (f_X8_gotAll_4 h p1) n v1 v2)) → _
      intro ih4 v1 v2
      show Wm X (fun v => some (.int v)) (fun _ => h) (fun _ => True) 4 [(0, .ref (adr (xG X) 8 0 0)), (1, .int p1), (2, .int v1), (3, .int v2)] [] h (f_X8_gotAll_4 h p1 (iter (fun _ _ => none) (f_X8_gotAll_4 h p1) n) v1 v2)
      revert ih4
      generalize iter (fun _ _ => none) (f_X8_gotAll_4 h p1) n = r4
      intro ih4
      unfold f_X8_gotAll_4
      refine r_iload_n F 3 rfl dX8_gotAll_4 rfl ?_
      refine r_aload_n F 0 rfl dX8_gotAll_5 rfl ?_
      refine r_getI F frX8_249 (by decide) dX8_gotAll_6 ?_
      refine r_icmpge F (tgt := 32) dX8_gotAll_9 (by decide) ?_ ?_
      · skip
        refine r_iload_n F 2 rfl dX8_gotAll_32 rfl ?_
        exact r_iret F hA rfl rfl trivial dX8_gotAll_33
      refine r_iload_n F 2 rfl dX8_gotAll_12 rfl ?_
      refine r_aload_n F 0 rfl dX8_gotAll_13 rfl ?_
      refine r_getA F frX8_106 (by decide) dX8_gotAll_14 ?_
      refine r_bipush F (v := 6) dX8_gotAll_17 (by decide) ?_
      refine r_iload_n F 1 rfl dX8_gotAll_19 rfl ?_
      refine r_imul F dX8_gotAll_20 ?_
      refine r_iload_n F 3 rfl dX8_gotAll_21 rfl ?_
      refine r_iadd F dX8_gotAll_22 ?_
      refine r_iaload F (ar_8_30 0 (by decide)) dX8_gotAll_23 ?_
      refine r_iadd F dX8_gotAll_24 ?_
      refine r_nmI fun v3 => ?_
      refine r_istore_n F [(2, .int v3), (0, .ref (adr (xG X) 8 0 0)), (1, .int p1), (3, .int v2)] rfl dX8_gotAll_25 rfl (hS _ (by decide)) ?_
      refine r_iinc F (v := 1) 3 rfl (by decide) (fun v4 => [(3, .int v4), (2, .int v3), (0, .ref (adr (xG X) 8 0 0)), (1, .int p1)]) (fun _ => rfl) dX8_gotAll_26 (hS _ (by decide)) fun v4 => ?_
      refine r_goto F (tgt := 4) dX8_gotAll_29 (by decide) ?_
      exact Wt_pick [2, 3, 1, 0] rfl (ih4 v3 v4)
  exact Wt_pick [2, 3, 1, 0] rfl (hl4 N 0 0)
theorem c_X8_gotAll (G : Gx) (l : Launch) (N : Nat) (h : Hp) (p1 : Int32) : Ctr G l yX8_gotAll (.code yX8_gotAll cX8_gotAll 4 (some .int) :: GT) rmX8_gotAll [.ref (adr G 8 0 0), .int p1] h (f_X8_gotAll N h p1) (fun v => some (.int v)) (fun _ => h) (fun _ => True) :=
  ctr_of (by decide) (Nat.le_of_ble_eq_true rfl) ⟨rfl, rfl⟩ fun X _ e2 hA hL F => by subst e2; exact w_X8_gotAll X F hA hL N h p1
def f_X8_gains_4 (h : Hp) (p1 : Int32) (r4 : Int32 → Int32 → Option Int32) (v1 : Int32) (v2 : Int32) : Option Int32 :=
  if (gI h 8 0 13) ≤ v2 then
    some v1
  else
  grd (inb ((4 * p1) + v2) 8) <|
  lt_ ((v1 + (gA h 8 0 28 ((4 * p1) + v2).toNatClampNeg))) fun v3 =>
  lt_ (v2 + 1) fun v4 =>
  r4 v3 v4
def f_X8_gains (N : Nat) (h : Hp) (p1 : Int32) : Option Int32 :=
  iter (fun _ _ => none) (f_X8_gains_4 h p1) N 0 0
abbrev rmX8_gains : Room := { frames := 0, cells := 0, slots := 0, locals := 0 }
set_option maxRecDepth 100000 in
set_option maxHeartbeats 4000000 in
theorem w_X8_gains (X : Cx) (F : Fx X cX8_gains RX8 (some .int) rmX8_gains) (hA : xA X = Aw (xG X)) (hL : xL X = 4) (N : Nat) (h : Hp) (p1 : Int32) : Wm X (fun v => some (.int v)) (fun _ => h) (fun _ => True) 0 [(0, .ref (adr (xG X) 8 0 0)), (1, .int p1)] [] h (f_X8_gains N h p1) := by
  have hS : ∀ i : Nat, i < 4 → i < xL X := fun i z => by rw [hL]; exact z
  unfold f_X8_gains
  refine r_iconst F (v := 0) dX8_gains_0 (by decide) ?_
  refine r_istore_n F [(2, .int 0), (0, .ref (adr (xG X) 8 0 0)), (1, .int p1)] rfl dX8_gains_1 rfl (hS _ (by decide)) ?_
  refine r_iconst F (v := 0) dX8_gains_2 (by decide) ?_
  refine r_istore_n F [(3, .int 0), (2, .int 0), (0, .ref (adr (xG X) 8 0 0)), (1, .int p1)] rfl dX8_gains_3 rfl (hS _ (by decide)) ?_
  have hl4 : ∀ n : Nat, ∀ v1 : Int32, ∀ v2 : Int32, Wm X (fun v => some (.int v)) (fun _ => h) (fun _ => True) 4 [(0, .ref (adr (xG X) 8 0 0)), (1, .int p1), (2, .int v1), (3, .int v2)] [] h (iter (fun _ _ => none) (f_X8_gains_4 h p1) n v1 v2) := by
    intro n
    induction n with
    | zero => intro v1 v2; exact Wt_none
    | succ n ih =>
      revert ih
      show (∀ v1 : Int32, ∀ v2 : Int32, Wm X (fun v => some (.int v)) (fun _ => h) (fun _ => True) 4 [(0, .ref (adr (xG X) 8 0 0)), (1, .int p1), (2, .int v1), (3, .int v2)] [] h (iter (fun _ _ => none) (f_X8_gains_4 h p1) n v1 v2)) → _
      intro ih4 v1 v2
      show Wm X (fun v => some (.int v)) (fun _ => h) (fun _ => True) 4 [(0, .ref (adr (xG X) 8 0 0)), (1, .int p1), (2, .int v1), (3, .int v2)] [] h (f_X8_gains_4 h p1 (iter (fun _ _ => none) (f_X8_gains_4 h p1) n) v1 v2)
      revert ih4
      generalize iter (fun _ _ => none) (f_X8_gains_4 h p1) n = r4
      intro ih4
      unfold f_X8_gains_4
      refine r_iload_n F 3 rfl dX8_gains_4 rfl ?_
      refine r_aload_n F 0 rfl dX8_gains_5 rfl ?_
      refine r_getI F frX8_246 (by decide) dX8_gains_6 ?_
      refine r_icmpge F (tgt := 31) dX8_gains_9 (by decide) ?_ ?_
      · skip
        refine r_iload_n F 2 rfl dX8_gains_31 rfl ?_
        exact r_iret F hA rfl rfl trivial dX8_gains_32
      refine r_iload_n F 2 rfl dX8_gains_12 rfl ?_
      refine r_aload_n F 0 rfl dX8_gains_13 rfl ?_
      refine r_getA F frX8_100 (by decide) dX8_gains_14 ?_
      refine r_iconst F (v := 4) dX8_gains_17 (by decide) ?_
      refine r_iload_n F 1 rfl dX8_gains_18 rfl ?_
      refine r_imul F dX8_gains_19 ?_
      refine r_iload_n F 3 rfl dX8_gains_20 rfl ?_
      refine r_iadd F dX8_gains_21 ?_
      refine r_iaload F (ar_8_28 0 (by decide)) dX8_gains_22 ?_
      refine r_iadd F dX8_gains_23 ?_
      refine r_nmI fun v3 => ?_
      refine r_istore_n F [(2, .int v3), (0, .ref (adr (xG X) 8 0 0)), (1, .int p1), (3, .int v2)] rfl dX8_gains_24 rfl (hS _ (by decide)) ?_
      refine r_iinc F (v := 1) 3 rfl (by decide) (fun v4 => [(3, .int v4), (2, .int v3), (0, .ref (adr (xG X) 8 0 0)), (1, .int p1)]) (fun _ => rfl) dX8_gains_25 (hS _ (by decide)) fun v4 => ?_
      refine r_goto F (tgt := 4) dX8_gains_28 (by decide) ?_
      exact Wt_pick [2, 3, 1, 0] rfl (ih4 v3 v4)
  exact Wt_pick [2, 3, 1, 0] rfl (hl4 N 0 0)
theorem c_X8_gains (G : Gx) (l : Launch) (N : Nat) (h : Hp) (p1 : Int32) : Ctr G l yX8_gains (.code yX8_gains cX8_gains 4 (some .int) :: GT) rmX8_gains [.ref (adr G 8 0 0), .int p1] h (f_X8_gains N h p1) (fun v => some (.int v)) (fun _ => h) (fun _ => True) :=
  ctr_of (by decide) (Nat.le_of_ble_eq_true rfl) ⟨rfl, rfl⟩ fun X _ e2 hA hL F => by subst e2; exact w_X8_gains X F hA hL N h p1
def f_X8_goTried_2 (N : Nat) (p1 : Int32) (p2 : Int32) (r2 : Int32 → Hp → Option Hp) (v1 : Int32) (h2 : Hp) : Option Hp :=
  if p1 ≤ v1 then
    some h2
  else
  (f_X8_goOn N h2 1 p2).bind fun h3 =>
  lt_ (v1 + 1) fun v4 =>
  r2 v4 h3
def f_X8_goTried (N : Nat) (h : Hp) (p1 : Int32) (p2 : Int32) : Option Hp :=
  iter (fun _ _ => none) (f_X8_goTried_2 N p1 p2) N 0 h
abbrev rmX8_goTried : Room := { frames := 9, cells := 0, slots := 0, locals := 219 }
set_option maxRecDepth 100000 in
set_option maxHeartbeats 4000000 in
theorem w_X8_goTried (X : Cx) (F : Fx X cX8_goTried RX8 none rmX8_goTried) (hA : xA X = Aw (xG X)) (hL : xL X = 4) (N : Nat) (h : Hp) (p1 : Int32) (p2 : Int32) : Wm X (fun _ => none) (fun v => v) (fun _ => True) 0 [(0, .ref (adr (xG X) 8 0 0)), (1, .int p1), (2, .int p2)] [] h (f_X8_goTried N h p1 p2) := by
  have hS : ∀ i : Nat, i < 4 → i < xL X := fun i z => by rw [hL]; exact z
  unfold f_X8_goTried
  refine r_iconst F (v := 0) dX8_goTried_0 (by decide) ?_
  refine r_istore_n F [(3, .int 0), (0, .ref (adr (xG X) 8 0 0)), (1, .int p1), (2, .int p2)] rfl dX8_goTried_1 rfl (hS _ (by decide)) ?_
  have hl2 : ∀ n : Nat, ∀ v1 : Int32, ∀ h2 : Hp, Wm X (fun _ => none) (fun v => v) (fun _ => True) 2 [(0, .ref (adr (xG X) 8 0 0)), (1, .int p1), (2, .int p2), (3, .int v1)] [] h2 (iter (fun _ _ => none) (f_X8_goTried_2 N p1 p2) n v1 h2) := by
    intro n
    induction n with
    | zero => intro v1 h2; exact Wt_none
    | succ n ih =>
      revert ih
      show (∀ v1 : Int32, ∀ h2 : Hp, Wm X (fun _ => none) (fun v => v) (fun _ => True) 2 [(0, .ref (adr (xG X) 8 0 0)), (1, .int p1), (2, .int p2), (3, .int v1)] [] h2 (iter (fun _ _ => none) (f_X8_goTried_2 N p1 p2) n v1 h2)) → _
      intro ih2 v1 h2
      show Wm X (fun _ => none) (fun v => v) (fun _ => True) 2 [(0, .ref (adr (xG X) 8 0 0)), (1, .int p1), (2, .int p2), (3, .int v1)] [] h2 (f_X8_goTried_2 N p1 p2 (iter (fun _ _ => none) (f_X8_goTried_2 N p1 p2) n) v1 h2)
      revert ih2
      generalize iter (fun _ _ => none) (f_X8_goTried_2 N p1 p2) n = r2
      intro ih2
      unfold f_X8_goTried_2
      refine r_iload_n F 3 rfl dX8_goTried_2 rfl ?_
      refine r_iload_n F 1 rfl dX8_goTried_3 rfl ?_
      refine r_icmpge F (tgt := 19) dX8_goTried_4 (by decide) ?_ ?_
      · skip
        exact r_vret F hA rfl rfl trivial dX8_goTried_19
      refine r_aload_n F 0 rfl dX8_goTried_7 rfl ?_
      refine r_iconst F (v := 1) dX8_goTried_8 (by decide) ?_
      refine r_iload_n F 2 rfl dX8_goTried_9 rfl ?_
      refine k_vH (run_V F cvX8_482 (by decide) (c_X8_goOn (xG X) _ N h2 1 p2) rfl rfl ⟨⟨rfl, rfl⟩, Nat.le_of_ble_eq_true rfl, Nat.le_of_ble_eq_true rfl⟩ (Nat.le_of_ble_eq_true rfl) dX8_goTried_10) fun h3 => ?_
      refine r_iinc F (v := 1) 3 rfl (by decide) (fun v4 => [(3, .int v4), (0, .ref (adr (xG X) 8 0 0)), (1, .int p1), (2, .int p2)]) (fun _ => rfl) dX8_goTried_13 (hS _ (by decide)) fun v4 => ?_
      refine r_goto F (tgt := 2) dX8_goTried_16 (by decide) ?_
      exact Wt_pick [1, 2, 3, 0] rfl (ih2 v4 h3)
  exact Wt_pick [1, 2, 3, 0] rfl (hl2 N 0 h)
theorem c_X8_goTried (G : Gx) (l : Launch) (N : Nat) (h : Hp) (p1 : Int32) (p2 : Int32) : Ctr G l yX8_goTried (.code yX8_goTried cX8_goTried 4 none :: GT) rmX8_goTried [.ref (adr G 8 0 0), .int p1, .int p2] h (f_X8_goTried N h p1 p2) (fun _ => none) (fun v => v) (fun _ => True) :=
  ctr_of (by decide) (Nat.le_of_ble_eq_true rfl) ⟨rfl, rfl⟩ fun X _ e2 hA hL F => by subst e2; exact w_X8_goTried X F hA hL N h p1 p2
def f_X8_layRule_6 (N : Nat) (p1 : Int32) (p2 : Int32) (r6 : Int32 → Hp → Option Hp) (v2 : Int32) (h3 : Hp) : Option Hp :=
  if 4 ≤ v2 then
    (f_X8_goTried N h3 p2 p1).bind fun h4 =>
    some h4
  else
  grd (inb (4 + v2) 8) <| lt_ (sA h3 8 0 27 (4 + v2).toNatClampNeg 0) fun h5 =>
  lt_ (v2 + 1) fun v6 =>
  r6 v6 h5
def f_X8_layRule (N : Nat) (h : Hp) (p1 : Int32) (p2 : Int32) : Option Hp :=
  (f_X8_layTried N h).bind fun h1 =>
  iter (fun _ _ => none) (f_X8_layRule_6 N p1 p2) N 0 h1
abbrev rmX8_layRule : Room := { frames := 10, cells := 0, slots := 0, locals := 242 }
set_option maxRecDepth 100000 in
set_option maxHeartbeats 4000000 in
theorem w_X8_layRule (X : Cx) (F : Fx X cX8_layRule RX8 none rmX8_layRule) (hA : xA X = Aw (xG X)) (hL : xL X = 4) (N : Nat) (h : Hp) (p1 : Int32) (p2 : Int32) : Wm X (fun _ => none) (fun v => v) (fun _ => True) 0 [(0, .ref (adr (xG X) 8 0 0)), (1, .int p1), (2, .int p2)] [] h (f_X8_layRule N h p1 p2) := by
  have hS : ∀ i : Nat, i < 4 → i < xL X := fun i z => by rw [hL]; exact z
  unfold f_X8_layRule
  refine r_aload_n F 0 rfl dX8_layRule_0 rfl ?_
  refine k_vH (run_V F cvX8_485 (by decide) (c_X8_layTried (xG X) _ N h) rfl rfl ⟨⟨rfl, rfl⟩, Nat.le_of_ble_eq_true rfl, Nat.le_of_ble_eq_true rfl⟩ (Nat.le_of_ble_eq_true rfl) dX8_layRule_1) fun h1 => ?_
  refine r_iconst F (v := 0) dX8_layRule_4 (by decide) ?_
  refine r_istore_n F [(3, .int 0), (0, .ref (adr (xG X) 8 0 0)), (1, .int p1), (2, .int p2)] rfl dX8_layRule_5 rfl (hS _ (by decide)) ?_
  have hl6 : ∀ n : Nat, ∀ v2 : Int32, ∀ h3 : Hp, Wm X (fun _ => none) (fun v => v) (fun _ => True) 6 [(0, .ref (adr (xG X) 8 0 0)), (1, .int p1), (2, .int p2), (3, .int v2)] [] h3 (iter (fun _ _ => none) (f_X8_layRule_6 N p1 p2) n v2 h3) := by
    intro n
    induction n with
    | zero => intro v2 h3; exact Wt_none
    | succ n ih =>
      revert ih
      show (∀ v2 : Int32, ∀ h3 : Hp, Wm X (fun _ => none) (fun v => v) (fun _ => True) 6 [(0, .ref (adr (xG X) 8 0 0)), (1, .int p1), (2, .int p2), (3, .int v2)] [] h3 (iter (fun _ _ => none) (f_X8_layRule_6 N p1 p2) n v2 h3)) → _
      intro ih6 v2 h3
      show Wm X (fun _ => none) (fun v => v) (fun _ => True) 6 [(0, .ref (adr (xG X) 8 0 0)), (1, .int p1), (2, .int p2), (3, .int v2)] [] h3 (f_X8_layRule_6 N p1 p2 (iter (fun _ _ => none) (f_X8_layRule_6 N p1 p2) n) v2 h3)
      revert ih6
      generalize iter (fun _ _ => none) (f_X8_layRule_6 N p1 p2) n = r6
      intro ih6
      unfold f_X8_layRule_6
      refine r_iload_n F 3 rfl dX8_layRule_6 rfl ?_
      refine r_iconst F (v := 4) dX8_layRule_7 (by decide) ?_
      refine r_icmpge F (tgt := 26) dX8_layRule_8 (by decide) ?_ ?_
      · skip
        refine r_aload_n F 0 rfl dX8_layRule_26 rfl ?_
        refine r_iload_n F 2 rfl dX8_layRule_27 rfl ?_
        refine r_iload_n F 1 rfl dX8_layRule_28 rfl ?_
        refine k_vH (run_V F cvX8_488 (by decide) (c_X8_goTried (xG X) _ N h3 p2 p1) rfl rfl ⟨⟨rfl, rfl⟩, Nat.le_of_ble_eq_true rfl, Nat.le_of_ble_eq_true rfl⟩ (Nat.le_of_ble_eq_true rfl) dX8_layRule_29) fun h4 => ?_
        exact r_vret F hA rfl rfl trivial dX8_layRule_32
      refine r_aload_n F 0 rfl dX8_layRule_11 rfl ?_
      refine r_getA F frX8_97 (by decide) dX8_layRule_12 ?_
      refine r_iconst F (v := 4) dX8_layRule_15 (by decide) ?_
      refine r_iload_n F 3 rfl dX8_layRule_16 rfl ?_
      refine r_iadd F dX8_layRule_17 ?_
      refine r_iconst F (v := 0) dX8_layRule_18 (by decide) ?_
      refine r_iastore F (ar_8_27 0 (by decide)) dX8_layRule_19 fun h5 => ?_
      refine r_iinc F (v := 1) 3 rfl (by decide) (fun v6 => [(3, .int v6), (0, .ref (adr (xG X) 8 0 0)), (1, .int p1), (2, .int p2)]) (fun _ => rfl) dX8_layRule_20 (hS _ (by decide)) fun v6 => ?_
      refine r_goto F (tgt := 6) dX8_layRule_23 (by decide) ?_
      exact Wt_pick [1, 2, 3, 0] rfl (ih6 v6 h5)
  exact Wt_pick [1, 2, 3, 0] rfl (hl6 N 0 h1)
theorem c_X8_layRule (G : Gx) (l : Launch) (N : Nat) (h : Hp) (p1 : Int32) (p2 : Int32) : Ctr G l yX8_layRule (.code yX8_layRule cX8_layRule 4 none :: GT) rmX8_layRule [.ref (adr G 8 0 0), .int p1, .int p2] h (f_X8_layRule N h p1 p2) (fun _ => none) (fun v => v) (fun _ => True) :=
  ctr_of (by decide) (Nat.le_of_ble_eq_true rfl) ⟨rfl, rfl⟩ fun X _ e2 hA hL F => by subst e2; exact w_X8_layRule X F hA hL N h p1 p2
def f_X8_table (N : Nat) (h : Hp) (p1 : Int32) (p2 : Int32) (p3 : Int32) : Option (Int32 × Hp) :=
  lt_ (sI h 8 0 2 0) fun h1 =>
  (f_X8_isIn p1 0 2).bind fun v2 =>
  jn (
    some ((-1), h1)) fun (j33 : Option (Int32 × Hp)) =>
  if (b2i v2) = 0 then
    j33
  else
  (f_X8_isIn p2 0 99).bind fun v3 =>
  if (b2i v3) = 0 then
    j33
  else
  (f_X8_isIn p3 0 3).bind fun v4 =>
  if ¬ (b2i v4) = 0 then
    (f_X8_layRule N h1 p1 p2).bind fun h5 =>
    jn (fun (v6 : Int32) =>
      some (v6, h5)) fun (j105 : Int32 → Option (Int32 × Hp)) =>
    if ¬ p3 = 0 then
      if ¬ p3 = 1 then
        if ¬ p3 = 2 then
          (f_X8_gains N h5 1).bind fun v7 =>
          (f_X8_gains N h5 0).bind fun v8 =>
          j105 (v7 - v8)
        else
        grd (inb 1 2) <|
        j105 (gA h5 8 0 31 (1 : Int32).toNatClampNeg)
      else
      grd (inb 1 2) <|
      grd (inb 0 2) <|
      j105 ((gA h5 8 0 32 (1 : Int32).toNatClampNeg) - (gA h5 8 0 32 (0 : Int32).toNatClampNeg))
    else
    (f_X8_gotAll N h5 1).bind fun v9 =>
    (f_X8_gotAll N h5 0).bind fun v10 =>
    j105 (v9 - v10)
  else
  j33
abbrev rmX8_table : Room := { frames := 11, cells := 0, slots := 0, locals := 265 }
set_option maxRecDepth 100000 in
set_option maxHeartbeats 4000000 in
theorem w_X8_table (X : Cx) (F : Fx X cX8_table RX8 (some .int) rmX8_table) (hA : xA X = Aw (xG X)) (hL : xL X = 4) (N : Nat) (h : Hp) (p1 : Int32) (p2 : Int32) (p3 : Int32) : Wm X (fun v => some (.int v.1)) (fun v => v.2) (fun _ => True) 0 [(0, .ref (adr (xG X) 8 0 0)), (1, .int p1), (2, .int p2), (3, .int p3)] [] h (f_X8_table N h p1 p2 p3) := by
  have hS : ∀ i : Nat, i < 4 → i < xL X := fun i z => by rw [hL]; exact z
  unfold f_X8_table
  refine r_aload_n F 0 rfl dX8_table_0 rfl ?_
  refine r_iconst F (v := 0) dX8_table_1 (by decide) ?_
  refine r_putI F frX8_163 (by decide) rfl rfl dX8_table_2 fun h1 => ?_
  refine r_iload_n F 1 rfl dX8_table_5 rfl ?_
  refine r_iconst F (v := 0) dX8_table_6 (by decide) ?_
  refine r_iconst F (v := 2) dX8_table_7 (by decide) ?_
  refine k_zP (run_S F csX8_208 (c_X8_isIn (xG X) _ h1 p1 0 2) rfl rfl ⟨⟨rfl, rfl⟩, Nat.le_of_ble_eq_true rfl, Nat.le_of_ble_eq_true rfl⟩ (Nat.le_of_ble_eq_true rfl) dX8_table_8) fun v2 _ => ?_
  refine Wt_jn (fun (j33 : Option (Int32 × Hp)) => Wm X (fun v => some (.int v.1)) (fun v => v.2) (fun _ => True) 33 [] [] h1 (j33)) ?_ fun j33 hj33 => ?_
  · skip
    refine r_iconst F (v := (-1)) dX8_table_33 (by decide) ?_
    exact r_iret F hA rfl rfl trivial dX8_table_34
  refine r_ifeq F (tgt := 33) dX8_table_11 (by decide) ?_ ?_
  · skip
    exact Wt_pick [] rfl (hj33)
  refine r_iload_n F 2 rfl dX8_table_14 rfl ?_
  refine r_iconst F (v := 0) dX8_table_15 (by decide) ?_
  refine r_bipush F (v := 99) dX8_table_16 (by decide) ?_
  refine k_zP (run_S F csX8_208 (c_X8_isIn (xG X) _ h1 p2 0 99) rfl rfl ⟨⟨rfl, rfl⟩, Nat.le_of_ble_eq_true rfl, Nat.le_of_ble_eq_true rfl⟩ (Nat.le_of_ble_eq_true rfl) dX8_table_18) fun v3 _ => ?_
  refine r_ifeq F (tgt := 33) dX8_table_21 (by decide) ?_ ?_
  · skip
    exact Wt_pick [] rfl (hj33)
  refine r_iload_n F 3 rfl dX8_table_24 rfl ?_
  refine r_iconst F (v := 0) dX8_table_25 (by decide) ?_
  refine r_iconst F (v := 3) dX8_table_26 (by decide) ?_
  refine k_zP (run_S F csX8_208 (c_X8_isIn (xG X) _ h1 p3 0 3) rfl rfl ⟨⟨rfl, rfl⟩, Nat.le_of_ble_eq_true rfl, Nat.le_of_ble_eq_true rfl⟩ (Nat.le_of_ble_eq_true rfl) dX8_table_27) fun v4 _ => ?_
  refine r_ifne F (tgt := 35) dX8_table_30 (by decide) ?_ ?_
  · skip
    refine r_aload_n F 0 rfl dX8_table_35 rfl ?_
    refine r_iload_n F 1 rfl dX8_table_36 rfl ?_
    refine r_iload_n F 2 rfl dX8_table_37 rfl ?_
    refine k_vH (run_V F cvX8_491 (by decide) (c_X8_layRule (xG X) _ N h1 p1 p2) rfl rfl ⟨⟨rfl, rfl⟩, Nat.le_of_ble_eq_true rfl, Nat.le_of_ble_eq_true rfl⟩ (Nat.le_of_ble_eq_true rfl) dX8_table_38) fun h5 => ?_
    refine r_iload_n F 3 rfl dX8_table_41 rfl ?_
    refine Wt_jn (fun (j105 : Int32 → Option (Int32 × Hp)) => ∀ v6 : Int32, Wm X (fun v => some (.int v.1)) (fun v => v.2) (fun _ => True) 105 [] [.int v6] h5 (j105 v6)) ?_ fun j105 hj105 => ?_
    · intro v6
      exact r_iret F hA rfl rfl trivial dX8_table_105
    refine r_ifne F (tgt := 59) dX8_table_42 (by decide) ?_ ?_
    · skip
      refine r_iload_n F 3 rfl dX8_table_59 rfl ?_
      refine r_iconst F (v := 1) dX8_table_60 (by decide) ?_
      refine r_icmpne F (tgt := 80) dX8_table_61 (by decide) ?_ ?_
      · skip
        refine r_iload_n F 3 rfl dX8_table_80 rfl ?_
        refine r_iconst F (v := 2) dX8_table_81 (by decide) ?_
        refine r_icmpne F (tgt := 94) dX8_table_82 (by decide) ?_ ?_
        · skip
          refine r_aload_n F 0 rfl dX8_table_94 rfl ?_
          refine r_iconst F (v := 1) dX8_table_95 (by decide) ?_
          refine k_iP (run_V F cvX8_497 (by decide) (c_X8_gains (xG X) _ N h5 1) rfl rfl ⟨⟨rfl, rfl⟩, Nat.le_of_ble_eq_true rfl, Nat.le_of_ble_eq_true rfl⟩ (Nat.le_of_ble_eq_true rfl) dX8_table_96) fun v7 _ => ?_
          refine r_aload_n F 0 rfl dX8_table_99 rfl ?_
          refine r_iconst F (v := 0) dX8_table_100 (by decide) ?_
          refine k_iP (run_V F cvX8_497 (by decide) (c_X8_gains (xG X) _ N h5 0) rfl rfl ⟨⟨rfl, rfl⟩, Nat.le_of_ble_eq_true rfl, Nat.le_of_ble_eq_true rfl⟩ (Nat.le_of_ble_eq_true rfl) dX8_table_101) fun v8 _ => ?_
          refine r_isub F dX8_table_104 ?_
          exact Wt_pick [] rfl (hj105 (v7 - v8))
        refine r_aload_n F 0 rfl dX8_table_85 rfl ?_
        refine r_getA F frX8_109 (by decide) dX8_table_86 ?_
        refine r_iconst F (v := 1) dX8_table_89 (by decide) ?_
        refine r_iaload F (ar_8_31 0 (by decide)) dX8_table_90 ?_
        refine r_goto F (tgt := 105) dX8_table_91 (by decide) ?_
        exact Wt_pick [] rfl (hj105 (gA h5 8 0 31 (1 : Int32).toNatClampNeg))
      refine r_aload_n F 0 rfl dX8_table_64 rfl ?_
      refine r_getA F frX8_112 (by decide) dX8_table_65 ?_
      refine r_iconst F (v := 1) dX8_table_68 (by decide) ?_
      refine r_iaload F (ar_8_32 0 (by decide)) dX8_table_69 ?_
      refine r_aload_n F 0 rfl dX8_table_70 rfl ?_
      refine r_getA F frX8_112 (by decide) dX8_table_71 ?_
      refine r_iconst F (v := 0) dX8_table_74 (by decide) ?_
      refine r_iaload F (ar_8_32 0 (by decide)) dX8_table_75 ?_
      refine r_isub F dX8_table_76 ?_
      refine r_goto F (tgt := 105) dX8_table_77 (by decide) ?_
      exact Wt_pick [] rfl (hj105 ((gA h5 8 0 32 (1 : Int32).toNatClampNeg) - (gA h5 8 0 32 (0 : Int32).toNatClampNeg)))
    refine r_aload_n F 0 rfl dX8_table_45 rfl ?_
    refine r_iconst F (v := 1) dX8_table_46 (by decide) ?_
    refine k_iP (run_V F cvX8_494 (by decide) (c_X8_gotAll (xG X) _ N h5 1) rfl rfl ⟨⟨rfl, rfl⟩, Nat.le_of_ble_eq_true rfl, Nat.le_of_ble_eq_true rfl⟩ (Nat.le_of_ble_eq_true rfl) dX8_table_47) fun v9 _ => ?_
    refine r_aload_n F 0 rfl dX8_table_50 rfl ?_
    refine r_iconst F (v := 0) dX8_table_51 (by decide) ?_
    refine k_iP (run_V F cvX8_494 (by decide) (c_X8_gotAll (xG X) _ N h5 0) rfl rfl ⟨⟨rfl, rfl⟩, Nat.le_of_ble_eq_true rfl, Nat.le_of_ble_eq_true rfl⟩ (Nat.le_of_ble_eq_true rfl) dX8_table_52) fun v10 _ => ?_
    refine r_isub F dX8_table_55 ?_
    refine r_goto F (tgt := 105) dX8_table_56 (by decide) ?_
    exact Wt_pick [] rfl (hj105 (v9 - v10))
  exact Wt_pick [] rfl (hj33)
theorem c_X8_table (G : Gx) (l : Launch) (N : Nat) (h : Hp) (p1 : Int32) (p2 : Int32) (p3 : Int32) : Ctr G l yX8_table (.code yX8_table cX8_table 4 (some .int) :: GT) rmX8_table [.ref (adr G 8 0 0), .int p1, .int p2, .int p3] h (f_X8_table N h p1 p2 p3) (fun v => some (.int v.1)) (fun v => v.2) (fun _ => True) :=
  ctr_of (by decide) (Nat.le_of_ble_eq_true rfl) ⟨rfl, rfl⟩ fun X _ e2 hA hL F => by subst e2; exact w_X8_table X F hA hL N h p1 p2 p3
