theorem dX7_isStripe_0 : decode cX7_isStripe 0 = .ok (.iload_n 1, 1) := by decide +kernel
theorem dX7_isStripe_1 : decode cX7_isStripe 1 = .ok (.ifCond .lt 18, 3) := by decide +kernel
theorem dX7_isStripe_4 : decode cX7_isStripe 4 = .ok (.iload_n 1, 1) := by decide +kernel
theorem dX7_isStripe_5 : decode cX7_isStripe 5 = .ok (.aload_n 0, 1) := by decide +kernel
theorem dX7_isStripe_6 : decode cX7_isStripe 6 = .ok (.getfield 56, 3) := by decide +kernel
theorem dX7_isStripe_9 : decode cX7_isStripe 9 = .ok (.getfield 307, 3) := by decide +kernel
theorem dX7_isStripe_12 : decode cX7_isStripe 12 = .ok (.if_icmp .ge 7, 3) := by decide +kernel
theorem dX7_isStripe_15 : decode cX7_isStripe 15 = .ok (.iconst 1, 1) := by decide +kernel
theorem dX7_isStripe_16 : decode cX7_isStripe 16 = .ok (.goto 4, 3) := by decide +kernel
theorem dX7_isStripe_19 : decode cX7_isStripe 19 = .ok (.iconst 0, 1) := by decide +kernel
theorem dX7_isStripe_20 : decode cX7_isStripe 20 = .ok (.ireturn, 1) := by decide +kernel
theorem dX7_croftLaw_0 : decode cX7_croftLaw 0 = .ok (.iload_n 1, 1) := by decide +kernel
theorem dX7_croftLaw_1 : decode cX7_croftLaw 1 = .ok (.ifCond .ne 13, 3) := by decide +kernel
theorem dX7_croftLaw_4 : decode cX7_croftLaw 4 = .ok (.iload_n 3, 1) := by decide +kernel
theorem dX7_croftLaw_5 : decode cX7_croftLaw 5 = .ok (.bipush (-3), 2) := by decide +kernel
theorem dX7_croftLaw_7 : decode cX7_croftLaw 7 = .ok (.if_icmp .ne 7, 3) := by decide +kernel
theorem dX7_croftLaw_10 : decode cX7_croftLaw 10 = .ok (.iconst 1, 1) := by decide +kernel
theorem dX7_croftLaw_11 : decode cX7_croftLaw 11 = .ok (.goto 4, 3) := by decide +kernel
theorem dX7_croftLaw_14 : decode cX7_croftLaw 14 = .ok (.iconst 0, 1) := by decide +kernel
theorem dX7_croftLaw_15 : decode cX7_croftLaw 15 = .ok (.istore 4, 2) := by decide +kernel
theorem dX7_croftLaw_17 : decode cX7_croftLaw 17 = .ok (.aload_n 0, 1) := by decide +kernel
theorem dX7_croftLaw_18 : decode cX7_croftLaw 18 = .ok (.iload_n 2, 1) := by decide +kernel
theorem dX7_croftLaw_19 : decode cX7_croftLaw 19 = .ok (.invokevirtual 152, 3) := by decide +kernel
theorem dX7_croftLaw_22 : decode cX7_croftLaw 22 = .ok (.ifCond .eq 16, 3) := by decide +kernel
theorem dX7_croftLaw_25 : decode cX7_croftLaw 25 = .ok (.iload 4, 2) := by decide +kernel
theorem dX7_croftLaw_27 : decode cX7_croftLaw 27 = .ok (.ifCond .ne 15, 3) := by decide +kernel
theorem dX7_croftLaw_30 : decode cX7_croftLaw 30 = .ok (.aload_n 0, 1) := by decide +kernel
theorem dX7_croftLaw_31 : decode cX7_croftLaw 31 = .ok (.iload_n 3, 1) := by decide +kernel
theorem dX7_croftLaw_32 : decode cX7_croftLaw 32 = .ok (.invokevirtual 130, 3) := by decide +kernel
theorem dX7_croftLaw_35 : decode cX7_croftLaw 35 = .ok (.ifCond .ne 7, 3) := by decide +kernel
theorem dX7_croftLaw_38 : decode cX7_croftLaw 38 = .ok (.ldc2_w 204, 3) := by decide +kernel
theorem dX7_croftLaw_41 : decode cX7_croftLaw 41 = .ok (.lreturn, 1) := by decide +kernel
theorem dX7_croftLaw_42 : decode cX7_croftLaw 42 = .ok (.aload_n 0, 1) := by decide +kernel
theorem dX7_croftLaw_43 : decode cX7_croftLaw 43 = .ok (.getfield 72, 3) := by decide +kernel
theorem dX7_croftLaw_46 : decode cX7_croftLaw 46 = .ok (.iload 4, 2) := by decide +kernel
theorem dX7_croftLaw_48 : decode cX7_croftLaw 48 = .ok (.ifCond .eq 13, 3) := by decide +kernel
theorem dX7_croftLaw_51 : decode cX7_croftLaw 51 = .ok (.aload_n 0, 1) := by decide +kernel
theorem dX7_croftLaw_52 : decode cX7_croftLaw 52 = .ok (.getfield 72, 3) := by decide +kernel
theorem dX7_croftLaw_55 : decode cX7_croftLaw 55 = .ok (.getfield 221, 3) := by decide +kernel
theorem dX7_croftLaw_58 : decode cX7_croftLaw 58 = .ok (.goto 12, 3) := by decide +kernel
theorem dX7_croftLaw_61 : decode cX7_croftLaw 61 = .ok (.aload_n 0, 1) := by decide +kernel
theorem dX7_croftLaw_62 : decode cX7_croftLaw 62 = .ok (.getfield 72, 3) := by decide +kernel
theorem dX7_croftLaw_65 : decode cX7_croftLaw 65 = .ok (.getfield 146, 3) := by decide +kernel
theorem dX7_croftLaw_68 : decode cX7_croftLaw 68 = .ok (.iload_n 3, 1) := by decide +kernel
theorem dX7_croftLaw_69 : decode cX7_croftLaw 69 = .ok (.iaload, 1) := by decide +kernel
theorem dX7_croftLaw_70 : decode cX7_croftLaw 70 = .ok (.iload_n 2, 1) := by decide +kernel
theorem dX7_croftLaw_71 : decode cX7_croftLaw 71 = .ok (.invokevirtual 206, 3) := by decide +kernel
theorem dX7_croftLaw_74 : decode cX7_croftLaw 74 = .ok (.aload_n 0, 1) := by decide +kernel
theorem dX7_croftLaw_75 : decode cX7_croftLaw 75 = .ok (.getfield 56, 3) := by decide +kernel
theorem dX7_croftLaw_78 : decode cX7_croftLaw 78 = .ok (.getfield 210, 3) := by decide +kernel
theorem dX7_croftLaw_81 : decode cX7_croftLaw 81 = .ok (.iload_n 1, 1) := by decide +kernel
theorem dX7_croftLaw_82 : decode cX7_croftLaw 82 = .ok (.invokevirtual 214, 3) := by decide +kernel
theorem dX7_croftLaw_85 : decode cX7_croftLaw 85 = .ok (.lreturn, 1) := by decide +kernel
theorem dX7_law_0 : decode cX7_law 0 = .ok (.iload_n 1, 1) := by decide +kernel
theorem dX7_law_1 : decode cX7_law 1 = .ok (.tableswitch 112 0 3 #[31, 31, 39, 80], 31) := by decide +kernel
theorem dX7_law_32 : decode cX7_law 32 = .ok (.aload_n 0, 1) := by decide +kernel
theorem dX7_law_33 : decode cX7_law 33 = .ok (.iload_n 1, 1) := by decide +kernel
theorem dX7_law_34 : decode cX7_law 34 = .ok (.iload_n 2, 1) := by decide +kernel
theorem dX7_law_35 : decode cX7_law 35 = .ok (.iload_n 3, 1) := by decide +kernel
theorem dX7_law_36 : decode cX7_law 36 = .ok (.invokevirtual 198, 3) := by decide +kernel
theorem dX7_law_39 : decode cX7_law 39 = .ok (.lreturn, 1) := by decide +kernel
theorem dX7_law_40 : decode cX7_law 40 = .ok (.aload_n 0, 1) := by decide +kernel
theorem dX7_law_41 : decode cX7_law 41 = .ok (.iload_n 2, 1) := by decide +kernel
theorem dX7_law_42 : decode cX7_law 42 = .ok (.invokevirtual 130, 3) := by decide +kernel
theorem dX7_law_45 : decode cX7_law 45 = .ok (.ifCond .ne 7, 3) := by decide +kernel
theorem dX7_law_48 : decode cX7_law 48 = .ok (.ldc2_w 204, 3) := by decide +kernel
theorem dX7_law_51 : decode cX7_law 51 = .ok (.lreturn, 1) := by decide +kernel
theorem dX7_law_52 : decode cX7_law 52 = .ok (.aload_n 0, 1) := by decide +kernel
theorem dX7_law_53 : decode cX7_law 53 = .ok (.getfield 72, 3) := by decide +kernel
theorem dX7_law_56 : decode cX7_law 56 = .ok (.aload_n 0, 1) := by decide +kernel
theorem dX7_law_57 : decode cX7_law 57 = .ok (.getfield 72, 3) := by decide +kernel
theorem dX7_law_60 : decode cX7_law 60 = .ok (.getfield 146, 3) := by decide +kernel
theorem dX7_law_63 : decode cX7_law 63 = .ok (.iload_n 2, 1) := by decide +kernel
theorem dX7_law_64 : decode cX7_law 64 = .ok (.iaload, 1) := by decide +kernel
theorem dX7_law_65 : decode cX7_law 65 = .ok (.iconst (-1), 1) := by decide +kernel
theorem dX7_law_66 : decode cX7_law 66 = .ok (.invokevirtual 206, 3) := by decide +kernel
theorem dX7_law_69 : decode cX7_law 69 = .ok (.aload_n 0, 1) := by decide +kernel
theorem dX7_law_70 : decode cX7_law 70 = .ok (.getfield 56, 3) := by decide +kernel
theorem dX7_law_73 : decode cX7_law 73 = .ok (.getfield 210, 3) := by decide +kernel
theorem dX7_law_76 : decode cX7_law 76 = .ok (.iconst 2, 1) := by decide +kernel
theorem dX7_law_77 : decode cX7_law 77 = .ok (.invokevirtual 214, 3) := by decide +kernel
theorem dX7_law_80 : decode cX7_law 80 = .ok (.lreturn, 1) := by decide +kernel
theorem dX7_law_81 : decode cX7_law 81 = .ok (.aload_n 0, 1) := by decide +kernel
theorem dX7_law_82 : decode cX7_law 82 = .ok (.iload_n 2, 1) := by decide +kernel
theorem dX7_law_83 : decode cX7_law 83 = .ok (.invokevirtual 176, 3) := by decide +kernel
theorem dX7_law_86 : decode cX7_law 86 = .ok (.ifCond .ne 7, 3) := by decide +kernel
theorem dX7_law_89 : decode cX7_law 89 = .ok (.ldc2_w 204, 3) := by decide +kernel
theorem dX7_law_92 : decode cX7_law 92 = .ok (.lreturn, 1) := by decide +kernel
theorem dX7_law_93 : decode cX7_law 93 = .ok (.aload_n 0, 1) := by decide +kernel
theorem dX7_law_94 : decode cX7_law 94 = .ok (.getfield 72, 3) := by decide +kernel
theorem dX7_law_97 : decode cX7_law 97 = .ok (.iload_n 2, 1) := by decide +kernel
theorem dX7_law_98 : decode cX7_law 98 = .ok (.invokevirtual 218, 3) := by decide +kernel
theorem dX7_law_101 : decode cX7_law 101 = .ok (.aload_n 0, 1) := by decide +kernel
theorem dX7_law_102 : decode cX7_law 102 = .ok (.getfield 56, 3) := by decide +kernel
theorem dX7_law_105 : decode cX7_law 105 = .ok (.getfield 210, 3) := by decide +kernel
theorem dX7_law_108 : decode cX7_law 108 = .ok (.iconst 3, 1) := by decide +kernel
theorem dX7_law_109 : decode cX7_law 109 = .ok (.invokevirtual 214, 3) := by decide +kernel
theorem dX7_law_112 : decode cX7_law 112 = .ok (.lreturn, 1) := by decide +kernel
theorem dX7_law_113 : decode cX7_law 113 = .ok (.ldc2_w 204, 3) := by decide +kernel
theorem dX7_law_116 : decode cX7_law 116 = .ok (.lreturn, 1) := by decide +kernel
theorem dX7_act_0 : decode cX7_act 0 = .ok (.aload_n 0, 1) := by decide +kernel
theorem dX7_act_1 : decode cX7_act 1 = .ok (.iload_n 1, 1) := by decide +kernel
theorem dX7_act_2 : decode cX7_act 2 = .ok (.invokevirtual 152, 3) := by decide +kernel
theorem dX7_act_5 : decode cX7_act 5 = .ok (.ifCond .eq 25, 3) := by decide +kernel
theorem dX7_act_8 : decode cX7_act 8 = .ok (.iload_n 2, 1) := by decide +kernel
theorem dX7_act_9 : decode cX7_act 9 = .ok (.ifCond .lt 21, 3) := by decide +kernel
theorem dX7_act_12 : decode cX7_act 12 = .ok (.iload_n 2, 1) := by decide +kernel
theorem dX7_act_13 : decode cX7_act 13 = .ok (.iconst 3, 1) := by decide +kernel
theorem dX7_act_14 : decode cX7_act 14 = .ok (.if_icmp .gt 16, 3) := by decide +kernel
theorem dX7_act_17 : decode cX7_act 17 = .ok (.aload_n 0, 1) := by decide +kernel
theorem dX7_act_18 : decode cX7_act 18 = .ok (.getfield 72, 3) := by decide +kernel
theorem dX7_act_21 : decode cX7_act 21 = .ok (.getfield 164, 3) := by decide +kernel
theorem dX7_act_24 : decode cX7_act 24 = .ok (.iload_n 1, 1) := by decide +kernel
theorem dX7_act_25 : decode cX7_act 25 = .ok (.iaload, 1) := by decide +kernel
theorem dX7_act_26 : decode cX7_act 26 = .ok (.iload_n 2, 1) := by decide +kernel
theorem dX7_act_27 : decode cX7_act 27 = .ok (.if_icmp .ne 5, 3) := by decide +kernel
theorem dX7_act_30 : decode cX7_act 30 = .ok (.iconst 0, 1) := by decide +kernel
theorem dX7_act_31 : decode cX7_act 31 = .ok (.ireturn, 1) := by decide +kernel
theorem dX7_act_32 : decode cX7_act 32 = .ok (.aload_n 0, 1) := by decide +kernel
theorem dX7_act_33 : decode cX7_act 33 = .ok (.getfield 33, 3) := by decide +kernel
theorem dX7_act_36 : decode cX7_act 36 = .ok (.iconst 0, 1) := by decide +kernel
theorem dX7_act_37 : decode cX7_act 37 = .ok (.iload_n 1, 1) := by decide +kernel
theorem dX7_act_38 : decode cX7_act 38 = .ok (.aload_n 0, 1) := by decide +kernel
theorem dX7_act_39 : decode cX7_act 39 = .ok (.getfield 72, 3) := by decide +kernel
theorem dX7_act_42 : decode cX7_act 42 = .ok (.getfield 164, 3) := by decide +kernel
theorem dX7_act_45 : decode cX7_act 45 = .ok (.iload_n 1, 1) := by decide +kernel
theorem dX7_act_46 : decode cX7_act 46 = .ok (.iaload, 1) := by decide +kernel
theorem dX7_act_47 : decode cX7_act 47 = .ok (.invokevirtual 224, 3) := by decide +kernel
theorem dX7_act_50 : decode cX7_act 50 = .ok (.aload_n 0, 1) := by decide +kernel
theorem dX7_act_51 : decode cX7_act 51 = .ok (.getfield 72, 3) := by decide +kernel
theorem dX7_act_54 : decode cX7_act 54 = .ok (.getfield 164, 3) := by decide +kernel
theorem dX7_act_57 : decode cX7_act 57 = .ok (.iload_n 1, 1) := by decide +kernel
theorem dX7_act_58 : decode cX7_act 58 = .ok (.iload_n 2, 1) := by decide +kernel
theorem dX7_act_59 : decode cX7_act 59 = .ok (.iastore, 1) := by decide +kernel
theorem dX7_act_60 : decode cX7_act 60 = .ok (.iconst 1, 1) := by decide +kernel
theorem dX7_act_61 : decode cX7_act 61 = .ok (.ireturn, 1) := by decide +kernel
theorem dX7_isRule_0 : decode cX7_isRule 0 = .ok (.iload_n 0, 1) := by decide +kernel
theorem dX7_isRule_1 : decode cX7_isRule 1 = .ok (.ifCond .lt 12, 3) := by decide +kernel
theorem dX7_isRule_4 : decode cX7_isRule 4 = .ok (.iload_n 0, 1) := by decide +kernel
theorem dX7_isRule_5 : decode cX7_isRule 5 = .ok (.iconst 2, 1) := by decide +kernel
theorem dX7_isRule_6 : decode cX7_isRule 6 = .ok (.if_icmp .gt 7, 3) := by decide +kernel
theorem dX7_isRule_9 : decode cX7_isRule 9 = .ok (.iconst 1, 1) := by decide +kernel
theorem dX7_isRule_10 : decode cX7_isRule 10 = .ok (.goto 4, 3) := by decide +kernel
theorem dX7_isRule_13 : decode cX7_isRule 13 = .ok (.iconst 0, 1) := by decide +kernel
theorem dX7_isRule_14 : decode cX7_isRule 14 = .ok (.ireturn, 1) := by decide +kernel
theorem dX7_rule_0 : decode cX7_rule 0 = .ok (.iload_n 1, 1) := by decide +kernel
theorem dX7_rule_1 : decode cX7_rule 1 = .ok (.invokestatic 228, 3) := by decide +kernel
theorem dX7_rule_4 : decode cX7_rule 4 = .ok (.ifCond .eq 14, 3) := by decide +kernel
theorem dX7_rule_7 : decode cX7_rule 7 = .ok (.aload_n 0, 1) := by decide +kernel
theorem dX7_rule_8 : decode cX7_rule 8 = .ok (.getfield 72, 3) := by decide +kernel
theorem dX7_rule_11 : decode cX7_rule 11 = .ok (.getfield 231, 3) := by decide +kernel
theorem dX7_rule_14 : decode cX7_rule 14 = .ok (.iload_n 1, 1) := by decide +kernel
theorem dX7_rule_15 : decode cX7_rule 15 = .ok (.if_icmp .ne 5, 3) := by decide +kernel
theorem dX7_rule_18 : decode cX7_rule 18 = .ok (.iconst 0, 1) := by decide +kernel
theorem dX7_rule_19 : decode cX7_rule 19 = .ok (.ireturn, 1) := by decide +kernel
theorem dX7_rule_20 : decode cX7_rule 20 = .ok (.aload_n 0, 1) := by decide +kernel
theorem dX7_rule_21 : decode cX7_rule 21 = .ok (.getfield 33, 3) := by decide +kernel
theorem dX7_rule_24 : decode cX7_rule 24 = .ok (.iconst 1, 1) := by decide +kernel
theorem dX7_rule_25 : decode cX7_rule 25 = .ok (.iconst 0, 1) := by decide +kernel
theorem dX7_rule_26 : decode cX7_rule 26 = .ok (.aload_n 0, 1) := by decide +kernel
theorem dX7_rule_27 : decode cX7_rule 27 = .ok (.getfield 72, 3) := by decide +kernel
theorem dX7_rule_30 : decode cX7_rule 30 = .ok (.getfield 231, 3) := by decide +kernel
theorem dX7_rule_33 : decode cX7_rule 33 = .ok (.invokevirtual 224, 3) := by decide +kernel
theorem dX7_rule_36 : decode cX7_rule 36 = .ok (.aload_n 0, 1) := by decide +kernel
theorem dX7_rule_37 : decode cX7_rule 37 = .ok (.getfield 72, 3) := by decide +kernel
theorem dX7_rule_40 : decode cX7_rule 40 = .ok (.iload_n 1, 1) := by decide +kernel
theorem dX7_rule_41 : decode cX7_rule 41 = .ok (.putfield 231, 3) := by decide +kernel
theorem dX7_rule_44 : decode cX7_rule 44 = .ok (.iconst 1, 1) := by decide +kernel
theorem dX7_rule_45 : decode cX7_rule 45 = .ok (.ireturn, 1) := by decide +kernel
theorem dX7_lot_0 : decode cX7_lot 0 = .ok (.aload_n 0, 1) := by decide +kernel
theorem dX7_lot_1 : decode cX7_lot 1 = .ok (.iload_n 1, 1) := by decide +kernel
theorem dX7_lot_2 : decode cX7_lot 2 = .ok (.invokevirtual 130, 3) := by decide +kernel
theorem dX7_lot_5 : decode cX7_lot 5 = .ok (.ifCond .eq 24, 3) := by decide +kernel
theorem dX7_lot_8 : decode cX7_lot 8 = .ok (.aload_n 0, 1) := by decide +kernel
theorem dX7_lot_9 : decode cX7_lot 9 = .ok (.iload_n 2, 1) := by decide +kernel
theorem dX7_lot_10 : decode cX7_lot 10 = .ok (.invokevirtual 152, 3) := by decide +kernel
theorem dX7_lot_13 : decode cX7_lot 13 = .ok (.ifCond .eq 16, 3) := by decide +kernel
theorem dX7_lot_16 : decode cX7_lot 16 = .ok (.aload_n 0, 1) := by decide +kernel
theorem dX7_lot_17 : decode cX7_lot 17 = .ok (.getfield 72, 3) := by decide +kernel
theorem dX7_lot_20 : decode cX7_lot 20 = .ok (.getfield 149, 3) := by decide +kernel
theorem dX7_lot_23 : decode cX7_lot 23 = .ok (.iload_n 1, 1) := by decide +kernel
theorem dX7_lot_24 : decode cX7_lot 24 = .ok (.iaload, 1) := by decide +kernel
theorem dX7_lot_25 : decode cX7_lot 25 = .ok (.iload_n 2, 1) := by decide +kernel
theorem dX7_lot_26 : decode cX7_lot 26 = .ok (.if_icmp .ne 5, 3) := by decide +kernel
theorem dX7_lot_29 : decode cX7_lot 29 = .ok (.iconst 0, 1) := by decide +kernel
theorem dX7_lot_30 : decode cX7_lot 30 = .ok (.ireturn, 1) := by decide +kernel
theorem dX7_lot_31 : decode cX7_lot 31 = .ok (.aload_n 0, 1) := by decide +kernel
theorem dX7_lot_32 : decode cX7_lot 32 = .ok (.getfield 33, 3) := by decide +kernel
theorem dX7_lot_35 : decode cX7_lot 35 = .ok (.iconst 2, 1) := by decide +kernel
theorem dX7_lot_36 : decode cX7_lot 36 = .ok (.iload_n 1, 1) := by decide +kernel
theorem dX7_lot_37 : decode cX7_lot 37 = .ok (.aload_n 0, 1) := by decide +kernel
theorem dX7_lot_38 : decode cX7_lot 38 = .ok (.getfield 72, 3) := by decide +kernel
theorem dX7_lot_41 : decode cX7_lot 41 = .ok (.getfield 149, 3) := by decide +kernel
theorem dX7_lot_44 : decode cX7_lot 44 = .ok (.iload_n 1, 1) := by decide +kernel
theorem dX7_lot_45 : decode cX7_lot 45 = .ok (.iaload, 1) := by decide +kernel
theorem dX7_lot_46 : decode cX7_lot 46 = .ok (.invokevirtual 224, 3) := by decide +kernel
theorem dX7_lot_49 : decode cX7_lot 49 = .ok (.aload_n 0, 1) := by decide +kernel
theorem dX7_lot_50 : decode cX7_lot 50 = .ok (.getfield 72, 3) := by decide +kernel
theorem dX7_lot_53 : decode cX7_lot 53 = .ok (.getfield 149, 3) := by decide +kernel
theorem dX7_lot_56 : decode cX7_lot 56 = .ok (.iload_n 1, 1) := by decide +kernel
theorem dX7_lot_57 : decode cX7_lot 57 = .ok (.iload_n 2, 1) := by decide +kernel
theorem dX7_lot_58 : decode cX7_lot 58 = .ok (.iastore, 1) := by decide +kernel
theorem dX7_lot_59 : decode cX7_lot 59 = .ok (.iconst 1, 1) := by decide +kernel
theorem dX7_lot_60 : decode cX7_lot 60 = .ok (.ireturn, 1) := by decide +kernel
theorem dX7_canLend_0 : decode cX7_canLend 0 = .ok (.aload_n 0, 1) := by decide +kernel
theorem dX7_canLend_1 : decode cX7_canLend 1 = .ok (.iload_n 1, 1) := by decide +kernel
theorem dX7_canLend_2 : decode cX7_canLend 2 = .ok (.invokevirtual 152, 3) := by decide +kernel
theorem dX7_canLend_5 : decode cX7_canLend 5 = .ok (.ifCond .eq 45, 3) := by decide +kernel
theorem dX7_canLend_8 : decode cX7_canLend 8 = .ok (.aload_n 0, 1) := by decide +kernel
theorem dX7_canLend_9 : decode cX7_canLend 9 = .ok (.iload_n 2, 1) := by decide +kernel
theorem dX7_canLend_10 : decode cX7_canLend 10 = .ok (.invokevirtual 152, 3) := by decide +kernel
theorem dX7_canLend_13 : decode cX7_canLend 13 = .ok (.ifCond .eq 37, 3) := by decide +kernel
theorem dX7_canLend_16 : decode cX7_canLend 16 = .ok (.iload_n 1, 1) := by decide +kernel
theorem dX7_canLend_17 : decode cX7_canLend 17 = .ok (.iload_n 2, 1) := by decide +kernel
theorem dX7_canLend_18 : decode cX7_canLend 18 = .ok (.if_icmp .eq 32, 3) := by decide +kernel
theorem dX7_canLend_21 : decode cX7_canLend 21 = .ok (.aload_n 0, 1) := by decide +kernel
theorem dX7_canLend_22 : decode cX7_canLend 22 = .ok (.getfield 72, 3) := by decide +kernel
theorem dX7_canLend_25 : decode cX7_canLend 25 = .ok (.getfield 155, 3) := by decide +kernel
theorem dX7_canLend_28 : decode cX7_canLend 28 = .ok (.iload_n 1, 1) := by decide +kernel
theorem dX7_canLend_29 : decode cX7_canLend 29 = .ok (.iaload, 1) := by decide +kernel
theorem dX7_canLend_30 : decode cX7_canLend 30 = .ok (.ifCond .le 20, 3) := by decide +kernel
theorem dX7_canLend_33 : decode cX7_canLend 33 = .ok (.aload_n 0, 1) := by decide +kernel
theorem dX7_canLend_34 : decode cX7_canLend 34 = .ok (.getfield 72, 3) := by decide +kernel
theorem dX7_canLend_37 : decode cX7_canLend 37 = .ok (.getfield 155, 3) := by decide +kernel
theorem dX7_canLend_40 : decode cX7_canLend 40 = .ok (.iload_n 2, 1) := by decide +kernel
theorem dX7_canLend_41 : decode cX7_canLend 41 = .ok (.iaload, 1) := by decide +kernel
theorem dX7_canLend_42 : decode cX7_canLend 42 = .ok (.iconst 5, 1) := by decide +kernel
theorem dX7_canLend_43 : decode cX7_canLend 43 = .ok (.if_icmp .ge 7, 3) := by decide +kernel
theorem dX7_canLend_46 : decode cX7_canLend 46 = .ok (.iconst 1, 1) := by decide +kernel
theorem dX7_canLend_47 : decode cX7_canLend 47 = .ok (.goto 4, 3) := by decide +kernel
theorem dX7_canLend_50 : decode cX7_canLend 50 = .ok (.iconst 0, 1) := by decide +kernel
theorem dX7_canLend_51 : decode cX7_canLend 51 = .ok (.ireturn, 1) := by decide +kernel
theorem dX7_lend_0 : decode cX7_lend 0 = .ok (.aload_n 0, 1) := by decide +kernel
theorem dX7_lend_1 : decode cX7_lend 1 = .ok (.iload_n 1, 1) := by decide +kernel
theorem dX7_lend_2 : decode cX7_lend 2 = .ok (.iload_n 2, 1) := by decide +kernel
theorem dX7_lend_3 : decode cX7_lend 3 = .ok (.invokevirtual 234, 3) := by decide +kernel
theorem dX7_lend_6 : decode cX7_lend 6 = .ok (.ifCond .ne 5, 3) := by decide +kernel
theorem dX7_lend_9 : decode cX7_lend 9 = .ok (.iconst 0, 1) := by decide +kernel
theorem dX7_lend_10 : decode cX7_lend 10 = .ok (.ireturn, 1) := by decide +kernel
theorem dX7_lend_11 : decode cX7_lend 11 = .ok (.aload_n 0, 1) := by decide +kernel
theorem dX7_lend_12 : decode cX7_lend 12 = .ok (.getfield 33, 3) := by decide +kernel
theorem dX7_lend_15 : decode cX7_lend 15 = .ok (.iconst 3, 1) := by decide +kernel
theorem dX7_lend_16 : decode cX7_lend 16 = .ok (.iload_n 1, 1) := by decide +kernel
theorem dX7_lend_17 : decode cX7_lend 17 = .ok (.iload_n 2, 1) := by decide +kernel
theorem dX7_lend_18 : decode cX7_lend 18 = .ok (.invokevirtual 224, 3) := by decide +kernel
theorem dX7_lend_21 : decode cX7_lend 21 = .ok (.aload_n 0, 1) := by decide +kernel
theorem dX7_lend_22 : decode cX7_lend 22 = .ok (.getfield 72, 3) := by decide +kernel
theorem dX7_lend_25 : decode cX7_lend 25 = .ok (.iload_n 1, 1) := by decide +kernel
theorem dX7_lend_26 : decode cX7_lend 26 = .ok (.iload_n 2, 1) := by decide +kernel
theorem dX7_lend_27 : decode cX7_lend 27 = .ok (.invokevirtual 238, 3) := by decide +kernel
theorem dX7_lend_30 : decode cX7_lend 30 = .ok (.iconst 1, 1) := by decide +kernel
theorem dX7_lend_31 : decode cX7_lend 31 = .ok (.ireturn, 1) := by decide +kernel
theorem dX7_go_0 : decode cX7_go 0 = .ok (.iload_n 1, 1) := by decide +kernel
theorem dX7_go_1 : decode cX7_go 1 = .ok (.ifCond .lt 24, 3) := by decide +kernel
theorem dX7_go_4 : decode cX7_go 4 = .ok (.iload_n 1, 1) := by decide +kernel
theorem dX7_go_5 : decode cX7_go 5 = .ok (.bipush 99, 2) := by decide +kernel
theorem dX7_go_7 : decode cX7_go 7 = .ok (.if_icmp .gt 18, 3) := by decide +kernel
theorem dX7_go_10 : decode cX7_go 10 = .ok (.aload_n 0, 1) := by decide +kernel
theorem dX7_go_11 : decode cX7_go 11 = .ok (.getfield 72, 3) := by decide +kernel
theorem dX7_go_14 : decode cX7_go 14 = .ok (.getfield 241, 3) := by decide +kernel
theorem dX7_go_17 : decode cX7_go 17 = .ok (.iload_n 1, 1) := by decide +kernel
theorem dX7_go_18 : decode cX7_go 18 = .ok (.iadd, 1) := by decide +kernel
theorem dX7_go_19 : decode cX7_go 19 = .ok (.sipush 9999, 3) := by decide +kernel
theorem dX7_go_22 : decode cX7_go 22 = .ok (.if_icmp .le 5, 3) := by decide +kernel
theorem dX7_go_25 : decode cX7_go 25 = .ok (.iconst (-1), 1) := by decide +kernel
theorem dX7_go_26 : decode cX7_go 26 = .ok (.ireturn, 1) := by decide +kernel
theorem dX7_go_27 : decode cX7_go 27 = .ok (.iload_n 1, 1) := by decide +kernel
theorem dX7_go_28 : decode cX7_go 28 = .ok (.ifCond .le 11, 3) := by decide +kernel
theorem dX7_go_31 : decode cX7_go 31 = .ok (.aload_n 0, 1) := by decide +kernel
theorem dX7_go_32 : decode cX7_go 32 = .ok (.getfield 33, 3) := by decide +kernel
theorem dX7_go_35 : decode cX7_go 35 = .ok (.iconst 0, 1) := by decide +kernel
theorem dX7_go_36 : decode cX7_go 36 = .ok (.putfield 117, 3) := by decide +kernel
theorem dX7_go_39 : decode cX7_go 39 = .ok (.aload_n 0, 1) := by decide +kernel
theorem dX7_go_40 : decode cX7_go 40 = .ok (.getfield 72, 3) := by decide +kernel
theorem dX7_go_43 : decode cX7_go 43 = .ok (.iload_n 1, 1) := by decide +kernel
theorem dX7_go_44 : decode cX7_go 44 = .ok (.invokevirtual 244, 3) := by decide +kernel
theorem dX7_go_47 : decode cX7_go 47 = .ok (.aload_n 0, 1) := by decide +kernel
theorem dX7_go_48 : decode cX7_go 48 = .ok (.getfield 72, 3) := by decide +kernel
theorem dX7_go_51 : decode cX7_go 51 = .ok (.getfield 241, 3) := by decide +kernel
theorem dX7_go_54 : decode cX7_go 54 = .ok (.ireturn, 1) := by decide +kernel
theorem dX7_isIn_0 : decode cX7_isIn 0 = .ok (.iload_n 0, 1) := by decide +kernel
theorem dX7_isIn_1 : decode cX7_isIn 1 = .ok (.iload_n 1, 1) := by decide +kernel
theorem dX7_isIn_2 : decode cX7_isIn 2 = .ok (.if_icmp .lt 12, 3) := by decide +kernel
theorem dX7_isIn_5 : decode cX7_isIn 5 = .ok (.iload_n 0, 1) := by decide +kernel
theorem dX7_isIn_6 : decode cX7_isIn 6 = .ok (.iload_n 2, 1) := by decide +kernel
theorem dX7_isIn_7 : decode cX7_isIn 7 = .ok (.if_icmp .gt 7, 3) := by decide +kernel
theorem dX7_isIn_10 : decode cX7_isIn 10 = .ok (.iconst 1, 1) := by decide +kernel
theorem dX7_isIn_11 : decode cX7_isIn 11 = .ok (.goto 4, 3) := by decide +kernel
theorem dX7_isIn_14 : decode cX7_isIn 14 = .ok (.iconst 0, 1) := by decide +kernel
theorem dX7_isIn_15 : decode cX7_isIn 15 = .ok (.ireturn, 1) := by decide +kernel
theorem dX7_ruledBy_0 : decode cX7_ruledBy 0 = .ok (.aload_n 0, 1) := by decide +kernel
theorem dX7_ruledBy_1 : decode cX7_ruledBy 1 = .ok (.getfield 78, 3) := by decide +kernel
theorem dX7_ruledBy_4 : decode cX7_ruledBy 4 = .ok (.iconst 0, 1) := by decide +kernel
theorem dX7_ruledBy_5 : decode cX7_ruledBy 5 = .ok (.aaload, 1) := by decide +kernel
theorem dX7_ruledBy_6 : decode cX7_ruledBy 6 = .ok (.astore_n 3, 1) := by decide +kernel
theorem dX7_ruledBy_7 : decode cX7_ruledBy 7 = .ok (.aload_n 3, 1) := by decide +kernel
theorem dX7_ruledBy_8 : decode cX7_ruledBy 8 = .ok (.aload_n 0, 1) := by decide +kernel
theorem dX7_ruledBy_9 : decode cX7_ruledBy 9 = .ok (.getfield 72, 3) := by decide +kernel
theorem dX7_ruledBy_12 : decode cX7_ruledBy 12 = .ok (.invokevirtual 109, 3) := by decide +kernel
theorem dX7_ruledBy_15 : decode cX7_ruledBy 15 = .ok (.aload_n 3, 1) := by decide +kernel
theorem dX7_ruledBy_16 : decode cX7_ruledBy 16 = .ok (.iload_n 1, 1) := by decide +kernel
theorem dX7_ruledBy_17 : decode cX7_ruledBy 17 = .ok (.putfield 231, 3) := by decide +kernel
theorem dX7_ruledBy_20 : decode cX7_ruledBy 20 = .ok (.iconst 0, 1) := by decide +kernel
theorem dX7_ruledBy_21 : decode cX7_ruledBy 21 = .ok (.istore 4, 2) := by decide +kernel
theorem dX7_ruledBy_23 : decode cX7_ruledBy 23 = .ok (.iload 4, 2) := by decide +kernel
theorem dX7_ruledBy_25 : decode cX7_ruledBy 25 = .ok (.aload_n 3, 1) := by decide +kernel
theorem dX7_ruledBy_26 : decode cX7_ruledBy 26 = .ok (.getfield 164, 3) := by decide +kernel
theorem dX7_ruledBy_29 : decode cX7_ruledBy 29 = .ok (.arraylength, 1) := by decide +kernel
theorem dX7_ruledBy_30 : decode cX7_ruledBy 30 = .ok (.if_icmp .ge 17, 3) := by decide +kernel
theorem dX7_ruledBy_33 : decode cX7_ruledBy 33 = .ok (.aload_n 3, 1) := by decide +kernel
theorem dX7_ruledBy_34 : decode cX7_ruledBy 34 = .ok (.getfield 164, 3) := by decide +kernel
theorem dX7_ruledBy_37 : decode cX7_ruledBy 37 = .ok (.iload 4, 2) := by decide +kernel
theorem dX7_ruledBy_39 : decode cX7_ruledBy 39 = .ok (.iconst 0, 1) := by decide +kernel
theorem dX7_ruledBy_40 : decode cX7_ruledBy 40 = .ok (.iastore, 1) := by decide +kernel
theorem dX7_ruledBy_41 : decode cX7_ruledBy 41 = .ok (.iinc 4 1, 3) := by decide +kernel
theorem dX7_ruledBy_44 : decode cX7_ruledBy 44 = .ok (.goto (-21), 3) := by decide +kernel
theorem dX7_ruledBy_47 : decode cX7_ruledBy 47 = .ok (.aload_n 3, 1) := by decide +kernel
theorem dX7_ruledBy_48 : decode cX7_ruledBy 48 = .ok (.iload_n 2, 1) := by decide +kernel
theorem dX7_ruledBy_49 : decode cX7_ruledBy 49 = .ok (.invokevirtual 265, 3) := by decide +kernel
theorem dX7_ruledBy_52 : decode cX7_ruledBy 52 = .ok (.aload_n 3, 1) := by decide +kernel
theorem dX7_ruledBy_53 : decode cX7_ruledBy 53 = .ok (.areturn, 1) := by decide +kernel
def f_X7_isStripe (h : Hp) (p1 : Int32) : Option Bool :=
  jn (fun (v1 : Bool) =>
    some v1) fun (j20 : Bool → Option Bool) =>
  jn (
    j20 false) fun (j19 : Option Bool) =>
  if p1 < 0 then
    j19
  else
  onO (gO h 7 0 13) fun o2 =>
  if (gI h 5 o2 11) ≤ p1 then
    j19
  else
  j20 true
abbrev rmX7_isStripe : Room := { frames := 0, cells := 0, slots := 0, locals := 0 }
set_option maxRecDepth 100000 in
set_option maxHeartbeats 4000000 in
theorem w_X7_isStripe (X : Cx) (F : Fx X cX7_isStripe RX7 (some .boolean) rmX7_isStripe) (hA : xA X = Aw (xG X)) (hL : xL X = 2) (h : Hp) (p1 : Int32) : Wm X (fun v => some (.int (b2i v))) (fun _ => h) (fun _ => True) 0 [(0, .ref (adr (xG X) 7 0 0)), (1, .int p1)] [] h (f_X7_isStripe h p1) := by
  have hS : ∀ i : Nat, i < 2 → i < xL X := fun i z => by rw [hL]; exact z
  unfold f_X7_isStripe
  refine r_iload_n F 1 rfl dX7_isStripe_0 rfl ?_
  refine Wt_jn (fun (j20 : Bool → Option Bool) => ∀ v1 : Bool, Wm X (fun v => some (.int (b2i v))) (fun _ => h) (fun _ => True) 20 [] [.int (b2i v1)] h (j20 v1)) ?_ fun j20 hj20 => ?_
  · intro v1
    exact r_zret F hA v1 rfl rfl rfl trivial dX7_isStripe_20
  refine Wt_jn (fun (j19 : Option Bool) => Wm X (fun v => some (.int (b2i v))) (fun _ => h) (fun _ => True) 19 [] [] h (j19)) ?_ fun j19 hj19 => ?_
  · skip
    refine r_iconst F (v := 0) dX7_isStripe_19 (by decide) ?_
    exact Wt_pick [] rfl (hj20 false)
  refine r_iflt F (tgt := 19) dX7_isStripe_1 (by decide) ?_ ?_
  · skip
    exact Wt_pick [] rfl (hj19)
  refine r_iload_n F 1 rfl dX7_isStripe_4 rfl ?_
  refine r_aload_n F 0 rfl dX7_isStripe_5 rfl ?_
  refine r_getO F frX7_56 (by decide) dX7_isStripe_6 fun o2 hp_o2 => ?_
  refine r_getI F frX7_307 hp_o2 dX7_isStripe_9 ?_
  refine r_icmpge F (tgt := 19) dX7_isStripe_12 (by decide) ?_ ?_
  · skip
    exact Wt_pick [] rfl (hj19)
  refine r_iconst F (v := 1) dX7_isStripe_15 (by decide) ?_
  refine r_goto F (tgt := 20) dX7_isStripe_16 (by decide) ?_
  exact Wt_pick [] rfl (hj20 true)
theorem c_X7_isStripe (G : Gx) (l : Launch) (h : Hp) (p1 : Int32) : Ctr G l yX7_isStripe (.code yX7_isStripe cX7_isStripe 2 (some .boolean) :: GT) rmX7_isStripe [.ref (adr G 7 0 0), .int p1] h (f_X7_isStripe h p1) (fun v => some (.int (b2i v))) (fun _ => h) (fun _ => True) :=
  ctr_of (by decide) (Nat.le_of_ble_eq_true rfl) ⟨rfl, rfl⟩ fun X _ e2 hA hL F => by subst e2; exact w_X7_isStripe X F hA hL h p1
def f_X7_croftLaw (N : Nat) (h : Hp) (p1 : Int32) (p2 : Int32) (p3 : Int32) : Option (Int64 × Hp) :=
  jn (fun (v1 : Bool) =>
    (f_X7_isCroft h p2).bind fun v2 =>
    jn (
      some ((-9223372036854775808 : Int64), h)) fun (j38 : Option (Int64 × Hp)) =>
    if (b2i v2) = 0 then
      j38
    else
    jn (
      jn (fun (v3 : Int32) =>
        (f_X3_namePlace h 1 v3 p2).bind fun h4 =>
        onO (gO h4 7 0 13) fun o5 =>
        bd2 (f_X0_value N h4 o5 p1) fun v7 h6 =>
        some (v7, h6)) fun (j70 : Int32 → Option (Int64 × Hp)) =>
      if (b2i v1) = 0 then
        grd (inb p3 8) <|
        j70 (gA h 3 1 0 p3.toNatClampNeg)
      else
      j70 (gI h 3 1 12)) fun (j42 : Option (Int64 × Hp)) =>
    if ¬ (b2i v1) = 0 then
      j42
    else
    (f_X7_isStripe h p3).bind fun v8 =>
    if ¬ (b2i v8) = 0 then
      j42
    else
    j38) fun (j15 : Bool → Option (Int64 × Hp)) =>
  jn (
    j15 false) fun (j14 : Option (Int64 × Hp)) =>
  if ¬ p1 = 0 then
    j14
  else
  if ¬ p3 = (-3) then
    j14
  else
  j15 true
abbrev rmX7_croftLaw : Room := { frames := 2, cells := 0, slots := 0, locals := 54 }
set_option maxRecDepth 100000 in
set_option maxHeartbeats 4000000 in
theorem w_X7_croftLaw (X : Cx) (F : Fx X cX7_croftLaw RX7 (some .long) rmX7_croftLaw) (hA : xA X = Aw (xG X)) (hL : xL X = 5) (N : Nat) (h : Hp) (p1 : Int32) (p2 : Int32) (p3 : Int32) : Wm X (fun v => some (.long v.1)) (fun v => v.2) (fun _ => True) 0 [(0, .ref (adr (xG X) 7 0 0)), (1, .int p1), (2, .int p2), (3, .int p3)] [] h (f_X7_croftLaw N h p1 p2 p3) := by
  have hS : ∀ i : Nat, i < 5 → i < xL X := fun i z => by rw [hL]; exact z
  unfold f_X7_croftLaw
  refine r_iload_n F 1 rfl dX7_croftLaw_0 rfl ?_
  refine Wt_jn (fun (j15 : Bool → Option (Int64 × Hp)) => ∀ v1 : Bool, Wm X (fun v => some (.long v.1)) (fun v => v.2) (fun _ => True) 15 [(0, .ref (adr (xG X) 7 0 0)), (1, .int p1), (2, .int p2), (3, .int p3)] [.int (b2i v1)] h (j15 v1)) ?_ fun j15 hj15 => ?_
  · intro v1
    refine r_istore F [(4, .int (b2i v1)), (0, .ref (adr (xG X) 7 0 0)), (1, .int p1), (2, .int p2), (3, .int p3)] rfl dX7_croftLaw_15 (hS _ (by decide)) ?_
    refine r_aload_n F 1 rfl dX7_croftLaw_17 rfl ?_
    refine r_iload_n F 3 rfl dX7_croftLaw_18 rfl ?_
    refine k_zP (run_V F cvX7_152 (by decide) (c_X7_isCroft (xG X) _ h p2) rfl rfl ⟨⟨rfl, rfl⟩, Nat.le_of_ble_eq_true rfl, Nat.le_of_ble_eq_true rfl⟩ (Nat.le_of_ble_eq_true rfl) dX7_croftLaw_19) fun v2 _ => ?_
    refine Wt_jn (fun (j38 : Option (Int64 × Hp)) => Wm X (fun v => some (.long v.1)) (fun v => v.2) (fun _ => True) 38 [] [] h (j38)) ?_ fun j38 hj38 => ?_
    · skip
      refine r_ldc2 F wd_869 dX7_croftLaw_38 ?_
      exact r_lret F hA rfl rfl trivial dX7_croftLaw_41
    refine r_ifeq F (tgt := 38) dX7_croftLaw_22 (by decide) ?_ ?_
    · skip
      exact Wt_pick [] rfl (hj38)
    refine r_iload F 0 rfl dX7_croftLaw_25 ?_
    refine Wt_jn (fun (j42 : Option (Int64 × Hp)) => Wm X (fun v => some (.long v.1)) (fun v => v.2) (fun _ => True) 42 [(0, .ref (adr (xG X) 7 0 0)), (1, .int p1), (2, .int p2), (3, .int p3), (4, .int (b2i v1))] [] h (j42)) ?_ fun j42 hj42 => ?_
    · skip
      refine r_aload_n F 0 rfl dX7_croftLaw_42 rfl ?_
      refine r_getS F frX7_72 (by decide) 1 rfl dX7_croftLaw_43 ?_
      refine r_iload F 4 rfl dX7_croftLaw_46 ?_
      refine Wt_jn (fun (j70 : Int32 → Option (Int64 × Hp)) => ∀ v3 : Int32, Wm X (fun v => some (.long v.1)) (fun v => v.2) (fun _ => True) 70 [(0, .ref (adr (xG X) 7 0 0)), (1, .int p1), (2, .int p2)] [.int v3, .ref (adr (xG X) 3 1 0)] h (j70 v3)) ?_ fun j70 hj70 => ?_
      · intro v3
        refine r_iload_n F 2 rfl dX7_croftLaw_70 rfl ?_
        refine k_vH (run_V F cvX7_206 (by decide) (c_X3_namePlace (xG X) _ h 1 (by decide) v3 p2) rfl rfl ⟨⟨rfl, rfl⟩, Nat.le_of_ble_eq_true rfl, Nat.le_of_ble_eq_true rfl⟩ (Nat.le_of_ble_eq_true rfl) dX7_croftLaw_71) fun h4 => ?_
        refine r_aload_n F 0 rfl dX7_croftLaw_74 rfl ?_
        refine r_getO F frX7_56 (by decide) dX7_croftLaw_75 fun o5 hp_o5 => ?_
        refine r_getS F frX7_210 hp_o5 o5 rfl dX7_croftLaw_78 ?_
        refine r_iload_n F 1 rfl dX7_croftLaw_81 rfl ?_
        refine k_lH (run_V F cvX7_214 hp_o5 (c_X0_value (xG X) _ N h4 o5 hp_o5 p1) rfl rfl ⟨⟨rfl, rfl⟩, Nat.le_of_ble_eq_true rfl, Nat.le_of_ble_eq_true rfl⟩ (Nat.le_of_ble_eq_true rfl) dX7_croftLaw_82) fun v7 h6 => ?_
        exact r_lret F hA rfl rfl trivial dX7_croftLaw_85
      refine r_ifeq F (tgt := 61) dX7_croftLaw_48 (by decide) ?_ ?_
      · skip
        refine r_aload_n F 0 rfl dX7_croftLaw_61 rfl ?_
        refine r_getS F frX7_72 (by decide) 1 rfl dX7_croftLaw_62 ?_
        refine r_getA F frX7_146 (by decide) dX7_croftLaw_65 ?_
        refine r_iload_n F 3 rfl dX7_croftLaw_68 rfl ?_
        refine r_iaload F (ar_3_0 1 (by decide)) dX7_croftLaw_69 ?_
        exact Wt_pick [0, 1, 2] rfl (hj70 (gA h 3 1 0 p3.toNatClampNeg))
      refine r_aload_n F 0 rfl dX7_croftLaw_51 rfl ?_
      refine r_getS F frX7_72 (by decide) 1 rfl dX7_croftLaw_52 ?_
      refine r_getI F frX7_221 (by decide) dX7_croftLaw_55 ?_
      refine r_goto F (tgt := 70) dX7_croftLaw_58 (by decide) ?_
      exact Wt_pick [0, 1, 2] rfl (hj70 (gI h 3 1 12))
    refine r_ifne F (tgt := 42) dX7_croftLaw_27 (by decide) ?_ ?_
    · skip
      exact Wt_pick [1, 2, 3, 4, 0] rfl (hj42)
    refine r_aload_n F 1 rfl dX7_croftLaw_30 rfl ?_
    refine r_iload_n F 4 rfl dX7_croftLaw_31 rfl ?_
    refine k_zP (run_V F cvX7_130 (by decide) (c_X7_isStripe (xG X) _ h p3) rfl rfl ⟨⟨rfl, rfl⟩, Nat.le_of_ble_eq_true rfl, Nat.le_of_ble_eq_true rfl⟩ (Nat.le_of_ble_eq_true rfl) dX7_croftLaw_32) fun v8 _ => ?_
    refine r_ifne F (tgt := 42) dX7_croftLaw_35 (by decide) ?_ ?_
    · skip
      exact Wt_pick [1, 2, 3, 4, 0] rfl (hj42)
    exact Wt_pick [] rfl (hj38)
  refine Wt_jn (fun (j14 : Option (Int64 × Hp)) => Wm X (fun v => some (.long v.1)) (fun v => v.2) (fun _ => True) 14 [(0, .ref (adr (xG X) 7 0 0)), (1, .int p1), (2, .int p2), (3, .int p3)] [] h (j14)) ?_ fun j14 hj14 => ?_
  · skip
    refine r_iconst F (v := 0) dX7_croftLaw_14 (by decide) ?_
    exact Wt_pick [0, 1, 2, 3] rfl (hj15 false)
  refine r_ifne F (tgt := 14) dX7_croftLaw_1 (by decide) ?_ ?_
  · skip
    exact Wt_pick [0, 1, 2, 3] rfl (hj14)
  refine r_iload_n F 3 rfl dX7_croftLaw_4 rfl ?_
  refine r_bipush F (v := (-3)) dX7_croftLaw_5 (by decide) ?_
  refine r_icmpne F (tgt := 14) dX7_croftLaw_7 (by decide) ?_ ?_
  · skip
    exact Wt_pick [0, 1, 2, 3] rfl (hj14)
  refine r_iconst F (v := 1) dX7_croftLaw_10 (by decide) ?_
  refine r_goto F (tgt := 15) dX7_croftLaw_11 (by decide) ?_
  exact Wt_pick [0, 1, 2, 3] rfl (hj15 true)
theorem c_X7_croftLaw (G : Gx) (l : Launch) (N : Nat) (h : Hp) (p1 : Int32) (p2 : Int32) (p3 : Int32) : Ctr G l yX7_croftLaw (.code yX7_croftLaw cX7_croftLaw 5 (some .long) :: GT) rmX7_croftLaw [.ref (adr G 7 0 0), .int p1, .int p2, .int p3] h (f_X7_croftLaw N h p1 p2 p3) (fun v => some (.long v.1)) (fun v => v.2) (fun _ => True) :=
  ctr_of (by decide) (Nat.le_of_ble_eq_true rfl) ⟨rfl, rfl⟩ fun X _ e2 hA hL F => by subst e2; exact w_X7_croftLaw X F hA hL N h p1 p2 p3
def f_X7_law (N : Nat) (h : Hp) (p1 : Int32) (p2 : Int32) (p3 : Int32) : Option (Int64 × Hp) :=
  if p1 = 0 then
    bd2 (f_X7_croftLaw N h p1 p2 p3) fun v2 h1 =>
    some (v2, h1)
  else
  if p1 = 1 then
    bd2 (f_X7_croftLaw N h p1 p2 p3) fun v4 h3 =>
    some (v4, h3)
  else
  if p1 = 2 then
    (f_X7_isStripe h p2).bind fun v5 =>
    if ¬ (b2i v5) = 0 then
      grd (inb p2 8) <|
      (f_X3_namePlace h 1 (gA h 3 1 0 p2.toNatClampNeg) (-1)).bind fun h6 =>
      onO (gO h6 7 0 13) fun o7 =>
      bd2 (f_X0_value N h6 o7 2) fun v9 h8 =>
      some (v9, h8)
    else
    some ((-9223372036854775808 : Int64), h)
  else
  if p1 = 3 then
    (f_X7_isField h p2).bind fun v10 =>
    if ¬ (b2i v10) = 0 then
      (f_X3_nameField h 1 p2).bind fun h11 =>
      onO (gO h11 7 0 13) fun o12 =>
      bd2 (f_X0_value N h11 o12 3) fun v14 h13 =>
      some (v14, h13)
    else
    some ((-9223372036854775808 : Int64), h)
  else
  some ((-9223372036854775808 : Int64), h)
abbrev rmX7_law : Room := { frames := 3, cells := 0, slots := 0, locals := 78 }
set_option maxRecDepth 100000 in
set_option maxHeartbeats 4000000 in
theorem w_X7_law (X : Cx) (F : Fx X cX7_law RX7 (some .long) rmX7_law) (hA : xA X = Aw (xG X)) (hL : xL X = 4) (N : Nat) (h : Hp) (p1 : Int32) (p2 : Int32) (p3 : Int32) : Wm X (fun v => some (.long v.1)) (fun v => v.2) (fun _ => True) 0 [(0, .ref (adr (xG X) 7 0 0)), (1, .int p1), (2, .int p2), (3, .int p3)] [] h (f_X7_law N h p1 p2 p3) := by
  have hS : ∀ i : Nat, i < 4 → i < xL X := fun i z => by rw [hL]; exact z
  unfold f_X7_law
  refine r_iload_n F 1 rfl dX7_law_0 rfl ?_
  refine r_tsc F (tgt := 32) 0 0 dX7_law_1 rfl (by decide) (by decide) (by decide) ?_ fun n0 => ?_
  · skip
    refine r_aload_n F 0 rfl dX7_law_32 rfl ?_
    refine r_iload_n F 1 rfl dX7_law_33 rfl ?_
    refine r_iload_n F 2 rfl dX7_law_34 rfl ?_
    refine r_iload_n F 3 rfl dX7_law_35 rfl ?_
    refine k_lH (run_V F cvX7_198 (by decide) (c_X7_croftLaw (xG X) _ N h p1 p2 p3) rfl rfl ⟨⟨rfl, rfl⟩, Nat.le_of_ble_eq_true rfl, Nat.le_of_ble_eq_true rfl⟩ (Nat.le_of_ble_eq_true rfl) dX7_law_36) fun v2 h1 => ?_
    exact r_lret F hA rfl rfl trivial dX7_law_39
  refine r_tsc F (tgt := 32) 1 1 dX7_law_1 rfl (by decide) (by decide) (by decide) ?_ fun n1 => ?_
  · skip
    refine r_aload_n F 0 rfl dX7_law_32 rfl ?_
    refine r_iload_n F 1 rfl dX7_law_33 rfl ?_
    refine r_iload_n F 2 rfl dX7_law_34 rfl ?_
    refine r_iload_n F 3 rfl dX7_law_35 rfl ?_
    refine k_lH (run_V F cvX7_198 (by decide) (c_X7_croftLaw (xG X) _ N h p1 p2 p3) rfl rfl ⟨⟨rfl, rfl⟩, Nat.le_of_ble_eq_true rfl, Nat.le_of_ble_eq_true rfl⟩ (Nat.le_of_ble_eq_true rfl) dX7_law_36) fun v4 h3 => ?_
    exact r_lret F hA rfl rfl trivial dX7_law_39
  refine r_tsc F (tgt := 40) 2 2 dX7_law_1 rfl (by decide) (by decide) (by decide) ?_ fun n2 => ?_
  · skip
    refine r_aload_n F 0 rfl dX7_law_40 rfl ?_
    refine r_iload_n F 2 rfl dX7_law_41 rfl ?_
    refine k_zP (run_V F cvX7_130 (by decide) (c_X7_isStripe (xG X) _ h p2) rfl rfl ⟨⟨rfl, rfl⟩, Nat.le_of_ble_eq_true rfl, Nat.le_of_ble_eq_true rfl⟩ (Nat.le_of_ble_eq_true rfl) dX7_law_42) fun v5 _ => ?_
    refine r_ifne F (tgt := 52) dX7_law_45 (by decide) ?_ ?_
    · skip
      refine r_aload_n F 0 rfl dX7_law_52 rfl ?_
      refine r_getS F frX7_72 (by decide) 1 rfl dX7_law_53 ?_
      refine r_aload_n F 0 rfl dX7_law_56 rfl ?_
      refine r_getS F frX7_72 (by decide) 1 rfl dX7_law_57 ?_
      refine r_getA F frX7_146 (by decide) dX7_law_60 ?_
      refine r_iload_n F 2 rfl dX7_law_63 rfl ?_
      refine r_iaload F (ar_3_0 1 (by decide)) dX7_law_64 ?_
      refine r_iconst F (v := (-1)) dX7_law_65 (by decide) ?_
      refine k_vH (run_V F cvX7_206 (by decide) (c_X3_namePlace (xG X) _ h 1 (by decide) (gA h 3 1 0 p2.toNatClampNeg) (-1)) rfl rfl ⟨⟨rfl, rfl⟩, Nat.le_of_ble_eq_true rfl, Nat.le_of_ble_eq_true rfl⟩ (Nat.le_of_ble_eq_true rfl) dX7_law_66) fun h6 => ?_
      refine r_aload_n F 0 rfl dX7_law_69 rfl ?_
      refine r_getO F frX7_56 (by decide) dX7_law_70 fun o7 hp_o7 => ?_
      refine r_getS F frX7_210 hp_o7 o7 rfl dX7_law_73 ?_
      refine r_iconst F (v := 2) dX7_law_76 (by decide) ?_
      refine k_lH (run_V F cvX7_214 hp_o7 (c_X0_value (xG X) _ N h6 o7 hp_o7 2) rfl rfl ⟨⟨rfl, rfl⟩, Nat.le_of_ble_eq_true rfl, Nat.le_of_ble_eq_true rfl⟩ (Nat.le_of_ble_eq_true rfl) dX7_law_77) fun v9 h8 => ?_
      exact r_lret F hA rfl rfl trivial dX7_law_80
    refine r_ldc2 F wd_869 dX7_law_48 ?_
    exact r_lret F hA rfl rfl trivial dX7_law_51
  refine r_tsc F (tgt := 81) 3 3 dX7_law_1 rfl (by decide) (by decide) (by decide) ?_ fun n3 => ?_
  · skip
    refine r_aload_n F 0 rfl dX7_law_81 rfl ?_
    refine r_iload_n F 2 rfl dX7_law_82 rfl ?_
    refine k_zP (run_V F cvX7_176 (by decide) (c_X7_isField (xG X) _ h p2) rfl rfl ⟨⟨rfl, rfl⟩, Nat.le_of_ble_eq_true rfl, Nat.le_of_ble_eq_true rfl⟩ (Nat.le_of_ble_eq_true rfl) dX7_law_83) fun v10 _ => ?_
    refine r_ifne F (tgt := 93) dX7_law_86 (by decide) ?_ ?_
    · skip
      refine r_aload_n F 0 rfl dX7_law_93 rfl ?_
      refine r_getS F frX7_72 (by decide) 1 rfl dX7_law_94 ?_
      refine r_iload_n F 2 rfl dX7_law_97 rfl ?_
      refine k_vH (run_V F cvX7_218 (by decide) (c_X3_nameField (xG X) _ h 1 (by decide) p2) rfl rfl ⟨⟨rfl, rfl⟩, Nat.le_of_ble_eq_true rfl, Nat.le_of_ble_eq_true rfl⟩ (Nat.le_of_ble_eq_true rfl) dX7_law_98) fun h11 => ?_
      refine r_aload_n F 0 rfl dX7_law_101 rfl ?_
      refine r_getO F frX7_56 (by decide) dX7_law_102 fun o12 hp_o12 => ?_
      refine r_getS F frX7_210 hp_o12 o12 rfl dX7_law_105 ?_
      refine r_iconst F (v := 3) dX7_law_108 (by decide) ?_
      refine k_lH (run_V F cvX7_214 hp_o12 (c_X0_value (xG X) _ N h11 o12 hp_o12 3) rfl rfl ⟨⟨rfl, rfl⟩, Nat.le_of_ble_eq_true rfl, Nat.le_of_ble_eq_true rfl⟩ (Nat.le_of_ble_eq_true rfl) dX7_law_109) fun v14 h13 => ?_
      exact r_lret F hA rfl rfl trivial dX7_law_112
    refine r_ldc2 F wd_869 dX7_law_89 ?_
    exact r_lret F hA rfl rfl trivial dX7_law_92
  refine r_tsd F (tgt := 113) dX7_law_1 (by have e0 := lv_neT n0 (a := 0) (by decide); have e1 := lv_neT n1 (a := 1) (by decide); have e2 := lv_neT n2 (a := 2) (by decide); have e3 := lv_neT n3 (a := 3) (by decide); omega) (by decide) ?_
  refine r_ldc2 F wd_869 dX7_law_113 ?_
  exact r_lret F hA rfl rfl trivial dX7_law_116
theorem c_X7_law (G : Gx) (l : Launch) (N : Nat) (h : Hp) (p1 : Int32) (p2 : Int32) (p3 : Int32) : Ctr G l yX7_law (.code yX7_law cX7_law 4 (some .long) :: GT) rmX7_law [.ref (adr G 7 0 0), .int p1, .int p2, .int p3] h (f_X7_law N h p1 p2 p3) (fun v => some (.long v.1)) (fun v => v.2) (fun _ => True) :=
  ctr_of (by decide) (Nat.le_of_ble_eq_true rfl) ⟨rfl, rfl⟩ fun X _ e2 hA hL F => by subst e2; exact w_X7_law X F hA hL N h p1 p2 p3
def f_X7_act (h : Hp) (p1 : Int32) (p2 : Int32) : Option (Bool × Hp) :=
  (f_X7_isCroft h p1).bind fun v1 =>
  jn (
    some (false, h)) fun (j30 : Option (Bool × Hp)) =>
  if (b2i v1) = 0 then
    j30
  else
  if p2 < 0 then
    j30
  else
  if 3 < p2 then
    j30
  else
  grd (inb p1 4) <|
  if ¬ (gA h 3 1 5 p1.toNatClampNeg) = p2 then
    grd (inb p1 4) <|
    (f_X6_add h 0 p1 (gA h 3 1 5 p1.toNatClampNeg)).bind fun h2 =>
    grd (inb p1 4) <| lt_ (sA h2 3 1 5 p1.toNatClampNeg p2) fun h3 =>
    some (true, h3)
  else
  j30
abbrev rmX7_act : Room := { frames := 2, cells := 0, slots := 0, locals := 41 }
set_option maxRecDepth 100000 in
set_option maxHeartbeats 4000000 in
theorem w_X7_act (X : Cx) (F : Fx X cX7_act RX7 (some .boolean) rmX7_act) (hA : xA X = Aw (xG X)) (hL : xL X = 3) (h : Hp) (p1 : Int32) (p2 : Int32) : Wm X (fun v => some (.int (b2i v.1))) (fun v => v.2) (fun _ => True) 0 [(0, .ref (adr (xG X) 7 0 0)), (1, .int p1), (2, .int p2)] [] h (f_X7_act h p1 p2) := by
  have hS : ∀ i : Nat, i < 3 → i < xL X := fun i z => by rw [hL]; exact z
  unfold f_X7_act
  refine r_aload_n F 0 rfl dX7_act_0 rfl ?_
  refine r_iload_n F 1 rfl dX7_act_1 rfl ?_
  refine k_zP (run_V F cvX7_152 (by decide) (c_X7_isCroft (xG X) _ h p1) rfl rfl ⟨⟨rfl, rfl⟩, Nat.le_of_ble_eq_true rfl, Nat.le_of_ble_eq_true rfl⟩ (Nat.le_of_ble_eq_true rfl) dX7_act_2) fun v1 _ => ?_
  refine Wt_jn (fun (j30 : Option (Bool × Hp)) => Wm X (fun v => some (.int (b2i v.1))) (fun v => v.2) (fun _ => True) 30 [] [] h (j30)) ?_ fun j30 hj30 => ?_
  · skip
    refine r_iconst F (v := 0) dX7_act_30 (by decide) ?_
    exact r_zret F hA false rfl rfl rfl trivial dX7_act_31
  refine r_ifeq F (tgt := 30) dX7_act_5 (by decide) ?_ ?_
  · skip
    exact Wt_pick [] rfl (hj30)
  refine r_iload_n F 2 rfl dX7_act_8 rfl ?_
  refine r_iflt F (tgt := 30) dX7_act_9 (by decide) ?_ ?_
  · skip
    exact Wt_pick [] rfl (hj30)
  refine r_iload_n F 2 rfl dX7_act_12 rfl ?_
  refine r_iconst F (v := 3) dX7_act_13 (by decide) ?_
  refine r_icmpgt F (tgt := 30) dX7_act_14 (by decide) ?_ ?_
  · skip
    exact Wt_pick [] rfl (hj30)
  refine r_aload_n F 0 rfl dX7_act_17 rfl ?_
  refine r_getS F frX7_72 (by decide) 1 rfl dX7_act_18 ?_
  refine r_getA F frX7_164 (by decide) dX7_act_21 ?_
  refine r_iload_n F 1 rfl dX7_act_24 rfl ?_
  refine r_iaload F (ar_3_5 1 (by decide)) dX7_act_25 ?_
  refine r_iload_n F 2 rfl dX7_act_26 rfl ?_
  refine r_icmpne F (tgt := 32) dX7_act_27 (by decide) ?_ ?_
  · skip
    refine r_aload_n F 0 rfl dX7_act_32 rfl ?_
    refine r_getS F frX7_33 (by decide) 0 rfl dX7_act_33 ?_
    refine r_iconst F (v := 0) dX7_act_36 (by decide) ?_
    refine r_iload_n F 1 rfl dX7_act_37 rfl ?_
    refine r_aload_n F 0 rfl dX7_act_38 rfl ?_
    refine r_getS F frX7_72 (by decide) 1 rfl dX7_act_39 ?_
    refine r_getA F frX7_164 (by decide) dX7_act_42 ?_
    refine r_iload_n F 1 rfl dX7_act_45 rfl ?_
    refine r_iaload F (ar_3_5 1 (by decide)) dX7_act_46 ?_
    refine k_vH (run_V F cvX7_224 (by decide) (c_X6_add (xG X) _ h 0 p1 (gA h 3 1 5 p1.toNatClampNeg)) rfl rfl ⟨⟨rfl, rfl⟩, Nat.le_of_ble_eq_true rfl, Nat.le_of_ble_eq_true rfl⟩ (Nat.le_of_ble_eq_true rfl) dX7_act_47) fun h2 => ?_
    refine r_aload_n F 0 rfl dX7_act_50 rfl ?_
    refine r_getS F frX7_72 (by decide) 1 rfl dX7_act_51 ?_
    refine r_getA F frX7_164 (by decide) dX7_act_54 ?_
    refine r_iload_n F 1 rfl dX7_act_57 rfl ?_
    refine r_iload_n F 2 rfl dX7_act_58 rfl ?_
    refine r_iastore F (ar_3_5 1 (by decide)) dX7_act_59 fun h3 => ?_
    refine r_iconst F (v := 1) dX7_act_60 (by decide) ?_
    exact r_zret F hA true rfl rfl rfl trivial dX7_act_61
  exact Wt_pick [] rfl (hj30)
theorem c_X7_act (G : Gx) (l : Launch) (h : Hp) (p1 : Int32) (p2 : Int32) : Ctr G l yX7_act (.code yX7_act cX7_act 3 (some .boolean) :: GT) rmX7_act [.ref (adr G 7 0 0), .int p1, .int p2] h (f_X7_act h p1 p2) (fun v => some (.int (b2i v.1))) (fun v => v.2) (fun _ => True) :=
  ctr_of (by decide) (Nat.le_of_ble_eq_true rfl) ⟨rfl, rfl⟩ fun X _ e2 hA hL F => by subst e2; exact w_X7_act X F hA hL h p1 p2
def f_X7_isRule (p0 : Int32) : Option Bool :=
  jn (fun (v1 : Bool) =>
    some v1) fun (j14 : Bool → Option Bool) =>
  jn (
    j14 false) fun (j13 : Option Bool) =>
  if p0 < 0 then
    j13
  else
  if 2 < p0 then
    j13
  else
  j14 true
abbrev rmX7_isRule : Room := { frames := 0, cells := 0, slots := 0, locals := 0 }
set_option maxRecDepth 100000 in
set_option maxHeartbeats 4000000 in
theorem w_X7_isRule (X : Cx) (F : Fx X cX7_isRule RX7 (some .boolean) rmX7_isRule) (hA : xA X = Aw (xG X)) (hL : xL X = 1) (h : Hp) (p0 : Int32) : Wm X (fun v => some (.int (b2i v))) (fun _ => h) (fun _ => True) 0 [(0, .int p0)] [] h (f_X7_isRule p0) := by
  have hS : ∀ i : Nat, i < 1 → i < xL X := fun i z => by rw [hL]; exact z
  unfold f_X7_isRule
  refine r_iload_n F 0 rfl dX7_isRule_0 rfl ?_
  refine Wt_jn (fun (j14 : Bool → Option Bool) => ∀ v1 : Bool, Wm X (fun v => some (.int (b2i v))) (fun _ => h) (fun _ => True) 14 [] [.int (b2i v1)] h (j14 v1)) ?_ fun j14 hj14 => ?_
  · intro v1
    exact r_zret F hA v1 rfl rfl rfl trivial dX7_isRule_14
  refine Wt_jn (fun (j13 : Option Bool) => Wm X (fun v => some (.int (b2i v))) (fun _ => h) (fun _ => True) 13 [] [] h (j13)) ?_ fun j13 hj13 => ?_
  · skip
    refine r_iconst F (v := 0) dX7_isRule_13 (by decide) ?_
    exact Wt_pick [] rfl (hj14 false)
  refine r_iflt F (tgt := 13) dX7_isRule_1 (by decide) ?_ ?_
  · skip
    exact Wt_pick [] rfl (hj13)
  refine r_iload_n F 0 rfl dX7_isRule_4 rfl ?_
  refine r_iconst F (v := 2) dX7_isRule_5 (by decide) ?_
  refine r_icmpgt F (tgt := 13) dX7_isRule_6 (by decide) ?_ ?_
  · skip
    exact Wt_pick [] rfl (hj13)
  refine r_iconst F (v := 1) dX7_isRule_9 (by decide) ?_
  refine r_goto F (tgt := 14) dX7_isRule_10 (by decide) ?_
  exact Wt_pick [] rfl (hj14 true)
theorem c_X7_isRule (G : Gx) (l : Launch) (h : Hp) (p0 : Int32) : Ctr G l yX7_isRule (.code yX7_isRule cX7_isRule 1 (some .boolean) :: GT) rmX7_isRule [.int p0] h (f_X7_isRule p0) (fun v => some (.int (b2i v))) (fun _ => h) (fun _ => True) :=
  ctr_of (by decide) (Nat.le_of_ble_eq_true rfl) ⟨rfl, rfl⟩ fun X _ e2 hA hL F => by subst e2; exact w_X7_isRule X F hA hL h p0
def f_X7_rule (h : Hp) (p1 : Int32) : Option (Bool × Hp) :=
  (f_X7_isRule p1).bind fun v1 =>
  jn (
    some (false, h)) fun (j18 : Option (Bool × Hp)) =>
  if (b2i v1) = 0 then
    j18
  else
  if ¬ (gI h 3 1 14) = p1 then
    (f_X6_add h 1 0 (gI h 3 1 14)).bind fun h2 =>
    lt_ (sI h2 3 1 14 p1) fun h3 =>
    some (true, h3)
  else
  j18
abbrev rmX7_rule : Room := { frames := 2, cells := 0, slots := 0, locals := 41 }
set_option maxRecDepth 100000 in
set_option maxHeartbeats 4000000 in
theorem w_X7_rule (X : Cx) (F : Fx X cX7_rule RX7 (some .boolean) rmX7_rule) (hA : xA X = Aw (xG X)) (hL : xL X = 2) (h : Hp) (p1 : Int32) : Wm X (fun v => some (.int (b2i v.1))) (fun v => v.2) (fun _ => True) 0 [(0, .ref (adr (xG X) 7 0 0)), (1, .int p1)] [] h (f_X7_rule h p1) := by
  have hS : ∀ i : Nat, i < 2 → i < xL X := fun i z => by rw [hL]; exact z
  unfold f_X7_rule
  refine r_iload_n F 1 rfl dX7_rule_0 rfl ?_
  refine k_zP (run_S F csX7_228 (c_X7_isRule (xG X) _ h p1) rfl rfl ⟨⟨rfl, rfl⟩, Nat.le_of_ble_eq_true rfl, Nat.le_of_ble_eq_true rfl⟩ (Nat.le_of_ble_eq_true rfl) dX7_rule_1) fun v1 _ => ?_
  refine Wt_jn (fun (j18 : Option (Bool × Hp)) => Wm X (fun v => some (.int (b2i v.1))) (fun v => v.2) (fun _ => True) 18 [] [] h (j18)) ?_ fun j18 hj18 => ?_
  · skip
    refine r_iconst F (v := 0) dX7_rule_18 (by decide) ?_
    exact r_zret F hA false rfl rfl rfl trivial dX7_rule_19
  refine r_ifeq F (tgt := 18) dX7_rule_4 (by decide) ?_ ?_
  · skip
    exact Wt_pick [] rfl (hj18)
  refine r_aload_n F 0 rfl dX7_rule_7 rfl ?_
  refine r_getS F frX7_72 (by decide) 1 rfl dX7_rule_8 ?_
  refine r_getI F frX7_231 (by decide) dX7_rule_11 ?_
  refine r_iload_n F 1 rfl dX7_rule_14 rfl ?_
  refine r_icmpne F (tgt := 20) dX7_rule_15 (by decide) ?_ ?_
  · skip
    refine r_aload_n F 0 rfl dX7_rule_20 rfl ?_
    refine r_getS F frX7_33 (by decide) 0 rfl dX7_rule_21 ?_
    refine r_iconst F (v := 1) dX7_rule_24 (by decide) ?_
    refine r_iconst F (v := 0) dX7_rule_25 (by decide) ?_
    refine r_aload_n F 0 rfl dX7_rule_26 rfl ?_
    refine r_getS F frX7_72 (by decide) 1 rfl dX7_rule_27 ?_
    refine r_getI F frX7_231 (by decide) dX7_rule_30 ?_
    refine k_vH (run_V F cvX7_224 (by decide) (c_X6_add (xG X) _ h 1 0 (gI h 3 1 14)) rfl rfl ⟨⟨rfl, rfl⟩, Nat.le_of_ble_eq_true rfl, Nat.le_of_ble_eq_true rfl⟩ (Nat.le_of_ble_eq_true rfl) dX7_rule_33) fun h2 => ?_
    refine r_aload_n F 0 rfl dX7_rule_36 rfl ?_
    refine r_getS F frX7_72 (by decide) 1 rfl dX7_rule_37 ?_
    refine r_iload_n F 1 rfl dX7_rule_40 rfl ?_
    refine r_putI F frX7_231 (by decide) rfl rfl dX7_rule_41 fun h3 => ?_
    refine r_iconst F (v := 1) dX7_rule_44 (by decide) ?_
    exact r_zret F hA true rfl rfl rfl trivial dX7_rule_45
  exact Wt_pick [] rfl (hj18)
theorem c_X7_rule (G : Gx) (l : Launch) (h : Hp) (p1 : Int32) : Ctr G l yX7_rule (.code yX7_rule cX7_rule 2 (some .boolean) :: GT) rmX7_rule [.ref (adr G 7 0 0), .int p1] h (f_X7_rule h p1) (fun v => some (.int (b2i v.1))) (fun v => v.2) (fun _ => True) :=
  ctr_of (by decide) (Nat.le_of_ble_eq_true rfl) ⟨rfl, rfl⟩ fun X _ e2 hA hL F => by subst e2; exact w_X7_rule X F hA hL h p1
def f_X7_lot (h : Hp) (p1 : Int32) (p2 : Int32) : Option (Bool × Hp) :=
  (f_X7_isStripe h p1).bind fun v1 =>
  jn (
    some (false, h)) fun (j29 : Option (Bool × Hp)) =>
  if (b2i v1) = 0 then
    j29
  else
  (f_X7_isCroft h p2).bind fun v2 =>
  if (b2i v2) = 0 then
    j29
  else
  grd (inb p1 8) <|
  if ¬ (gA h 3 1 1 p1.toNatClampNeg) = p2 then
    grd (inb p1 8) <|
    (f_X6_add h 2 p1 (gA h 3 1 1 p1.toNatClampNeg)).bind fun h3 =>
    grd (inb p1 8) <| lt_ (sA h3 3 1 1 p1.toNatClampNeg p2) fun h4 =>
    some (true, h4)
  else
  j29
abbrev rmX7_lot : Room := { frames := 2, cells := 0, slots := 0, locals := 41 }
set_option maxRecDepth 100000 in
set_option maxHeartbeats 4000000 in
theorem w_X7_lot (X : Cx) (F : Fx X cX7_lot RX7 (some .boolean) rmX7_lot) (hA : xA X = Aw (xG X)) (hL : xL X = 3) (h : Hp) (p1 : Int32) (p2 : Int32) : Wm X (fun v => some (.int (b2i v.1))) (fun v => v.2) (fun _ => True) 0 [(0, .ref (adr (xG X) 7 0 0)), (1, .int p1), (2, .int p2)] [] h (f_X7_lot h p1 p2) := by
  have hS : ∀ i : Nat, i < 3 → i < xL X := fun i z => by rw [hL]; exact z
  unfold f_X7_lot
  refine r_aload_n F 0 rfl dX7_lot_0 rfl ?_
  refine r_iload_n F 1 rfl dX7_lot_1 rfl ?_
  refine k_zP (run_V F cvX7_130 (by decide) (c_X7_isStripe (xG X) _ h p1) rfl rfl ⟨⟨rfl, rfl⟩, Nat.le_of_ble_eq_true rfl, Nat.le_of_ble_eq_true rfl⟩ (Nat.le_of_ble_eq_true rfl) dX7_lot_2) fun v1 _ => ?_
  refine Wt_jn (fun (j29 : Option (Bool × Hp)) => Wm X (fun v => some (.int (b2i v.1))) (fun v => v.2) (fun _ => True) 29 [] [] h (j29)) ?_ fun j29 hj29 => ?_
  · skip
    refine r_iconst F (v := 0) dX7_lot_29 (by decide) ?_
    exact r_zret F hA false rfl rfl rfl trivial dX7_lot_30
  refine r_ifeq F (tgt := 29) dX7_lot_5 (by decide) ?_ ?_
  · skip
    exact Wt_pick [] rfl (hj29)
  refine r_aload_n F 0 rfl dX7_lot_8 rfl ?_
  refine r_iload_n F 2 rfl dX7_lot_9 rfl ?_
  refine k_zP (run_V F cvX7_152 (by decide) (c_X7_isCroft (xG X) _ h p2) rfl rfl ⟨⟨rfl, rfl⟩, Nat.le_of_ble_eq_true rfl, Nat.le_of_ble_eq_true rfl⟩ (Nat.le_of_ble_eq_true rfl) dX7_lot_10) fun v2 _ => ?_
  refine r_ifeq F (tgt := 29) dX7_lot_13 (by decide) ?_ ?_
  · skip
    exact Wt_pick [] rfl (hj29)
  refine r_aload_n F 0 rfl dX7_lot_16 rfl ?_
  refine r_getS F frX7_72 (by decide) 1 rfl dX7_lot_17 ?_
  refine r_getA F frX7_149 (by decide) dX7_lot_20 ?_
  refine r_iload_n F 1 rfl dX7_lot_23 rfl ?_
  refine r_iaload F (ar_3_1 1 (by decide)) dX7_lot_24 ?_
  refine r_iload_n F 2 rfl dX7_lot_25 rfl ?_
  refine r_icmpne F (tgt := 31) dX7_lot_26 (by decide) ?_ ?_
  · skip
    refine r_aload_n F 0 rfl dX7_lot_31 rfl ?_
    refine r_getS F frX7_33 (by decide) 0 rfl dX7_lot_32 ?_
    refine r_iconst F (v := 2) dX7_lot_35 (by decide) ?_
    refine r_iload_n F 1 rfl dX7_lot_36 rfl ?_
    refine r_aload_n F 0 rfl dX7_lot_37 rfl ?_
    refine r_getS F frX7_72 (by decide) 1 rfl dX7_lot_38 ?_
    refine r_getA F frX7_149 (by decide) dX7_lot_41 ?_
    refine r_iload_n F 1 rfl dX7_lot_44 rfl ?_
    refine r_iaload F (ar_3_1 1 (by decide)) dX7_lot_45 ?_
    refine k_vH (run_V F cvX7_224 (by decide) (c_X6_add (xG X) _ h 2 p1 (gA h 3 1 1 p1.toNatClampNeg)) rfl rfl ⟨⟨rfl, rfl⟩, Nat.le_of_ble_eq_true rfl, Nat.le_of_ble_eq_true rfl⟩ (Nat.le_of_ble_eq_true rfl) dX7_lot_46) fun h3 => ?_
    refine r_aload_n F 0 rfl dX7_lot_49 rfl ?_
    refine r_getS F frX7_72 (by decide) 1 rfl dX7_lot_50 ?_
    refine r_getA F frX7_149 (by decide) dX7_lot_53 ?_
    refine r_iload_n F 1 rfl dX7_lot_56 rfl ?_
    refine r_iload_n F 2 rfl dX7_lot_57 rfl ?_
    refine r_iastore F (ar_3_1 1 (by decide)) dX7_lot_58 fun h4 => ?_
    refine r_iconst F (v := 1) dX7_lot_59 (by decide) ?_
    exact r_zret F hA true rfl rfl rfl trivial dX7_lot_60
  exact Wt_pick [] rfl (hj29)
theorem c_X7_lot (G : Gx) (l : Launch) (h : Hp) (p1 : Int32) (p2 : Int32) : Ctr G l yX7_lot (.code yX7_lot cX7_lot 3 (some .boolean) :: GT) rmX7_lot [.ref (adr G 7 0 0), .int p1, .int p2] h (f_X7_lot h p1 p2) (fun v => some (.int (b2i v.1))) (fun v => v.2) (fun _ => True) :=
  ctr_of (by decide) (Nat.le_of_ble_eq_true rfl) ⟨rfl, rfl⟩ fun X _ e2 hA hL F => by subst e2; exact w_X7_lot X F hA hL h p1 p2
def f_X7_canLend (h : Hp) (p1 : Int32) (p2 : Int32) : Option Bool :=
  (f_X7_isCroft h p1).bind fun v1 =>
  jn (fun (v2 : Bool) =>
    some v2) fun (j51 : Bool → Option Bool) =>
  jn (
    j51 false) fun (j50 : Option Bool) =>
  if (b2i v1) = 0 then
    j50
  else
  (f_X7_isCroft h p2).bind fun v3 =>
  if (b2i v3) = 0 then
    j50
  else
  if p1 = p2 then
    j50
  else
  grd (inb p1 4) <|
  if (gA h 3 1 2 p1.toNatClampNeg) ≤ 0 then
    j50
  else
  grd (inb p2 4) <|
  if 5 ≤ (gA h 3 1 2 p2.toNatClampNeg) then
    j50
  else
  j51 true
abbrev rmX7_canLend : Room := { frames := 1, cells := 0, slots := 0, locals := 21 }
set_option maxRecDepth 100000 in
set_option maxHeartbeats 4000000 in
theorem w_X7_canLend (X : Cx) (F : Fx X cX7_canLend RX7 (some .boolean) rmX7_canLend) (hA : xA X = Aw (xG X)) (hL : xL X = 3) (h : Hp) (p1 : Int32) (p2 : Int32) : Wm X (fun v => some (.int (b2i v))) (fun _ => h) (fun _ => True) 0 [(0, .ref (adr (xG X) 7 0 0)), (1, .int p1), (2, .int p2)] [] h (f_X7_canLend h p1 p2) := by
  have hS : ∀ i : Nat, i < 3 → i < xL X := fun i z => by rw [hL]; exact z
  unfold f_X7_canLend
  refine r_aload_n F 0 rfl dX7_canLend_0 rfl ?_
  refine r_iload_n F 1 rfl dX7_canLend_1 rfl ?_
  refine k_zP (run_V F cvX7_152 (by decide) (c_X7_isCroft (xG X) _ h p1) rfl rfl ⟨⟨rfl, rfl⟩, Nat.le_of_ble_eq_true rfl, Nat.le_of_ble_eq_true rfl⟩ (Nat.le_of_ble_eq_true rfl) dX7_canLend_2) fun v1 _ => ?_
  refine Wt_jn (fun (j51 : Bool → Option Bool) => ∀ v2 : Bool, Wm X (fun v => some (.int (b2i v))) (fun _ => h) (fun _ => True) 51 [] [.int (b2i v2)] h (j51 v2)) ?_ fun j51 hj51 => ?_
  · intro v2
    exact r_zret F hA v2 rfl rfl rfl trivial dX7_canLend_51
  refine Wt_jn (fun (j50 : Option Bool) => Wm X (fun v => some (.int (b2i v))) (fun _ => h) (fun _ => True) 50 [] [] h (j50)) ?_ fun j50 hj50 => ?_
  · skip
    refine r_iconst F (v := 0) dX7_canLend_50 (by decide) ?_
    exact Wt_pick [] rfl (hj51 false)
  refine r_ifeq F (tgt := 50) dX7_canLend_5 (by decide) ?_ ?_
  · skip
    exact Wt_pick [] rfl (hj50)
  refine r_aload_n F 0 rfl dX7_canLend_8 rfl ?_
  refine r_iload_n F 2 rfl dX7_canLend_9 rfl ?_
  refine k_zP (run_V F cvX7_152 (by decide) (c_X7_isCroft (xG X) _ h p2) rfl rfl ⟨⟨rfl, rfl⟩, Nat.le_of_ble_eq_true rfl, Nat.le_of_ble_eq_true rfl⟩ (Nat.le_of_ble_eq_true rfl) dX7_canLend_10) fun v3 _ => ?_
  refine r_ifeq F (tgt := 50) dX7_canLend_13 (by decide) ?_ ?_
  · skip
    exact Wt_pick [] rfl (hj50)
  refine r_iload_n F 1 rfl dX7_canLend_16 rfl ?_
  refine r_iload_n F 2 rfl dX7_canLend_17 rfl ?_
  refine r_icmpeq F (tgt := 50) dX7_canLend_18 (by decide) ?_ ?_
  · skip
    exact Wt_pick [] rfl (hj50)
  refine r_aload_n F 0 rfl dX7_canLend_21 rfl ?_
  refine r_getS F frX7_72 (by decide) 1 rfl dX7_canLend_22 ?_
  refine r_getA F frX7_155 (by decide) dX7_canLend_25 ?_
  refine r_iload_n F 1 rfl dX7_canLend_28 rfl ?_
  refine r_iaload F (ar_3_2 1 (by decide)) dX7_canLend_29 ?_
  refine r_ifle F (tgt := 50) dX7_canLend_30 (by decide) ?_ ?_
  · skip
    exact Wt_pick [] rfl (hj50)
  refine r_aload_n F 0 rfl dX7_canLend_33 rfl ?_
  refine r_getS F frX7_72 (by decide) 1 rfl dX7_canLend_34 ?_
  refine r_getA F frX7_155 (by decide) dX7_canLend_37 ?_
  refine r_iload_n F 2 rfl dX7_canLend_40 rfl ?_
  refine r_iaload F (ar_3_2 1 (by decide)) dX7_canLend_41 ?_
  refine r_iconst F (v := 5) dX7_canLend_42 (by decide) ?_
  refine r_icmpge F (tgt := 50) dX7_canLend_43 (by decide) ?_ ?_
  · skip
    exact Wt_pick [] rfl (hj50)
  refine r_iconst F (v := 1) dX7_canLend_46 (by decide) ?_
  refine r_goto F (tgt := 51) dX7_canLend_47 (by decide) ?_
  exact Wt_pick [] rfl (hj51 true)
theorem c_X7_canLend (G : Gx) (l : Launch) (h : Hp) (p1 : Int32) (p2 : Int32) : Ctr G l yX7_canLend (.code yX7_canLend cX7_canLend 3 (some .boolean) :: GT) rmX7_canLend [.ref (adr G 7 0 0), .int p1, .int p2] h (f_X7_canLend h p1 p2) (fun v => some (.int (b2i v))) (fun _ => h) (fun _ => True) :=
  ctr_of (by decide) (Nat.le_of_ble_eq_true rfl) ⟨rfl, rfl⟩ fun X _ e2 hA hL F => by subst e2; exact w_X7_canLend X F hA hL h p1 p2
def f_X7_lend (h : Hp) (p1 : Int32) (p2 : Int32) : Option (Bool × Hp) :=
  (f_X7_canLend h p1 p2).bind fun v1 =>
  if ¬ (b2i v1) = 0 then
    (f_X6_add h 3 p1 p2).bind fun h2 =>
    (f_X3_moveCart h2 1 p1 p2).bind fun h3 =>
    some (true, h3)
  else
  some (false, h)
abbrev rmX7_lend : Room := { frames := 2, cells := 0, slots := 0, locals := 43 }
set_option maxRecDepth 100000 in
set_option maxHeartbeats 4000000 in
theorem w_X7_lend (X : Cx) (F : Fx X cX7_lend RX7 (some .boolean) rmX7_lend) (hA : xA X = Aw (xG X)) (hL : xL X = 3) (h : Hp) (p1 : Int32) (p2 : Int32) : Wm X (fun v => some (.int (b2i v.1))) (fun v => v.2) (fun _ => True) 0 [(0, .ref (adr (xG X) 7 0 0)), (1, .int p1), (2, .int p2)] [] h (f_X7_lend h p1 p2) := by
  have hS : ∀ i : Nat, i < 3 → i < xL X := fun i z => by rw [hL]; exact z
  unfold f_X7_lend
  refine r_aload_n F 0 rfl dX7_lend_0 rfl ?_
  refine r_iload_n F 1 rfl dX7_lend_1 rfl ?_
  refine r_iload_n F 2 rfl dX7_lend_2 rfl ?_
  refine k_zP (run_V F cvX7_234 (by decide) (c_X7_canLend (xG X) _ h p1 p2) rfl rfl ⟨⟨rfl, rfl⟩, Nat.le_of_ble_eq_true rfl, Nat.le_of_ble_eq_true rfl⟩ (Nat.le_of_ble_eq_true rfl) dX7_lend_3) fun v1 _ => ?_
  refine r_ifne F (tgt := 11) dX7_lend_6 (by decide) ?_ ?_
  · skip
    refine r_aload_n F 0 rfl dX7_lend_11 rfl ?_
    refine r_getS F frX7_33 (by decide) 0 rfl dX7_lend_12 ?_
    refine r_iconst F (v := 3) dX7_lend_15 (by decide) ?_
    refine r_iload_n F 1 rfl dX7_lend_16 rfl ?_
    refine r_iload_n F 2 rfl dX7_lend_17 rfl ?_
    refine k_vH (run_V F cvX7_224 (by decide) (c_X6_add (xG X) _ h 3 p1 p2) rfl rfl ⟨⟨rfl, rfl⟩, Nat.le_of_ble_eq_true rfl, Nat.le_of_ble_eq_true rfl⟩ (Nat.le_of_ble_eq_true rfl) dX7_lend_18) fun h2 => ?_
    refine r_aload_n F 0 rfl dX7_lend_21 rfl ?_
    refine r_getS F frX7_72 (by decide) 1 rfl dX7_lend_22 ?_
    refine r_iload_n F 1 rfl dX7_lend_25 rfl ?_
    refine r_iload_n F 2 rfl dX7_lend_26 rfl ?_
    refine k_vH (run_V F cvX7_238 (by decide) (c_X3_moveCart (xG X) _ h2 1 (by decide) p1 p2) rfl rfl ⟨⟨rfl, rfl⟩, Nat.le_of_ble_eq_true rfl, Nat.le_of_ble_eq_true rfl⟩ (Nat.le_of_ble_eq_true rfl) dX7_lend_27) fun h3 => ?_
    refine r_iconst F (v := 1) dX7_lend_30 (by decide) ?_
    exact r_zret F hA true rfl rfl rfl trivial dX7_lend_31
  refine r_iconst F (v := 0) dX7_lend_9 (by decide) ?_
  exact r_zret F hA false rfl rfl rfl trivial dX7_lend_10
theorem c_X7_lend (G : Gx) (l : Launch) (h : Hp) (p1 : Int32) (p2 : Int32) : Ctr G l yX7_lend (.code yX7_lend cX7_lend 3 (some .boolean) :: GT) rmX7_lend [.ref (adr G 7 0 0), .int p1, .int p2] h (f_X7_lend h p1 p2) (fun v => some (.int (b2i v.1))) (fun v => v.2) (fun _ => True) :=
  ctr_of (by decide) (Nat.le_of_ble_eq_true rfl) ⟨rfl, rfl⟩ fun X _ e2 hA hL F => by subst e2; exact w_X7_lend X F hA hL h p1 p2
def f_X7_go (N : Nat) (h : Hp) (p1 : Int32) : Option (Int32 × Hp) :=
  jn (
    some ((-1), h)) fun (j25 : Option (Int32 × Hp)) =>
  if p1 < 0 then
    j25
  else
  if 99 < p1 then
    j25
  else
  if ((gI h 3 1 11) + p1) ≤ 9999 then
    jn (fun (h1 : Hp) =>
      (f_X3_passHoursWithGales N h1 1 p1).bind fun h2 =>
      some ((gI h2 3 1 11), h2)) fun (j39 : Hp → Option (Int32 × Hp)) =>
    if p1 ≤ 0 then
      j39 h
    else
    lt_ (sI h 6 0 3 0) fun h3 =>
    j39 h3
  else
  j25
abbrev rmX7_go : Room := { frames := 6, cells := 0, slots := 0, locals := 148 }
set_option maxRecDepth 100000 in
set_option maxHeartbeats 4000000 in
theorem w_X7_go (X : Cx) (F : Fx X cX7_go RX7 (some .int) rmX7_go) (hA : xA X = Aw (xG X)) (hL : xL X = 2) (N : Nat) (h : Hp) (p1 : Int32) : Wm X (fun v => some (.int v.1)) (fun v => v.2) (fun _ => True) 0 [(0, .ref (adr (xG X) 7 0 0)), (1, .int p1)] [] h (f_X7_go N h p1) := by
  have hS : ∀ i : Nat, i < 2 → i < xL X := fun i z => by rw [hL]; exact z
  unfold f_X7_go
  refine r_iload_n F 1 rfl dX7_go_0 rfl ?_
  refine Wt_jn (fun (j25 : Option (Int32 × Hp)) => Wm X (fun v => some (.int v.1)) (fun v => v.2) (fun _ => True) 25 [] [] h (j25)) ?_ fun j25 hj25 => ?_
  · skip
    refine r_iconst F (v := (-1)) dX7_go_25 (by decide) ?_
    exact r_iret F hA rfl rfl trivial dX7_go_26
  refine r_iflt F (tgt := 25) dX7_go_1 (by decide) ?_ ?_
  · skip
    exact Wt_pick [] rfl (hj25)
  refine r_iload_n F 1 rfl dX7_go_4 rfl ?_
  refine r_bipush F (v := 99) dX7_go_5 (by decide) ?_
  refine r_icmpgt F (tgt := 25) dX7_go_7 (by decide) ?_ ?_
  · skip
    exact Wt_pick [] rfl (hj25)
  refine r_aload_n F 0 rfl dX7_go_10 rfl ?_
  refine r_getS F frX7_72 (by decide) 1 rfl dX7_go_11 ?_
  refine r_getI F frX7_241 (by decide) dX7_go_14 ?_
  refine r_iload_n F 1 rfl dX7_go_17 rfl ?_
  refine r_iadd F dX7_go_18 ?_
  refine r_sipush F (v := 9999) dX7_go_19 (by decide) ?_
  refine r_icmple F (tgt := 27) dX7_go_22 (by decide) ?_ ?_
  · skip
    refine r_iload_n F 1 rfl dX7_go_27 rfl ?_
    refine Wt_jn (fun (j39 : Hp → Option (Int32 × Hp)) => ∀ h1 : Hp, Wm X (fun v => some (.int v.1)) (fun v => v.2) (fun _ => True) 39 [(0, .ref (adr (xG X) 7 0 0)), (1, .int p1)] [] h1 (j39 h1)) ?_ fun j39 hj39 => ?_
    · intro h1
      refine r_aload_n F 0 rfl dX7_go_39 rfl ?_
      refine r_getS F frX7_72 (by decide) 1 rfl dX7_go_40 ?_
      refine r_iload_n F 1 rfl dX7_go_43 rfl ?_
      refine k_vH (run_V F cvX7_244 (by decide) (c_X3_passHoursWithGales (xG X) _ N h1 1 (by decide) p1) rfl rfl ⟨⟨rfl, rfl⟩, Nat.le_of_ble_eq_true rfl, Nat.le_of_ble_eq_true rfl⟩ (Nat.le_of_ble_eq_true rfl) dX7_go_44) fun h2 => ?_
      refine r_aload_n F 0 rfl dX7_go_47 rfl ?_
      refine r_getS F frX7_72 (by decide) 1 rfl dX7_go_48 ?_
      refine r_getI F frX7_241 (by decide) dX7_go_51 ?_
      exact r_iret F hA rfl rfl trivial dX7_go_54
    refine r_ifle F (tgt := 39) dX7_go_28 (by decide) ?_ ?_
    · skip
      exact Wt_pick [0, 1] rfl (hj39 h)
    refine r_aload_n F 0 rfl dX7_go_31 rfl ?_
    refine r_getS F frX7_33 (by decide) 0 rfl dX7_go_32 ?_
    refine r_iconst F (v := 0) dX7_go_35 (by decide) ?_
    refine r_putI F frX7_117 (by decide) rfl rfl dX7_go_36 fun h3 => ?_
    exact Wt_pick [0, 1] rfl (hj39 h3)
  exact Wt_pick [] rfl (hj25)
theorem c_X7_go (G : Gx) (l : Launch) (N : Nat) (h : Hp) (p1 : Int32) : Ctr G l yX7_go (.code yX7_go cX7_go 2 (some .int) :: GT) rmX7_go [.ref (adr G 7 0 0), .int p1] h (f_X7_go N h p1) (fun v => some (.int v.1)) (fun v => v.2) (fun _ => True) :=
  ctr_of (by decide) (Nat.le_of_ble_eq_true rfl) ⟨rfl, rfl⟩ fun X _ e2 hA hL F => by subst e2; exact w_X7_go X F hA hL N h p1
def f_X7_isIn (p0 : Int32) (p1 : Int32) (p2 : Int32) : Option Bool :=
  jn (fun (v1 : Bool) =>
    some v1) fun (j15 : Bool → Option Bool) =>
  jn (
    j15 false) fun (j14 : Option Bool) =>
  if p0 < p1 then
    j14
  else
  if p2 < p0 then
    j14
  else
  j15 true
abbrev rmX7_isIn : Room := { frames := 0, cells := 0, slots := 0, locals := 0 }
set_option maxRecDepth 100000 in
set_option maxHeartbeats 4000000 in
theorem w_X7_isIn (X : Cx) (F : Fx X cX7_isIn RX7 (some .boolean) rmX7_isIn) (hA : xA X = Aw (xG X)) (hL : xL X = 3) (h : Hp) (p0 : Int32) (p1 : Int32) (p2 : Int32) : Wm X (fun v => some (.int (b2i v))) (fun _ => h) (fun _ => True) 0 [(0, .int p0), (1, .int p1), (2, .int p2)] [] h (f_X7_isIn p0 p1 p2) := by
  have hS : ∀ i : Nat, i < 3 → i < xL X := fun i z => by rw [hL]; exact z
  unfold f_X7_isIn
  refine r_iload_n F 0 rfl dX7_isIn_0 rfl ?_
  refine r_iload_n F 1 rfl dX7_isIn_1 rfl ?_
  refine Wt_jn (fun (j15 : Bool → Option Bool) => ∀ v1 : Bool, Wm X (fun v => some (.int (b2i v))) (fun _ => h) (fun _ => True) 15 [] [.int (b2i v1)] h (j15 v1)) ?_ fun j15 hj15 => ?_
  · intro v1
    exact r_zret F hA v1 rfl rfl rfl trivial dX7_isIn_15
  refine Wt_jn (fun (j14 : Option Bool) => Wm X (fun v => some (.int (b2i v))) (fun _ => h) (fun _ => True) 14 [] [] h (j14)) ?_ fun j14 hj14 => ?_
  · skip
    refine r_iconst F (v := 0) dX7_isIn_14 (by decide) ?_
    exact Wt_pick [] rfl (hj15 false)
  refine r_icmplt F (tgt := 14) dX7_isIn_2 (by decide) ?_ ?_
  · skip
    exact Wt_pick [] rfl (hj14)
  refine r_iload_n F 0 rfl dX7_isIn_5 rfl ?_
  refine r_iload_n F 2 rfl dX7_isIn_6 rfl ?_
  refine r_icmpgt F (tgt := 14) dX7_isIn_7 (by decide) ?_ ?_
  · skip
    exact Wt_pick [] rfl (hj14)
  refine r_iconst F (v := 1) dX7_isIn_10 (by decide) ?_
  refine r_goto F (tgt := 15) dX7_isIn_11 (by decide) ?_
  exact Wt_pick [] rfl (hj15 true)
theorem c_X7_isIn (G : Gx) (l : Launch) (h : Hp) (p0 : Int32) (p1 : Int32) (p2 : Int32) : Ctr G l yX7_isIn (.code yX7_isIn cX7_isIn 3 (some .boolean) :: GT) rmX7_isIn [.int p0, .int p1, .int p2] h (f_X7_isIn p0 p1 p2) (fun v => some (.int (b2i v))) (fun _ => h) (fun _ => True) :=
  ctr_of (by decide) (Nat.le_of_ble_eq_true rfl) ⟨rfl, rfl⟩ fun X _ e2 hA hL F => by subst e2; exact w_X7_isIn X F hA hL h p0 p1 p2
def f_X7_ruledBy_23 (N : Nat) (p2 : Int32) (o1 : Nat) (r23 : Int32 → Hp → Option (Nat × Hp)) (v4 : Int32) (h5 : Hp) : Option (Nat × Hp) :=
  if 4 ≤ v4 then
    (f_X3_passHours N h5 o1 p2).bind fun h6 =>
    some (o1, h6)
  else
  grd (inb v4 4) <| lt_ (sA h5 3 o1 5 v4.toNatClampNeg 0) fun h7 =>
  lt_ (v4 + 1) fun v8 =>
  r23 v8 h7
def f_X7_ruledBy (N : Nat) (h : Hp) (p1 : Int32) (p2 : Int32) : Option (Nat × Hp) :=
  grd (inb 0 7) <| lt_ (3 + (0 : Int32).toNatClampNeg) fun o1 =>
  (f_X3_copy h o1 1).bind fun h2 =>
  lt_ (sI h2 3 o1 14 p1) fun h3 =>
  iter (fun _ _ => none) (f_X7_ruledBy_23 N p2 o1) N 0 h3
abbrev rmX7_ruledBy : Room := { frames := 6, cells := 0, slots := 0, locals := 148 }
set_option maxRecDepth 100000 in
set_option maxHeartbeats 4000000 in
theorem w_X7_ruledBy (X : Cx) (F : Fx X cX7_ruledBy RX7 (some (.object "WeedStrand$Strand")) rmX7_ruledBy) (hA : xA X = Aw (xG X)) (hL : xL X = 5) (N : Nat) (h : Hp) (p1 : Int32) (p2 : Int32) : Wm X (fun v => some (.ref (adr (xG X) 3 v.1 0))) (fun v => v.2) (fun v => v.1 < cnt 3) 0 [(0, .ref (adr (xG X) 7 0 0)), (1, .int p1), (2, .int p2)] [] h (f_X7_ruledBy N h p1 p2) := by
  have hS : ∀ i : Nat, i < 5 → i < xL X := fun i z => by rw [hL]; exact z
  unfold f_X7_ruledBy
  refine r_aload_n F 0 rfl dX7_ruledBy_0 rfl ?_
  refine r_getA F frX7_78 (by decide) dX7_ruledBy_1 ?_
  refine r_iconst F (v := 0) dX7_ruledBy_4 (by decide) ?_
  refine r_aaload F dX7_ruledBy_5 fun o1 hp_o1 => ?_
  refine r_astore_n F [(3, .ref (adr (xG X) 3 o1 0)), (0, .ref (adr (xG X) 7 0 0)), (1, .int p1), (2, .int p2)] rfl dX7_ruledBy_6 rfl (hS _ (by decide)) ?_
  refine r_aload_n F 0 rfl dX7_ruledBy_7 rfl ?_
  refine r_aload_n F 1 rfl dX7_ruledBy_8 rfl ?_
  refine r_getS F frX7_72 (by decide) 1 rfl dX7_ruledBy_9 ?_
  refine k_vH (run_V F cvX7_109 hp_o1 (c_X3_copy (xG X) _ h o1 hp_o1 1 (by decide)) rfl rfl ⟨⟨rfl, rfl⟩, Nat.le_of_ble_eq_true rfl, Nat.le_of_ble_eq_true rfl⟩ (Nat.le_of_ble_eq_true rfl) dX7_ruledBy_12) fun h2 => ?_
  refine r_aload_n F 0 rfl dX7_ruledBy_15 rfl ?_
  refine r_iload_n F 2 rfl dX7_ruledBy_16 rfl ?_
  refine r_putI F frX7_231 hp_o1 rfl rfl dX7_ruledBy_17 fun h3 => ?_
  refine r_iconst F (v := 0) dX7_ruledBy_20 (by decide) ?_
  refine r_istore F [(4, .int 0), (3, .ref (adr (xG X) 3 o1 0)), (0, .ref (adr (xG X) 7 0 0)), (1, .int p1), (2, .int p2)] rfl dX7_ruledBy_21 (hS _ (by decide)) ?_
  have hl23 : ∀ n : Nat, ∀ v4 : Int32, ∀ h5 : Hp, Wm X (fun v => some (.ref (adr (xG X) 3 v.1 0))) (fun v => v.2) (fun v => v.1 < cnt 3) 23 [(2, .int p2), (3, .ref (adr (xG X) 3 o1 0)), (4, .int v4)] [] h5 (iter (fun _ _ => none) (f_X7_ruledBy_23 N p2 o1) n v4 h5) := by
    intro n
    induction n with
    | zero => intro v4 h5; exact Wt_none
    | succ n ih =>
      revert ih
      show (∀ v4 : Int32, ∀ h5 : Hp, Wm X (fun v => some (.ref (adr (xG X) 3 v.1 0))) (fun v => v.2) (fun v => v.1 < cnt 3) 23 [(2, .int p2), (3, .ref (adr (xG X) 3 o1 0)), (4, .int v4)] [] h5 (iter (fun _ _ => none) (f_X7_ruledBy_23 N p2 o1) n v4 h5)) → _
      intro ih23 v4 h5
      show Wm X (fun v => some (.ref (adr (xG X) 3 v.1 0))) (fun v => v.2) (fun v => v.1 < cnt 3) 23 [(2, .int p2), (3, .ref (adr (xG X) 3 o1 0)), (4, .int v4)] [] h5 (f_X7_ruledBy_23 N p2 o1 (iter (fun _ _ => none) (f_X7_ruledBy_23 N p2 o1) n) v4 h5)
      revert ih23
      generalize iter (fun _ _ => none) (f_X7_ruledBy_23 N p2 o1) n = r23
      intro ih23
      unfold f_X7_ruledBy_23
      refine r_iload F 2 rfl dX7_ruledBy_23 ?_
      refine r_aload_n F 1 rfl dX7_ruledBy_25 rfl ?_
      refine r_getA F frX7_164 hp_o1 dX7_ruledBy_26 ?_
      refine r_alen0 F (v := 4) (ar_3_5 o1 hp_o1) (by decide) dX7_ruledBy_29 ?_
      refine r_icmpge F (tgt := 47) dX7_ruledBy_30 (by decide) ?_ ?_
      · skip
        refine r_aload_n F 1 rfl dX7_ruledBy_47 rfl ?_
        refine r_iload_n F 0 rfl dX7_ruledBy_48 rfl ?_
        refine k_vH (run_V F cvX7_265 hp_o1 (c_X3_passHours (xG X) _ N h5 o1 hp_o1 p2) rfl rfl ⟨⟨rfl, rfl⟩, Nat.le_of_ble_eq_true rfl, Nat.le_of_ble_eq_true rfl⟩ (Nat.le_of_ble_eq_true rfl) dX7_ruledBy_49) fun h6 => ?_
        refine r_aload_n F 1 rfl dX7_ruledBy_52 rfl ?_
        exact r_aret F hA rfl rfl rfl hp_o1 dX7_ruledBy_53
      refine r_aload_n F 1 rfl dX7_ruledBy_33 rfl ?_
      refine r_getA F frX7_164 hp_o1 dX7_ruledBy_34 ?_
      refine r_iload F 2 rfl dX7_ruledBy_37 ?_
      refine r_iconst F (v := 0) dX7_ruledBy_39 (by decide) ?_
      refine r_iastore F (ar_3_5 o1 hp_o1) dX7_ruledBy_40 fun h7 => ?_
      refine r_iinc F (v := 1) 2 rfl (by decide) (fun v8 => [(4, .int v8), (2, .int p2), (3, .ref (adr (xG X) 3 o1 0))]) (fun _ => rfl) dX7_ruledBy_41 (hS _ (by decide)) fun v8 => ?_
      refine r_goto F (tgt := 23) dX7_ruledBy_44 (by decide) ?_
      exact Wt_pick [1, 2, 0] rfl (ih23 v8 h7)
  exact Wt_pick [4, 1, 0] rfl (hl23 N 0 h3)
theorem c_X7_ruledBy (G : Gx) (l : Launch) (N : Nat) (h : Hp) (p1 : Int32) (p2 : Int32) : Ctr G l yX7_ruledBy (.code yX7_ruledBy cX7_ruledBy 5 (some (.object "WeedStrand$Strand")) :: GT) rmX7_ruledBy [.ref (adr G 7 0 0), .int p1, .int p2] h (f_X7_ruledBy N h p1 p2) (fun v => some (.ref (adr G 3 v.1 0))) (fun v => v.2) (fun v => v.1 < cnt 3) :=
  ctr_of (by decide) (Nat.le_of_ble_eq_true rfl) ⟨rfl, rfl⟩ fun X _ e2 hA hL F => by subst e2; exact w_X7_ruledBy X F hA hL N h p1 p2
