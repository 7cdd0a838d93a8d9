theorem dX1_takeOnce_0 : decode cX1_takeOnce 0 = .ok (.iconst 1, 1) := by decide +kernel
theorem dX1_takeOnce_1 : decode cX1_takeOnce 1 = .ok (.aload_n 0, 1) := by decide +kernel
theorem dX1_takeOnce_2 : decode cX1_takeOnce 2 = .ok (.getfield 21, 3) := by decide +kernel
theorem dX1_takeOnce_5 : decode cX1_takeOnce 5 = .ok (.getfield 53, 3) := by decide +kernel
theorem dX1_takeOnce_8 : decode cX1_takeOnce 8 = .ok (.sipush 256, 3) := by decide +kernel
theorem dX1_takeOnce_11 : decode cX1_takeOnce 11 = .ok (.isub, 1) := by decide +kernel
theorem dX1_takeOnce_12 : decode cX1_takeOnce 12 = .ok (.ishl, 1) := by decide +kernel
theorem dX1_takeOnce_13 : decode cX1_takeOnce 13 = .ok (.istore_n 1, 1) := by decide +kernel
theorem dX1_takeOnce_14 : decode cX1_takeOnce 14 = .ok (.aload_n 0, 1) := by decide +kernel
theorem dX1_takeOnce_15 : decode cX1_takeOnce 15 = .ok (.getfield 41, 3) := by decide +kernel
theorem dX1_takeOnce_18 : decode cX1_takeOnce 18 = .ok (.iload_n 1, 1) := by decide +kernel
theorem dX1_takeOnce_19 : decode cX1_takeOnce 19 = .ok (.iand, 1) := by decide +kernel
theorem dX1_takeOnce_20 : decode cX1_takeOnce 20 = .ok (.ifCond .eq 9, 3) := by decide +kernel
theorem dX1_takeOnce_23 : decode cX1_takeOnce 23 = .ok (.aload_n 0, 1) := by decide +kernel
theorem dX1_takeOnce_24 : decode cX1_takeOnce 24 = .ok (.iconst 3, 1) := by decide +kernel
theorem dX1_takeOnce_25 : decode cX1_takeOnce 25 = .ok (.invokevirtual 93, 3) := by decide +kernel
theorem dX1_takeOnce_28 : decode cX1_takeOnce 28 = .ok (.ireturn, 1) := by decide +kernel
theorem dX1_takeOnce_29 : decode cX1_takeOnce 29 = .ok (.aload_n 0, 1) := by decide +kernel
theorem dX1_takeOnce_30 : decode cX1_takeOnce 30 = .ok (.dup, 1) := by decide +kernel
theorem dX1_takeOnce_31 : decode cX1_takeOnce 31 = .ok (.getfield 41, 3) := by decide +kernel
theorem dX1_takeOnce_34 : decode cX1_takeOnce 34 = .ok (.iload_n 1, 1) := by decide +kernel
theorem dX1_takeOnce_35 : decode cX1_takeOnce 35 = .ok (.ior, 1) := by decide +kernel
theorem dX1_takeOnce_36 : decode cX1_takeOnce 36 = .ok (.putfield 41, 3) := by decide +kernel
theorem dX1_takeOnce_39 : decode cX1_takeOnce 39 = .ok (.aload_n 0, 1) := by decide +kernel
theorem dX1_takeOnce_40 : decode cX1_takeOnce 40 = .ok (.getfield 21, 3) := by decide +kernel
theorem dX1_takeOnce_43 : decode cX1_takeOnce 43 = .ok (.invokevirtual 100, 3) := by decide +kernel
theorem dX1_takeOnce_46 : decode cX1_takeOnce 46 = .ok (.iconst 1, 1) := by decide +kernel
theorem dX1_takeOnce_47 : decode cX1_takeOnce 47 = .ok (.ireturn, 1) := by decide +kernel
theorem dX1_readHeap_0 : decode cX1_readHeap 0 = .ok (.aload_n 0, 1) := by decide +kernel
theorem dX1_readHeap_1 : decode cX1_readHeap 1 = .ok (.invokevirtual 161, 3) := by decide +kernel
theorem dX1_readHeap_4 : decode cX1_readHeap 4 = .ok (.ifCond .eq 13, 3) := by decide +kernel
theorem dX1_readHeap_7 : decode cX1_readHeap 7 = .ok (.aload_n 0, 1) := by decide +kernel
theorem dX1_readHeap_8 : decode cX1_readHeap 8 = .ok (.sipush 999, 3) := by decide +kernel
theorem dX1_readHeap_11 : decode cX1_readHeap 11 = .ok (.invokevirtual 112, 3) := by decide +kernel
theorem dX1_readHeap_14 : decode cX1_readHeap 14 = .ok (.ifCond .ne 5, 3) := by decide +kernel
theorem dX1_readHeap_17 : decode cX1_readHeap 17 = .ok (.iconst 0, 1) := by decide +kernel
theorem dX1_readHeap_18 : decode cX1_readHeap 18 = .ok (.ireturn, 1) := by decide +kernel
theorem dX1_readHeap_19 : decode cX1_readHeap 19 = .ok (.aload_n 0, 1) := by decide +kernel
theorem dX1_readHeap_20 : decode cX1_readHeap 20 = .ok (.getfield 25, 3) := by decide +kernel
theorem dX1_readHeap_23 : decode cX1_readHeap 23 = .ok (.aload_n 0, 1) := by decide +kernel
theorem dX1_readHeap_24 : decode cX1_readHeap 24 = .ok (.getfield 106, 3) := by decide +kernel
theorem dX1_readHeap_27 : decode cX1_readHeap 27 = .ok (.putfield 164, 3) := by decide +kernel
theorem dX1_readHeap_30 : decode cX1_readHeap 30 = .ok (.iconst 1, 1) := by decide +kernel
theorem dX1_readHeap_31 : decode cX1_readHeap 31 = .ok (.ireturn, 1) := by decide +kernel
theorem dX1_readRule_0 : decode cX1_readRule 0 = .ok (.aload_n 0, 1) := by decide +kernel
theorem dX1_readRule_1 : decode cX1_readRule 1 = .ok (.invokevirtual 161, 3) := by decide +kernel
theorem dX1_readRule_4 : decode cX1_readRule 4 = .ok (.ifCond .ne 5, 3) := by decide +kernel
theorem dX1_readRule_7 : decode cX1_readRule 7 = .ok (.iconst 0, 1) := by decide +kernel
theorem dX1_readRule_8 : decode cX1_readRule 8 = .ok (.ireturn, 1) := by decide +kernel
theorem dX1_readRule_9 : decode cX1_readRule 9 = .ok (.aload_n 0, 1) := by decide +kernel
theorem dX1_readRule_10 : decode cX1_readRule 10 = .ok (.getfield 21, 3) := by decide +kernel
theorem dX1_readRule_13 : decode cX1_readRule 13 = .ok (.getfield 53, 3) := by decide +kernel
theorem dX1_readRule_16 : decode cX1_readRule 16 = .ok (.sipush 265, 3) := by decide +kernel
theorem dX1_readRule_19 : decode cX1_readRule 19 = .ok (.if_icmp .lt 16, 3) := by decide +kernel
theorem dX1_readRule_22 : decode cX1_readRule 22 = .ok (.aload_n 0, 1) := by decide +kernel
theorem dX1_readRule_23 : decode cX1_readRule 23 = .ok (.getfield 21, 3) := by decide +kernel
theorem dX1_readRule_26 : decode cX1_readRule 26 = .ok (.getfield 53, 3) := by decide +kernel
theorem dX1_readRule_29 : decode cX1_readRule 29 = .ok (.sipush 267, 3) := by decide +kernel
theorem dX1_readRule_32 : decode cX1_readRule 32 = .ok (.if_icmp .le 9, 3) := by decide +kernel
theorem dX1_readRule_35 : decode cX1_readRule 35 = .ok (.aload_n 0, 1) := by decide +kernel
theorem dX1_readRule_36 : decode cX1_readRule 36 = .ok (.iconst 1, 1) := by decide +kernel
theorem dX1_readRule_37 : decode cX1_readRule 37 = .ok (.invokevirtual 93, 3) := by decide +kernel
theorem dX1_readRule_40 : decode cX1_readRule 40 = .ok (.ireturn, 1) := by decide +kernel
theorem dX1_readRule_41 : decode cX1_readRule 41 = .ok (.aload_n 0, 1) := by decide +kernel
theorem dX1_readRule_42 : decode cX1_readRule 42 = .ok (.getfield 25, 3) := by decide +kernel
theorem dX1_readRule_45 : decode cX1_readRule 45 = .ok (.aload_n 0, 1) := by decide +kernel
theorem dX1_readRule_46 : decode cX1_readRule 46 = .ok (.getfield 21, 3) := by decide +kernel
theorem dX1_readRule_49 : decode cX1_readRule 49 = .ok (.getfield 53, 3) := by decide +kernel
theorem dX1_readRule_52 : decode cX1_readRule 52 = .ok (.sipush 265, 3) := by decide +kernel
theorem dX1_readRule_55 : decode cX1_readRule 55 = .ok (.isub, 1) := by decide +kernel
theorem dX1_readRule_56 : decode cX1_readRule 56 = .ok (.putfield 167, 3) := by decide +kernel
theorem dX1_readRule_59 : decode cX1_readRule 59 = .ok (.aload_n 0, 1) := by decide +kernel
theorem dX1_readRule_60 : decode cX1_readRule 60 = .ok (.getfield 21, 3) := by decide +kernel
theorem dX1_readRule_63 : decode cX1_readRule 63 = .ok (.invokevirtual 100, 3) := by decide +kernel
theorem dX1_readRule_66 : decode cX1_readRule 66 = .ok (.iconst 1, 1) := by decide +kernel
theorem dX1_readRule_67 : decode cX1_readRule 67 = .ok (.ireturn, 1) := by decide +kernel
theorem dX1_readGale_0 : decode cX1_readGale 0 = .ok (.aload_n 0, 1) := by decide +kernel
theorem dX1_readGale_1 : decode cX1_readGale 1 = .ok (.invokevirtual 161, 3) := by decide +kernel
theorem dX1_readGale_4 : decode cX1_readGale 4 = .ok (.ifCond .eq 12, 3) := by decide +kernel
theorem dX1_readGale_7 : decode cX1_readGale 7 = .ok (.aload_n 0, 1) := by decide +kernel
theorem dX1_readGale_8 : decode cX1_readGale 8 = .ok (.bipush 100, 2) := by decide +kernel
theorem dX1_readGale_10 : decode cX1_readGale 10 = .ok (.invokevirtual 112, 3) := by decide +kernel
theorem dX1_readGale_13 : decode cX1_readGale 13 = .ok (.ifCond .ne 5, 3) := by decide +kernel
theorem dX1_readGale_16 : decode cX1_readGale 16 = .ok (.iconst 0, 1) := by decide +kernel
theorem dX1_readGale_17 : decode cX1_readGale 17 = .ok (.ireturn, 1) := by decide +kernel
theorem dX1_readGale_18 : decode cX1_readGale 18 = .ok (.aload_n 0, 1) := by decide +kernel
theorem dX1_readGale_19 : decode cX1_readGale 19 = .ok (.getfield 25, 3) := by decide +kernel
theorem dX1_readGale_22 : decode cX1_readGale 22 = .ok (.aload_n 0, 1) := by decide +kernel
theorem dX1_readGale_23 : decode cX1_readGale 23 = .ok (.getfield 106, 3) := by decide +kernel
theorem dX1_readGale_26 : decode cX1_readGale 26 = .ok (.putfield 170, 3) := by decide +kernel
theorem dX1_readGale_29 : decode cX1_readGale 29 = .ok (.aload_n 0, 1) := by decide +kernel
theorem dX1_readGale_30 : decode cX1_readGale 30 = .ok (.bipush 99, 2) := by decide +kernel
theorem dX1_readGale_32 : decode cX1_readGale 32 = .ok (.invokevirtual 112, 3) := by decide +kernel
theorem dX1_readGale_35 : decode cX1_readGale 35 = .ok (.ifCond .ne 5, 3) := by decide +kernel
theorem dX1_readGale_38 : decode cX1_readGale 38 = .ok (.iconst 0, 1) := by decide +kernel
theorem dX1_readGale_39 : decode cX1_readGale 39 = .ok (.ireturn, 1) := by decide +kernel
theorem dX1_readGale_40 : decode cX1_readGale 40 = .ok (.aload_n 0, 1) := by decide +kernel
theorem dX1_readGale_41 : decode cX1_readGale 41 = .ok (.getfield 25, 3) := by decide +kernel
theorem dX1_readGale_44 : decode cX1_readGale 44 = .ok (.aload_n 0, 1) := by decide +kernel
theorem dX1_readGale_45 : decode cX1_readGale 45 = .ok (.getfield 106, 3) := by decide +kernel
theorem dX1_readGale_48 : decode cX1_readGale 48 = .ok (.putfield 173, 3) := by decide +kernel
theorem dX1_readGale_51 : decode cX1_readGale 51 = .ok (.iconst 1, 1) := by decide +kernel
theorem dX1_readGale_52 : decode cX1_readGale 52 = .ok (.ireturn, 1) := by decide +kernel
theorem dX1_readSeed_0 : decode cX1_readSeed 0 = .ok (.aload_n 0, 1) := by decide +kernel
theorem dX1_readSeed_1 : decode cX1_readSeed 1 = .ok (.invokevirtual 161, 3) := by decide +kernel
theorem dX1_readSeed_4 : decode cX1_readSeed 4 = .ok (.ifCond .eq 12, 3) := by decide +kernel
theorem dX1_readSeed_7 : decode cX1_readSeed 7 = .ok (.aload_n 0, 1) := by decide +kernel
theorem dX1_readSeed_8 : decode cX1_readSeed 8 = .ok (.ldc 176, 2) := by decide +kernel
theorem dX1_readSeed_10 : decode cX1_readSeed 10 = .ok (.invokevirtual 112, 3) := by decide +kernel
theorem dX1_readSeed_13 : decode cX1_readSeed 13 = .ok (.ifCond .ne 5, 3) := by decide +kernel
theorem dX1_readSeed_16 : decode cX1_readSeed 16 = .ok (.iconst 0, 1) := by decide +kernel
theorem dX1_readSeed_17 : decode cX1_readSeed 17 = .ok (.ireturn, 1) := by decide +kernel
theorem dX1_readSeed_18 : decode cX1_readSeed 18 = .ok (.aload_n 0, 1) := by decide +kernel
theorem dX1_readSeed_19 : decode cX1_readSeed 19 = .ok (.getfield 25, 3) := by decide +kernel
theorem dX1_readSeed_22 : decode cX1_readSeed 22 = .ok (.aload_n 0, 1) := by decide +kernel
theorem dX1_readSeed_23 : decode cX1_readSeed 23 = .ok (.getfield 106, 3) := by decide +kernel
theorem dX1_readSeed_26 : decode cX1_readSeed 26 = .ok (.putfield 177, 3) := by decide +kernel
theorem dX1_readSeed_29 : decode cX1_readSeed 29 = .ok (.iconst 1, 1) := by decide +kernel
theorem dX1_readSeed_30 : decode cX1_readSeed 30 = .ok (.ireturn, 1) := by decide +kernel
theorem dX1_beginExpression_0 : decode cX1_beginExpression 0 = .ok (.aload_n 0, 1) := by decide +kernel
theorem dX1_beginExpression_1 : decode cX1_beginExpression 1 = .ok (.iconst 0, 1) := by decide +kernel
theorem dX1_beginExpression_2 : decode cX1_beginExpression 2 = .ok (.putfield 216, 3) := by decide +kernel
theorem dX1_beginExpression_5 : decode cX1_beginExpression 5 = .ok (.aload_n 0, 1) := by decide +kernel
theorem dX1_beginExpression_6 : decode cX1_beginExpression 6 = .ok (.iconst 0, 1) := by decide +kernel
theorem dX1_beginExpression_7 : decode cX1_beginExpression 7 = .ok (.putfield 204, 3) := by decide +kernel
theorem dX1_beginExpression_10 : decode cX1_beginExpression 10 = .ok (.aload_n 0, 1) := by decide +kernel
theorem dX1_beginExpression_11 : decode cX1_beginExpression 11 = .ok (.getfield 17, 3) := by decide +kernel
theorem dX1_beginExpression_14 : decode cX1_beginExpression 14 = .ok (.iconst 0, 1) := by decide +kernel
theorem dX1_beginExpression_15 : decode cX1_beginExpression 15 = .ok (.iconst 0, 1) := by decide +kernel
theorem dX1_beginExpression_16 : decode cX1_beginExpression 16 = .ok (.bastore, 1) := by decide +kernel
theorem dX1_beginExpression_17 : decode cX1_beginExpression 17 = .ok (.aload_n 0, 1) := by decide +kernel
theorem dX1_beginExpression_18 : decode cX1_beginExpression 18 = .ok (.iconst 1, 1) := by decide +kernel
theorem dX1_beginExpression_19 : decode cX1_beginExpression 19 = .ok (.putfield 191, 3) := by decide +kernel
theorem dX1_beginExpression_22 : decode cX1_beginExpression 22 = .ok (.aload_n 0, 1) := by decide +kernel
theorem dX1_beginExpression_23 : decode cX1_beginExpression 23 = .ok (.iconst 1, 1) := by decide +kernel
theorem dX1_beginExpression_24 : decode cX1_beginExpression 24 = .ok (.putfield 219, 3) := by decide +kernel
theorem dX1_beginExpression_27 : decode cX1_beginExpression 27 = .ok (.return_, 1) := by decide +kernel
theorem dX1_push_0 : decode cX1_push 0 = .ok (.aload_n 0, 1) := by decide +kernel
theorem dX1_push_1 : decode cX1_push 1 = .ok (.getfield 216, 3) := by decide +kernel
theorem dX1_push_4 : decode cX1_push 4 = .ok (.aload_n 0, 1) := by decide +kernel
theorem dX1_push_5 : decode cX1_push 5 = .ok (.getfield 13, 3) := by decide +kernel
theorem dX1_push_8 : decode cX1_push 8 = .ok (.arraylength, 1) := by decide +kernel
theorem dX1_push_9 : decode cX1_push 9 = .ok (.if_icmp .ge 23, 3) := by decide +kernel
theorem dX1_push_12 : decode cX1_push 12 = .ok (.aload_n 0, 1) := by decide +kernel
theorem dX1_push_13 : decode cX1_push 13 = .ok (.getfield 13, 3) := by decide +kernel
theorem dX1_push_16 : decode cX1_push 16 = .ok (.aload_n 0, 1) := by decide +kernel
theorem dX1_push_17 : decode cX1_push 17 = .ok (.getfield 216, 3) := by decide +kernel
theorem dX1_push_20 : decode cX1_push 20 = .ok (.iload_n 1, 1) := by decide +kernel
theorem dX1_push_21 : decode cX1_push 21 = .ok (.iastore, 1) := by decide +kernel
theorem dX1_push_22 : decode cX1_push 22 = .ok (.aload_n 0, 1) := by decide +kernel
theorem dX1_push_23 : decode cX1_push 23 = .ok (.dup, 1) := by decide +kernel
theorem dX1_push_24 : decode cX1_push 24 = .ok (.getfield 216, 3) := by decide +kernel
theorem dX1_push_27 : decode cX1_push 27 = .ok (.iconst 1, 1) := by decide +kernel
theorem dX1_push_28 : decode cX1_push 28 = .ok (.iadd, 1) := by decide +kernel
theorem dX1_push_29 : decode cX1_push 29 = .ok (.putfield 216, 3) := by decide +kernel
theorem dX1_push_32 : decode cX1_push 32 = .ok (.return_, 1) := by decide +kernel
theorem dX1_readOperand_0 : decode cX1_readOperand 0 = .ok (.aload_n 0, 1) := by decide +kernel
theorem dX1_readOperand_1 : decode cX1_readOperand 1 = .ok (.getfield 21, 3) := by decide +kernel
theorem dX1_readOperand_4 : decode cX1_readOperand 4 = .ok (.getfield 53, 3) := by decide +kernel
theorem dX1_readOperand_7 : decode cX1_readOperand 7 = .ok (.istore_n 1, 1) := by decide +kernel
theorem dX1_readOperand_8 : decode cX1_readOperand 8 = .ok (.iload_n 1, 1) := by decide +kernel
theorem dX1_readOperand_9 : decode cX1_readOperand 9 = .ok (.iconst 2, 1) := by decide +kernel
theorem dX1_readOperand_10 : decode cX1_readOperand 10 = .ok (.if_icmp .ne 7, 3) := by decide +kernel
theorem dX1_readOperand_13 : decode cX1_readOperand 13 = .ok (.iconst 1, 1) := by decide +kernel
theorem dX1_readOperand_14 : decode cX1_readOperand 14 = .ok (.goto 4, 3) := by decide +kernel
theorem dX1_readOperand_17 : decode cX1_readOperand 17 = .ok (.iconst 0, 1) := by decide +kernel
theorem dX1_readOperand_18 : decode cX1_readOperand 18 = .ok (.istore_n 2, 1) := by decide +kernel
theorem dX1_readOperand_19 : decode cX1_readOperand 19 = .ok (.iload_n 2, 1) := by decide +kernel
theorem dX1_readOperand_20 : decode cX1_readOperand 20 = .ok (.ifCond .ne 17, 3) := by decide +kernel
theorem dX1_readOperand_23 : decode cX1_readOperand 23 = .ok (.iload_n 1, 1) := by decide +kernel
theorem dX1_readOperand_24 : decode cX1_readOperand 24 = .ok (.sipush 272, 3) := by decide +kernel
theorem dX1_readOperand_27 : decode cX1_readOperand 27 = .ok (.if_icmp .lt 78, 3) := by decide +kernel
theorem dX1_readOperand_30 : decode cX1_readOperand 30 = .ok (.iload_n 1, 1) := by decide +kernel
theorem dX1_readOperand_31 : decode cX1_readOperand 31 = .ok (.sipush 278, 3) := by decide +kernel
theorem dX1_readOperand_34 : decode cX1_readOperand 34 = .ok (.if_icmp .gt 71, 3) := by decide +kernel
theorem dX1_readOperand_37 : decode cX1_readOperand 37 = .ok (.iload_n 2, 1) := by decide +kernel
theorem dX1_readOperand_38 : decode cX1_readOperand 38 = .ok (.ifCond .eq 16, 3) := by decide +kernel
theorem dX1_readOperand_41 : decode cX1_readOperand 41 = .ok (.aload_n 0, 1) := by decide +kernel
theorem dX1_readOperand_42 : decode cX1_readOperand 42 = .ok (.getfield 21, 3) := by decide +kernel
theorem dX1_readOperand_45 : decode cX1_readOperand 45 = .ok (.getfield 103, 3) := by decide +kernel
theorem dX1_readOperand_48 : decode cX1_readOperand 48 = .ok (.sipush 9999, 3) := by decide +kernel
theorem dX1_readOperand_51 : decode cX1_readOperand 51 = .ok (.if_icmp .gt 12, 3) := by decide +kernel
theorem dX1_readOperand_54 : decode cX1_readOperand 54 = .ok (.aload_n 0, 1) := by decide +kernel
theorem dX1_readOperand_55 : decode cX1_readOperand 55 = .ok (.getfield 44, 3) := by decide +kernel
theorem dX1_readOperand_58 : decode cX1_readOperand 58 = .ok (.bipush 64, 2) := by decide +kernel
theorem dX1_readOperand_60 : decode cX1_readOperand 60 = .ok (.if_icmp .lt 9, 3) := by decide +kernel
theorem dX1_readOperand_63 : decode cX1_readOperand 63 = .ok (.aload_n 0, 1) := by decide +kernel
theorem dX1_readOperand_64 : decode cX1_readOperand 64 = .ok (.iconst 2, 1) := by decide +kernel
theorem dX1_readOperand_65 : decode cX1_readOperand 65 = .ok (.invokevirtual 93, 3) := by decide +kernel
theorem dX1_readOperand_68 : decode cX1_readOperand 68 = .ok (.ireturn, 1) := by decide +kernel
theorem dX1_readOperand_69 : decode cX1_readOperand 69 = .ok (.aload_n 0, 1) := by decide +kernel
theorem dX1_readOperand_70 : decode cX1_readOperand 70 = .ok (.dup, 1) := by decide +kernel
theorem dX1_readOperand_71 : decode cX1_readOperand 71 = .ok (.getfield 44, 3) := by decide +kernel
theorem dX1_readOperand_74 : decode cX1_readOperand 74 = .ok (.iconst 1, 1) := by decide +kernel
theorem dX1_readOperand_75 : decode cX1_readOperand 75 = .ok (.iadd, 1) := by decide +kernel
theorem dX1_readOperand_76 : decode cX1_readOperand 76 = .ok (.putfield 44, 3) := by decide +kernel
theorem dX1_readOperand_79 : decode cX1_readOperand 79 = .ok (.aload_n 0, 1) := by decide +kernel
theorem dX1_readOperand_80 : decode cX1_readOperand 80 = .ok (.getfield 25, 3) := by decide +kernel
theorem dX1_readOperand_83 : decode cX1_readOperand 83 = .ok (.getfield 180, 3) := by decide +kernel
theorem dX1_readOperand_86 : decode cX1_readOperand 86 = .ok (.iload_n 1, 1) := by decide +kernel
theorem dX1_readOperand_87 : decode cX1_readOperand 87 = .ok (.aload_n 0, 1) := by decide +kernel
theorem dX1_readOperand_88 : decode cX1_readOperand 88 = .ok (.getfield 21, 3) := by decide +kernel
theorem dX1_readOperand_91 : decode cX1_readOperand 91 = .ok (.getfield 103, 3) := by decide +kernel
theorem dX1_readOperand_94 : decode cX1_readOperand 94 = .ok (.invokevirtual 222, 3) := by decide +kernel
theorem dX1_readOperand_97 : decode cX1_readOperand 97 = .ok (.aload_n 0, 1) := by decide +kernel
theorem dX1_readOperand_98 : decode cX1_readOperand 98 = .ok (.iconst 0, 1) := by decide +kernel
theorem dX1_readOperand_99 : decode cX1_readOperand 99 = .ok (.putfield 191, 3) := by decide +kernel
theorem dX1_readOperand_102 : decode cX1_readOperand 102 = .ok (.goto 110, 3) := by decide +kernel
theorem dX1_readOperand_105 : decode cX1_readOperand 105 = .ok (.iload_n 1, 1) := by decide +kernel
theorem dX1_readOperand_106 : decode cX1_readOperand 106 = .ok (.bipush 40, 2) := by decide +kernel
theorem dX1_readOperand_108 : decode cX1_readOperand 108 = .ok (.if_icmp .ne 51, 3) := by decide +kernel
theorem dX1_readOperand_111 : decode cX1_readOperand 111 = .ok (.aload_n 0, 1) := by decide +kernel
theorem dX1_readOperand_112 : decode cX1_readOperand 112 = .ok (.getfield 204, 3) := by decide +kernel
theorem dX1_readOperand_115 : decode cX1_readOperand 115 = .ok (.bipush 8, 2) := by decide +kernel
theorem dX1_readOperand_117 : decode cX1_readOperand 117 = .ok (.if_icmp .lt 9, 3) := by decide +kernel
theorem dX1_readOperand_120 : decode cX1_readOperand 120 = .ok (.aload_n 0, 1) := by decide +kernel
theorem dX1_readOperand_121 : decode cX1_readOperand 121 = .ok (.iconst 2, 1) := by decide +kernel
theorem dX1_readOperand_122 : decode cX1_readOperand 122 = .ok (.invokevirtual 93, 3) := by decide +kernel
theorem dX1_readOperand_125 : decode cX1_readOperand 125 = .ok (.ireturn, 1) := by decide +kernel
theorem dX1_readOperand_126 : decode cX1_readOperand 126 = .ok (.aload_n 0, 1) := by decide +kernel
theorem dX1_readOperand_127 : decode cX1_readOperand 127 = .ok (.iload_n 1, 1) := by decide +kernel
theorem dX1_readOperand_128 : decode cX1_readOperand 128 = .ok (.invokevirtual 226, 3) := by decide +kernel
theorem dX1_readOperand_131 : decode cX1_readOperand 131 = .ok (.aload_n 0, 1) := by decide +kernel
theorem dX1_readOperand_132 : decode cX1_readOperand 132 = .ok (.dup, 1) := by decide +kernel
theorem dX1_readOperand_133 : decode cX1_readOperand 133 = .ok (.getfield 204, 3) := by decide +kernel
theorem dX1_readOperand_136 : decode cX1_readOperand 136 = .ok (.iconst 1, 1) := by decide +kernel
theorem dX1_readOperand_137 : decode cX1_readOperand 137 = .ok (.iadd, 1) := by decide +kernel
theorem dX1_readOperand_138 : decode cX1_readOperand 138 = .ok (.putfield 204, 3) := by decide +kernel
theorem dX1_readOperand_141 : decode cX1_readOperand 141 = .ok (.aload_n 0, 1) := by decide +kernel
theorem dX1_readOperand_142 : decode cX1_readOperand 142 = .ok (.getfield 17, 3) := by decide +kernel
theorem dX1_readOperand_145 : decode cX1_readOperand 145 = .ok (.aload_n 0, 1) := by decide +kernel
theorem dX1_readOperand_146 : decode cX1_readOperand 146 = .ok (.getfield 204, 3) := by decide +kernel
theorem dX1_readOperand_149 : decode cX1_readOperand 149 = .ok (.iconst 0, 1) := by decide +kernel
theorem dX1_readOperand_150 : decode cX1_readOperand 150 = .ok (.bastore, 1) := by decide +kernel
theorem dX1_readOperand_151 : decode cX1_readOperand 151 = .ok (.aload_n 0, 1) := by decide +kernel
theorem dX1_readOperand_152 : decode cX1_readOperand 152 = .ok (.iconst 1, 1) := by decide +kernel
theorem dX1_readOperand_153 : decode cX1_readOperand 153 = .ok (.putfield 219, 3) := by decide +kernel
theorem dX1_readOperand_156 : decode cX1_readOperand 156 = .ok (.goto 56, 3) := by decide +kernel
theorem dX1_readOperand_159 : decode cX1_readOperand 159 = .ok (.iload_n 1, 1) := by decide +kernel
theorem dX1_readOperand_160 : decode cX1_readOperand 160 = .ok (.sipush 279, 3) := by decide +kernel
theorem dX1_readOperand_163 : decode cX1_readOperand 163 = .ok (.if_icmp .ne 43, 3) := by decide +kernel
theorem dX1_readOperand_166 : decode cX1_readOperand 166 = .ok (.aload_n 0, 1) := by decide +kernel
theorem dX1_readOperand_167 : decode cX1_readOperand 167 = .ok (.getfield 219, 3) := by decide +kernel
theorem dX1_readOperand_170 : decode cX1_readOperand 170 = .ok (.ifCond .eq 36, 3) := by decide +kernel
theorem dX1_readOperand_173 : decode cX1_readOperand 173 = .ok (.aload_n 0, 1) := by decide +kernel
theorem dX1_readOperand_174 : decode cX1_readOperand 174 = .ok (.getfield 44, 3) := by decide +kernel
theorem dX1_readOperand_177 : decode cX1_readOperand 177 = .ok (.bipush 64, 2) := by decide +kernel
theorem dX1_readOperand_179 : decode cX1_readOperand 179 = .ok (.if_icmp .lt 9, 3) := by decide +kernel
theorem dX1_readOperand_182 : decode cX1_readOperand 182 = .ok (.aload_n 0, 1) := by decide +kernel
theorem dX1_readOperand_183 : decode cX1_readOperand 183 = .ok (.iconst 2, 1) := by decide +kernel
theorem dX1_readOperand_184 : decode cX1_readOperand 184 = .ok (.invokevirtual 93, 3) := by decide +kernel
theorem dX1_readOperand_187 : decode cX1_readOperand 187 = .ok (.ireturn, 1) := by decide +kernel
theorem dX1_readOperand_188 : decode cX1_readOperand 188 = .ok (.aload_n 0, 1) := by decide +kernel
theorem dX1_readOperand_189 : decode cX1_readOperand 189 = .ok (.dup, 1) := by decide +kernel
theorem dX1_readOperand_190 : decode cX1_readOperand 190 = .ok (.getfield 44, 3) := by decide +kernel
theorem dX1_readOperand_193 : decode cX1_readOperand 193 = .ok (.iconst 1, 1) := by decide +kernel
theorem dX1_readOperand_194 : decode cX1_readOperand 194 = .ok (.iadd, 1) := by decide +kernel
theorem dX1_readOperand_195 : decode cX1_readOperand 195 = .ok (.putfield 44, 3) := by decide +kernel
theorem dX1_readOperand_198 : decode cX1_readOperand 198 = .ok (.aload_n 0, 1) := by decide +kernel
theorem dX1_readOperand_199 : decode cX1_readOperand 199 = .ok (.iload_n 1, 1) := by decide +kernel
theorem dX1_readOperand_200 : decode cX1_readOperand 200 = .ok (.invokevirtual 226, 3) := by decide +kernel
theorem dX1_readOperand_203 : decode cX1_readOperand 203 = .ok (.goto 9, 3) := by decide +kernel
theorem dX1_readOperand_206 : decode cX1_readOperand 206 = .ok (.aload_n 0, 1) := by decide +kernel
theorem dX1_readOperand_207 : decode cX1_readOperand 207 = .ok (.iconst 1, 1) := by decide +kernel
theorem dX1_readOperand_208 : decode cX1_readOperand 208 = .ok (.invokevirtual 93, 3) := by decide +kernel
theorem dX1_readOperand_211 : decode cX1_readOperand 211 = .ok (.ireturn, 1) := by decide +kernel
theorem dX1_readOperand_212 : decode cX1_readOperand 212 = .ok (.aload_n 0, 1) := by decide +kernel
theorem dX1_readOperand_213 : decode cX1_readOperand 213 = .ok (.getfield 21, 3) := by decide +kernel
theorem dX1_readOperand_216 : decode cX1_readOperand 216 = .ok (.invokevirtual 100, 3) := by decide +kernel
theorem dX1_readOperand_219 : decode cX1_readOperand 219 = .ok (.iconst 1, 1) := by decide +kernel
theorem dX1_readOperand_220 : decode cX1_readOperand 220 = .ok (.ireturn, 1) := by decide +kernel
theorem dX1_bindingOf_0 : decode cX1_bindingOf 0 = .ok (.iload_n 0, 1) := by decide +kernel
theorem dX1_bindingOf_1 : decode cX1_bindingOf 1 = .ok (.lookupswitch 128 #[(4, 121), (5, 121), (6, 121), (42, 125), (43, 123), (45, 123), (47, 125), (60, 121), (61, 121), (62, 121), (279, 119), (280, 117), (281, 115)], 115) := by decide +kernel
theorem dX1_bindingOf_116 : decode cX1_bindingOf 116 = .ok (.iconst 1, 1) := by decide +kernel
theorem dX1_bindingOf_117 : decode cX1_bindingOf 117 = .ok (.ireturn, 1) := by decide +kernel
theorem dX1_bindingOf_118 : decode cX1_bindingOf 118 = .ok (.iconst 2, 1) := by decide +kernel
theorem dX1_bindingOf_119 : decode cX1_bindingOf 119 = .ok (.ireturn, 1) := by decide +kernel
theorem dX1_bindingOf_120 : decode cX1_bindingOf 120 = .ok (.iconst 3, 1) := by decide +kernel
theorem dX1_bindingOf_121 : decode cX1_bindingOf 121 = .ok (.ireturn, 1) := by decide +kernel
theorem dX1_bindingOf_122 : decode cX1_bindingOf 122 = .ok (.iconst 4, 1) := by decide +kernel
theorem dX1_bindingOf_123 : decode cX1_bindingOf 123 = .ok (.ireturn, 1) := by decide +kernel
theorem dX1_bindingOf_124 : decode cX1_bindingOf 124 = .ok (.iconst 5, 1) := by decide +kernel
theorem dX1_bindingOf_125 : decode cX1_bindingOf 125 = .ok (.ireturn, 1) := by decide +kernel
theorem dX1_bindingOf_126 : decode cX1_bindingOf 126 = .ok (.bipush 6, 2) := by decide +kernel
theorem dX1_bindingOf_128 : decode cX1_bindingOf 128 = .ok (.ireturn, 1) := by decide +kernel
theorem dX1_bindingOf_129 : decode cX1_bindingOf 129 = .ok (.iconst 0, 1) := by decide +kernel
theorem dX1_bindingOf_130 : decode cX1_bindingOf 130 = .ok (.ireturn, 1) := by decide +kernel
theorem dX1_joins_0 : decode cX1_joins 0 = .ok (.iload_n 0, 1) := by decide +kernel
theorem dX1_joins_1 : decode cX1_joins 1 = .ok (.sipush 279, 3) := by decide +kernel
theorem dX1_joins_4 : decode cX1_joins 4 = .ok (.if_icmp .eq 14, 3) := by decide +kernel
theorem dX1_joins_7 : decode cX1_joins 7 = .ok (.iload_n 0, 1) := by decide +kernel
theorem dX1_joins_8 : decode cX1_joins 8 = .ok (.invokestatic 229, 3) := by decide +kernel
theorem dX1_joins_11 : decode cX1_joins 11 = .ok (.ifCond .le 7, 3) := by decide +kernel
theorem dX1_joins_14 : decode cX1_joins 14 = .ok (.iconst 1, 1) := by decide +kernel
theorem dX1_joins_15 : decode cX1_joins 15 = .ok (.goto 4, 3) := by decide +kernel
theorem dX1_joins_18 : decode cX1_joins 18 = .ok (.iconst 0, 1) := by decide +kernel
theorem dX1_joins_19 : decode cX1_joins 19 = .ok (.ireturn, 1) := by decide +kernel
theorem dX1_putWaiting_0 : decode cX1_putWaiting 0 = .ok (.aload_n 0, 1) := by decide +kernel
theorem dX1_putWaiting_1 : decode cX1_putWaiting 1 = .ok (.getfield 216, 3) := by decide +kernel
theorem dX1_putWaiting_4 : decode cX1_putWaiting 4 = .ok (.ifCond .le 54, 3) := by decide +kernel
theorem dX1_putWaiting_7 : decode cX1_putWaiting 7 = .ok (.aload_n 0, 1) := by decide +kernel
theorem dX1_putWaiting_8 : decode cX1_putWaiting 8 = .ok (.getfield 13, 3) := by decide +kernel
theorem dX1_putWaiting_11 : decode cX1_putWaiting 11 = .ok (.aload_n 0, 1) := by decide +kernel
theorem dX1_putWaiting_12 : decode cX1_putWaiting 12 = .ok (.getfield 216, 3) := by decide +kernel
theorem dX1_putWaiting_15 : decode cX1_putWaiting 15 = .ok (.iconst 1, 1) := by decide +kernel
theorem dX1_putWaiting_16 : decode cX1_putWaiting 16 = .ok (.isub, 1) := by decide +kernel
theorem dX1_putWaiting_17 : decode cX1_putWaiting 17 = .ok (.iaload, 1) := by decide +kernel
theorem dX1_putWaiting_18 : decode cX1_putWaiting 18 = .ok (.invokestatic 229, 3) := by decide +kernel
theorem dX1_putWaiting_21 : decode cX1_putWaiting 21 = .ok (.iload_n 1, 1) := by decide +kernel
theorem dX1_putWaiting_22 : decode cX1_putWaiting 22 = .ok (.if_icmp .lt 36, 3) := by decide +kernel
theorem dX1_putWaiting_25 : decode cX1_putWaiting 25 = .ok (.aload_n 0, 1) := by decide +kernel
theorem dX1_putWaiting_26 : decode cX1_putWaiting 26 = .ok (.dup, 1) := by decide +kernel
theorem dX1_putWaiting_27 : decode cX1_putWaiting 27 = .ok (.getfield 216, 3) := by decide +kernel
theorem dX1_putWaiting_30 : decode cX1_putWaiting 30 = .ok (.iconst 1, 1) := by decide +kernel
theorem dX1_putWaiting_31 : decode cX1_putWaiting 31 = .ok (.isub, 1) := by decide +kernel
theorem dX1_putWaiting_32 : decode cX1_putWaiting 32 = .ok (.putfield 216, 3) := by decide +kernel
theorem dX1_putWaiting_35 : decode cX1_putWaiting 35 = .ok (.aload_n 0, 1) := by decide +kernel
theorem dX1_putWaiting_36 : decode cX1_putWaiting 36 = .ok (.getfield 25, 3) := by decide +kernel
theorem dX1_putWaiting_39 : decode cX1_putWaiting 39 = .ok (.getfield 180, 3) := by decide +kernel
theorem dX1_putWaiting_42 : decode cX1_putWaiting 42 = .ok (.aload_n 0, 1) := by decide +kernel
theorem dX1_putWaiting_43 : decode cX1_putWaiting 43 = .ok (.getfield 13, 3) := by decide +kernel
theorem dX1_putWaiting_46 : decode cX1_putWaiting 46 = .ok (.aload_n 0, 1) := by decide +kernel
theorem dX1_putWaiting_47 : decode cX1_putWaiting 47 = .ok (.getfield 216, 3) := by decide +kernel
theorem dX1_putWaiting_50 : decode cX1_putWaiting 50 = .ok (.iaload, 1) := by decide +kernel
theorem dX1_putWaiting_51 : decode cX1_putWaiting 51 = .ok (.iconst 0, 1) := by decide +kernel
theorem dX1_putWaiting_52 : decode cX1_putWaiting 52 = .ok (.invokevirtual 222, 3) := by decide +kernel
theorem dX1_putWaiting_55 : decode cX1_putWaiting 55 = .ok (.goto (-55), 3) := by decide +kernel
theorem dX1_putWaiting_58 : decode cX1_putWaiting 58 = .ok (.return_, 1) := by decide +kernel
def f_X1_takeOnce (N : Nat) (h : Hp) : Option (Bool × Hp) :=
  onO (gO h 1 0 2) fun _ =>
  lt_ (((1 : Int32) <<< (((gI h 4 0 6) - 256) &&& 31))) fun v1 =>
  if ((gI h 1 0 7) &&& v1) = 0 then
    lt_ (sI h 1 0 7 ((gI h 1 0 7) ||| v1)) fun h2 =>
    onO (gO h2 1 0 2) fun _ =>
    (f_X4_advance N h2).bind fun h3 =>
    some (true, h3)
  else
  bd2 (f_X1_fails h 3) fun v5 h4 =>
  some (v5, h4)
abbrev rmX1_takeOnce : Room := { frames := 3, cells := 0, slots := 0, locals := 62 }
set_option maxRecDepth 100000 in
set_option maxHeartbeats 4000000 in
theorem w_X1_takeOnce (X : Cx) (F : Fx X cX1_takeOnce RX1 (some .boolean) rmX1_takeOnce) (hA : xA X = Aw (xG X)) (hL : xL X = 2) (N : Nat) (h : Hp) : Wm X (fun v => some (.int (b2i v.1))) (fun v => v.2) (fun _ => True) 0 [(0, .ref (adr (xG X) 1 0 0))] [] h (f_X1_takeOnce N h) := by
  have hS : ∀ i : Nat, i < 2 → i < xL X := fun i z => by rw [hL]; exact z
  unfold f_X1_takeOnce
  refine r_iconst F (v := 1) dX1_takeOnce_0 (by decide) ?_
  refine r_aload_n F 0 rfl dX1_takeOnce_1 rfl ?_
  refine r_getO1 F frX1_21 (by decide) rfl dX1_takeOnce_2 ?_
  refine r_getI F frX1_53 (by decide) dX1_takeOnce_5 ?_
  refine r_sipush F (v := 256) dX1_takeOnce_8 (by decide) ?_
  refine r_isub F dX1_takeOnce_11 ?_
  refine r_ishl F dX1_takeOnce_12 ?_
  refine r_nmI fun v1 => ?_
  refine r_istore_n F [(1, .int v1), (0, .ref (adr (xG X) 1 0 0))] rfl dX1_takeOnce_13 rfl (hS _ (by decide)) ?_
  refine r_aload_n F 1 rfl dX1_takeOnce_14 rfl ?_
  refine r_getI F frX1_41 (by decide) dX1_takeOnce_15 ?_
  refine r_iload_n F 0 rfl dX1_takeOnce_18 rfl ?_
  refine r_iand F dX1_takeOnce_19 ?_
  refine r_ifeq F (tgt := 29) dX1_takeOnce_20 (by decide) ?_ ?_
  · skip
    refine r_aload_n F 1 rfl dX1_takeOnce_29 rfl ?_
    refine r_dup F rfl dX1_takeOnce_30 ?_
    refine r_getI F frX1_41 (by decide) dX1_takeOnce_31 ?_
    refine r_iload_n F 0 rfl dX1_takeOnce_34 rfl ?_
    refine r_ior F dX1_takeOnce_35 ?_
    refine r_putI F frX1_41 (by decide) rfl rfl dX1_takeOnce_36 fun h2 => ?_
    refine r_aload_n F 1 rfl dX1_takeOnce_39 rfl ?_
    refine r_getO1 F frX1_21 (by decide) rfl dX1_takeOnce_40 ?_
    refine k_vH (run_V F cvX1_100 (by decide) (c_X4_advance (xG X) _ N h2) rfl rfl ⟨⟨rfl, rfl⟩, Nat.le_of_ble_eq_true rfl, Nat.le_of_ble_eq_true rfl⟩ (Nat.le_of_ble_eq_true rfl) dX1_takeOnce_43) fun h3 => ?_
    refine r_iconst F (v := 1) dX1_takeOnce_46 (by decide) ?_
    exact r_zret F hA true rfl rfl rfl trivial dX1_takeOnce_47
  refine r_aload_n F 1 rfl dX1_takeOnce_23 rfl ?_
  refine r_iconst F (v := 3) dX1_takeOnce_24 (by decide) ?_
  refine k_zH (run_V F cvX1_93 (by decide) (c_X1_fails (xG X) _ h 3) rfl rfl ⟨⟨rfl, rfl⟩, Nat.le_of_ble_eq_true rfl, Nat.le_of_ble_eq_true rfl⟩ (Nat.le_of_ble_eq_true rfl) dX1_takeOnce_25) fun v5 h4 => ?_
  exact r_zret F hA v5 rfl rfl rfl trivial dX1_takeOnce_28
theorem c_X1_takeOnce (G : Gx) (l : Launch) (N : Nat) (h : Hp) : Ctr G l yX1_takeOnce (.code yX1_takeOnce cX1_takeOnce 2 (some .boolean) :: GT) rmX1_takeOnce [.ref (adr G 1 0 0)] h (f_X1_takeOnce N h) (fun v => some (.int (b2i v.1))) (fun v => v.2) (fun _ => True) :=
  ctr_of (by decide) (Nat.le_of_ble_eq_true rfl) ⟨rfl, rfl⟩ fun X _ e2 hA hL F => by subst e2; exact w_X1_takeOnce X F hA hL N h
def f_X1_readHeap (N : Nat) (h : Hp) : Option (Bool × Hp) :=
  bd2 (f_X1_takeOnce N h) fun v2 h1 =>
  jn (fun (h3 : Hp) =>
    some (false, h3)) fun (j17 : Hp → Option (Bool × Hp)) =>
  if (b2i v2) = 0 then
    j17 h1
  else
  bd2 (f_X1_takeNumber N h1 999) fun v5 h4 =>
  if ¬ (b2i v5) = 0 then
    onO (gO h4 1 0 3) fun o6 =>
    lt_ (sI h4 5 o6 15 (gI h4 1 0 6)) fun h7 =>
    some (true, h7)
  else
  j17 h4
abbrev rmX1_readHeap : Room := { frames := 4, cells := 0, slots := 0, locals := 83 }
set_option maxRecDepth 100000 in
set_option maxHeartbeats 4000000 in
theorem w_X1_readHeap (X : Cx) (F : Fx X cX1_readHeap RX1 (some .boolean) rmX1_readHeap) (hA : xA X = Aw (xG X)) (hL : xL X = 1) (N : Nat) (h : Hp) : Wm X (fun v => some (.int (b2i v.1))) (fun v => v.2) (fun _ => True) 0 [(0, .ref (adr (xG X) 1 0 0))] [] h (f_X1_readHeap N h) := by
  have hS : ∀ i : Nat, i < 1 → i < xL X := fun i z => by rw [hL]; exact z
  unfold f_X1_readHeap
  refine r_aload_n F 0 rfl dX1_readHeap_0 rfl ?_
  refine k_zH (run_V F cvX1_161 (by decide) (c_X1_takeOnce (xG X) _ N h) rfl rfl ⟨⟨rfl, rfl⟩, Nat.le_of_ble_eq_true rfl, Nat.le_of_ble_eq_true rfl⟩ (Nat.le_of_ble_eq_true rfl) dX1_readHeap_1) fun v2 h1 => ?_
  refine Wt_jn (fun (j17 : Hp → Option (Bool × Hp)) => ∀ h3 : Hp, Wm X (fun v => some (.int (b2i v.1))) (fun v => v.2) (fun _ => True) 17 [] [] h3 (j17 h3)) ?_ fun j17 hj17 => ?_
  · intro h3
    refine r_iconst F (v := 0) dX1_readHeap_17 (by decide) ?_
    exact r_zret F hA false rfl rfl rfl trivial dX1_readHeap_18
  refine r_ifeq F (tgt := 17) dX1_readHeap_4 (by decide) ?_ ?_
  · skip
    exact Wt_pick [] rfl (hj17 h1)
  refine r_aload_n F 0 rfl dX1_readHeap_7 rfl ?_
  refine r_sipush F (v := 999) dX1_readHeap_8 (by decide) ?_
  refine k_zH (run_V F cvX1_112 (by decide) (c_X1_takeNumber (xG X) _ N h1 999) rfl rfl ⟨⟨rfl, rfl⟩, Nat.le_of_ble_eq_true rfl, Nat.le_of_ble_eq_true rfl⟩ (Nat.le_of_ble_eq_true rfl) dX1_readHeap_11) fun v5 h4 => ?_
  refine r_ifne F (tgt := 19) dX1_readHeap_14 (by decide) ?_ ?_
  · skip
    refine r_aload_n F 0 rfl dX1_readHeap_19 rfl ?_
    refine r_getO F frX1_25 (by decide) dX1_readHeap_20 fun o6 hp_o6 => ?_
    refine r_aload_n F 0 rfl dX1_readHeap_23 rfl ?_
    refine r_getI F frX1_106 (by decide) dX1_readHeap_24 ?_
    refine r_putI F frX1_164 hp_o6 rfl rfl dX1_readHeap_27 fun h7 => ?_
    refine r_iconst F (v := 1) dX1_readHeap_30 (by decide) ?_
    exact r_zret F hA true rfl rfl rfl trivial dX1_readHeap_31
  exact Wt_pick [] rfl (hj17 h4)
theorem c_X1_readHeap (G : Gx) (l : Launch) (N : Nat) (h : Hp) : Ctr G l yX1_readHeap (.code yX1_readHeap cX1_readHeap 1 (some .boolean) :: GT) rmX1_readHeap [.ref (adr G 1 0 0)] h (f_X1_readHeap N h) (fun v => some (.int (b2i v.1))) (fun v => v.2) (fun _ => True) :=
  ctr_of (by decide) (Nat.le_of_ble_eq_true rfl) ⟨rfl, rfl⟩ fun X _ e2 hA hL F => by subst e2; exact w_X1_readHeap X F hA hL N h
def f_X1_readRule (N : Nat) (h : Hp) : Option (Bool × Hp) :=
  bd2 (f_X1_takeOnce N h) fun v2 h1 =>
  if ¬ (b2i v2) = 0 then
    onO (gO h1 1 0 2) fun _ =>
    jn (
      bd2 (f_X1_fails h1 1) fun v4 h3 =>
      some (v4, h3)) fun (j35 : Option (Bool × Hp)) =>
    if (gI h1 4 0 6) < 265 then
      j35
    else
    onO (gO h1 1 0 2) fun _ =>
    if (gI h1 4 0 6) ≤ 267 then
      onO (gO h1 1 0 3) fun o5 =>
      onO (gO h1 1 0 2) fun _ =>
      lt_ (sI h1 5 o5 16 ((gI h1 4 0 6) - 265)) fun h6 =>
      onO (gO h6 1 0 2) fun _ =>
      (f_X4_advance N h6).bind fun h7 =>
      some (true, h7)
    else
    j35
  else
  some (false, h1)
abbrev rmX1_readRule : Room := { frames := 4, cells := 0, slots := 0, locals := 83 }
set_option maxRecDepth 100000 in
set_option maxHeartbeats 4000000 in
theorem w_X1_readRule (X : Cx) (F : Fx X cX1_readRule RX1 (some .boolean) rmX1_readRule) (hA : xA X = Aw (xG X)) (hL : xL X = 1) (N : Nat) (h : Hp) : Wm X (fun v => some (.int (b2i v.1))) (fun v => v.2) (fun _ => True) 0 [(0, .ref (adr (xG X) 1 0 0))] [] h (f_X1_readRule N h) := by
  have hS : ∀ i : Nat, i < 1 → i < xL X := fun i z => by rw [hL]; exact z
  unfold f_X1_readRule
  refine r_aload_n F 0 rfl dX1_readRule_0 rfl ?_
  refine k_zH (run_V F cvX1_161 (by decide) (c_X1_takeOnce (xG X) _ N h) rfl rfl ⟨⟨rfl, rfl⟩, Nat.le_of_ble_eq_true rfl, Nat.le_of_ble_eq_true rfl⟩ (Nat.le_of_ble_eq_true rfl) dX1_readRule_1) fun v2 h1 => ?_
  refine r_ifne F (tgt := 9) dX1_readRule_4 (by decide) ?_ ?_
  · skip
    refine r_aload_n F 0 rfl dX1_readRule_9 rfl ?_
    refine r_getO1 F frX1_21 (by decide) rfl dX1_readRule_10 ?_
    refine r_getI F frX1_53 (by decide) dX1_readRule_13 ?_
    refine r_sipush F (v := 265) dX1_readRule_16 (by decide) ?_
    refine Wt_jn (fun (j35 : Option (Bool × Hp)) => Wm X (fun v => some (.int (b2i v.1))) (fun v => v.2) (fun _ => True) 35 [(0, .ref (adr (xG X) 1 0 0))] [] h1 (j35)) ?_ fun j35 hj35 => ?_
    · skip
      refine r_aload_n F 0 rfl dX1_readRule_35 rfl ?_
      refine r_iconst F (v := 1) dX1_readRule_36 (by decide) ?_
      refine k_zH (run_V F cvX1_93 (by decide) (c_X1_fails (xG X) _ h1 1) rfl rfl ⟨⟨rfl, rfl⟩, Nat.le_of_ble_eq_true rfl, Nat.le_of_ble_eq_true rfl⟩ (Nat.le_of_ble_eq_true rfl) dX1_readRule_37) fun v4 h3 => ?_
      exact r_zret F hA v4 rfl rfl rfl trivial dX1_readRule_40
    refine r_icmplt F (tgt := 35) dX1_readRule_19 (by decide) ?_ ?_
    · skip
      exact Wt_pick [0] rfl (hj35)
    refine r_aload_n F 0 rfl dX1_readRule_22 rfl ?_
    refine r_getO1 F frX1_21 (by decide) rfl dX1_readRule_23 ?_
    refine r_getI F frX1_53 (by decide) dX1_readRule_26 ?_
    refine r_sipush F (v := 267) dX1_readRule_29 (by decide) ?_
    refine r_icmple F (tgt := 41) dX1_readRule_32 (by decide) ?_ ?_
    · skip
      refine r_aload_n F 0 rfl dX1_readRule_41 rfl ?_
      refine r_getO F frX1_25 (by decide) dX1_readRule_42 fun o5 hp_o5 => ?_
      refine r_aload_n F 0 rfl dX1_readRule_45 rfl ?_
      refine r_getO1 F frX1_21 (by decide) rfl dX1_readRule_46 ?_
      refine r_getI F frX1_53 (by decide) dX1_readRule_49 ?_
      refine r_sipush F (v := 265) dX1_readRule_52 (by decide) ?_
      refine r_isub F dX1_readRule_55 ?_
      refine r_putI F frX1_167 hp_o5 rfl rfl dX1_readRule_56 fun h6 => ?_
      refine r_aload_n F 0 rfl dX1_readRule_59 rfl ?_
      refine r_getO1 F frX1_21 (by decide) rfl dX1_readRule_60 ?_
      refine k_vH (run_V F cvX1_100 (by decide) (c_X4_advance (xG X) _ N h6) rfl rfl ⟨⟨rfl, rfl⟩, Nat.le_of_ble_eq_true rfl, Nat.le_of_ble_eq_true rfl⟩ (Nat.le_of_ble_eq_true rfl) dX1_readRule_63) fun h7 => ?_
      refine r_iconst F (v := 1) dX1_readRule_66 (by decide) ?_
      exact r_zret F hA true rfl rfl rfl trivial dX1_readRule_67
    exact Wt_pick [0] rfl (hj35)
  refine r_iconst F (v := 0) dX1_readRule_7 (by decide) ?_
  exact r_zret F hA false rfl rfl rfl trivial dX1_readRule_8
theorem c_X1_readRule (G : Gx) (l : Launch) (N : Nat) (h : Hp) : Ctr G l yX1_readRule (.code yX1_readRule cX1_readRule 1 (some .boolean) :: GT) rmX1_readRule [.ref (adr G 1 0 0)] h (f_X1_readRule N h) (fun v => some (.int (b2i v.1))) (fun v => v.2) (fun _ => True) :=
  ctr_of (by decide) (Nat.le_of_ble_eq_true rfl) ⟨rfl, rfl⟩ fun X _ e2 hA hL F => by subst e2; exact w_X1_readRule X F hA hL N h
def f_X1_readGale (N : Nat) (h : Hp) : Option (Bool × Hp) :=
  bd2 (f_X1_takeOnce N h) fun v2 h1 =>
  jn (fun (h3 : Hp) =>
    some (false, h3)) fun (j16 : Hp → Option (Bool × Hp)) =>
  if (b2i v2) = 0 then
    j16 h1
  else
  bd2 (f_X1_takeNumber N h1 100) fun v5 h4 =>
  if ¬ (b2i v5) = 0 then
    onO (gO h4 1 0 3) fun o6 =>
    lt_ (sI h4 5 o6 17 (gI h4 1 0 6)) fun h7 =>
    bd2 (f_X1_takeNumber N h7 99) fun v9 h8 =>
    if ¬ (b2i v9) = 0 then
      onO (gO h8 1 0 3) fun o10 =>
      lt_ (sI h8 5 o10 18 (gI h8 1 0 6)) fun h11 =>
      some (true, h11)
    else
    some (false, h8)
  else
  j16 h4
abbrev rmX1_readGale : Room := { frames := 4, cells := 0, slots := 0, locals := 83 }
set_option maxRecDepth 100000 in
set_option maxHeartbeats 4000000 in
theorem w_X1_readGale (X : Cx) (F : Fx X cX1_readGale RX1 (some .boolean) rmX1_readGale) (hA : xA X = Aw (xG X)) (hL : xL X = 1) (N : Nat) (h : Hp) : Wm X (fun v => some (.int (b2i v.1))) (fun v => v.2) (fun _ => True) 0 [(0, .ref (adr (xG X) 1 0 0))] [] h (f_X1_readGale N h) := by
  have hS : ∀ i : Nat, i < 1 → i < xL X := fun i z => by rw [hL]; exact z
  unfold f_X1_readGale
  refine r_aload_n F 0 rfl dX1_readGale_0 rfl ?_
  refine k_zH (run_V F cvX1_161 (by decide) (c_X1_takeOnce (xG X) _ N h) rfl rfl ⟨⟨rfl, rfl⟩, Nat.le_of_ble_eq_true rfl, Nat.le_of_ble_eq_true rfl⟩ (Nat.le_of_ble_eq_true rfl) dX1_readGale_1) fun v2 h1 => ?_
  refine Wt_jn (fun (j16 : Hp → Option (Bool × Hp)) => ∀ h3 : Hp, Wm X (fun v => some (.int (b2i v.1))) (fun v => v.2) (fun _ => True) 16 [] [] h3 (j16 h3)) ?_ fun j16 hj16 => ?_
  · intro h3
    refine r_iconst F (v := 0) dX1_readGale_16 (by decide) ?_
    exact r_zret F hA false rfl rfl rfl trivial dX1_readGale_17
  refine r_ifeq F (tgt := 16) dX1_readGale_4 (by decide) ?_ ?_
  · skip
    exact Wt_pick [] rfl (hj16 h1)
  refine r_aload_n F 0 rfl dX1_readGale_7 rfl ?_
  refine r_bipush F (v := 100) dX1_readGale_8 (by decide) ?_
  refine k_zH (run_V F cvX1_112 (by decide) (c_X1_takeNumber (xG X) _ N h1 100) rfl rfl ⟨⟨rfl, rfl⟩, Nat.le_of_ble_eq_true rfl, Nat.le_of_ble_eq_true rfl⟩ (Nat.le_of_ble_eq_true rfl) dX1_readGale_10) fun v5 h4 => ?_
  refine r_ifne F (tgt := 18) dX1_readGale_13 (by decide) ?_ ?_
  · skip
    refine r_aload_n F 0 rfl dX1_readGale_18 rfl ?_
    refine r_getO F frX1_25 (by decide) dX1_readGale_19 fun o6 hp_o6 => ?_
    refine r_aload_n F 0 rfl dX1_readGale_22 rfl ?_
    refine r_getI F frX1_106 (by decide) dX1_readGale_23 ?_
    refine r_putI F frX1_170 hp_o6 rfl rfl dX1_readGale_26 fun h7 => ?_
    refine r_aload_n F 0 rfl dX1_readGale_29 rfl ?_
    refine r_bipush F (v := 99) dX1_readGale_30 (by decide) ?_
    refine k_zH (run_V F cvX1_112 (by decide) (c_X1_takeNumber (xG X) _ N h7 99) rfl rfl ⟨⟨rfl, rfl⟩, Nat.le_of_ble_eq_true rfl, Nat.le_of_ble_eq_true rfl⟩ (Nat.le_of_ble_eq_true rfl) dX1_readGale_32) fun v9 h8 => ?_
    refine r_ifne F (tgt := 40) dX1_readGale_35 (by decide) ?_ ?_
    · skip
      refine r_aload_n F 0 rfl dX1_readGale_40 rfl ?_
      refine r_getO F frX1_25 (by decide) dX1_readGale_41 fun o10 hp_o10 => ?_
      refine r_aload_n F 0 rfl dX1_readGale_44 rfl ?_
      refine r_getI F frX1_106 (by decide) dX1_readGale_45 ?_
      refine r_putI F frX1_173 hp_o10 rfl rfl dX1_readGale_48 fun h11 => ?_
      refine r_iconst F (v := 1) dX1_readGale_51 (by decide) ?_
      exact r_zret F hA true rfl rfl rfl trivial dX1_readGale_52
    refine r_iconst F (v := 0) dX1_readGale_38 (by decide) ?_
    exact r_zret F hA false rfl rfl rfl trivial dX1_readGale_39
  exact Wt_pick [] rfl (hj16 h4)
theorem c_X1_readGale (G : Gx) (l : Launch) (N : Nat) (h : Hp) : Ctr G l yX1_readGale (.code yX1_readGale cX1_readGale 1 (some .boolean) :: GT) rmX1_readGale [.ref (adr G 1 0 0)] h (f_X1_readGale N h) (fun v => some (.int (b2i v.1))) (fun v => v.2) (fun _ => True) :=
  ctr_of (by decide) (Nat.le_of_ble_eq_true rfl) ⟨rfl, rfl⟩ fun X _ e2 hA hL F => by subst e2; exact w_X1_readGale X F hA hL N h
def f_X1_readSeed (N : Nat) (h : Hp) : Option (Bool × Hp) :=
  bd2 (f_X1_takeOnce N h) fun v2 h1 =>
  jn (fun (h3 : Hp) =>
    some (false, h3)) fun (j16 : Hp → Option (Bool × Hp)) =>
  if (b2i v2) = 0 then
    j16 h1
  else
  bd2 (f_X1_takeNumber N h1 99999) fun v5 h4 =>
  if ¬ (b2i v5) = 0 then
    onO (gO h4 1 0 3) fun o6 =>
    lt_ (sI h4 5 o6 19 (gI h4 1 0 6)) fun h7 =>
    some (true, h7)
  else
  j16 h4
abbrev rmX1_readSeed : Room := { frames := 4, cells := 0, slots := 0, locals := 83 }
set_option maxRecDepth 100000 in
set_option maxHeartbeats 4000000 in
theorem w_X1_readSeed (X : Cx) (F : Fx X cX1_readSeed RX1 (some .boolean) rmX1_readSeed) (hA : xA X = Aw (xG X)) (hL : xL X = 1) (N : Nat) (h : Hp) : Wm X (fun v => some (.int (b2i v.1))) (fun v => v.2) (fun _ => True) 0 [(0, .ref (adr (xG X) 1 0 0))] [] h (f_X1_readSeed N h) := by
  have hS : ∀ i : Nat, i < 1 → i < xL X := fun i z => by rw [hL]; exact z
  unfold f_X1_readSeed
  refine r_aload_n F 0 rfl dX1_readSeed_0 rfl ?_
  refine k_zH (run_V F cvX1_161 (by decide) (c_X1_takeOnce (xG X) _ N h) rfl rfl ⟨⟨rfl, rfl⟩, Nat.le_of_ble_eq_true rfl, Nat.le_of_ble_eq_true rfl⟩ (Nat.le_of_ble_eq_true rfl) dX1_readSeed_1) fun v2 h1 => ?_
  refine Wt_jn (fun (j16 : Hp → Option (Bool × Hp)) => ∀ h3 : Hp, Wm X (fun v => some (.int (b2i v.1))) (fun v => v.2) (fun _ => True) 16 [] [] h3 (j16 h3)) ?_ fun j16 hj16 => ?_
  · intro h3
    refine r_iconst F (v := 0) dX1_readSeed_16 (by decide) ?_
    exact r_zret F hA false rfl rfl rfl trivial dX1_readSeed_17
  refine r_ifeq F (tgt := 16) dX1_readSeed_4 (by decide) ?_ ?_
  · skip
    exact Wt_pick [] rfl (hj16 h1)
  refine r_aload_n F 0 rfl dX1_readSeed_7 rfl ?_
  refine r_ldc F wd_1093 dX1_readSeed_8 ?_
  refine k_zH (run_V F cvX1_112 (by decide) (c_X1_takeNumber (xG X) _ N h1 99999) rfl rfl ⟨⟨rfl, rfl⟩, Nat.le_of_ble_eq_true rfl, Nat.le_of_ble_eq_true rfl⟩ (Nat.le_of_ble_eq_true rfl) dX1_readSeed_10) fun v5 h4 => ?_
  refine r_ifne F (tgt := 18) dX1_readSeed_13 (by decide) ?_ ?_
  · skip
    refine r_aload_n F 0 rfl dX1_readSeed_18 rfl ?_
    refine r_getO F frX1_25 (by decide) dX1_readSeed_19 fun o6 hp_o6 => ?_
    refine r_aload_n F 0 rfl dX1_readSeed_22 rfl ?_
    refine r_getI F frX1_106 (by decide) dX1_readSeed_23 ?_
    refine r_putI F frX1_177 hp_o6 rfl rfl dX1_readSeed_26 fun h7 => ?_
    refine r_iconst F (v := 1) dX1_readSeed_29 (by decide) ?_
    exact r_zret F hA true rfl rfl rfl trivial dX1_readSeed_30
  exact Wt_pick [] rfl (hj16 h4)
theorem c_X1_readSeed (G : Gx) (l : Launch) (N : Nat) (h : Hp) : Ctr G l yX1_readSeed (.code yX1_readSeed cX1_readSeed 1 (some .boolean) :: GT) rmX1_readSeed [.ref (adr G 1 0 0)] h (f_X1_readSeed N h) (fun v => some (.int (b2i v.1))) (fun v => v.2) (fun _ => True) :=
  ctr_of (by decide) (Nat.le_of_ble_eq_true rfl) ⟨rfl, rfl⟩ fun X _ e2 hA hL F => by subst e2; exact w_X1_readSeed X F hA hL N h
def f_X1_beginExpression (h : Hp) : Option Hp :=
  lt_ (sI h 1 0 8 0) fun h1 =>
  lt_ (sI h1 1 0 9 0) fun h2 =>
  grd (inb 0 9) <| lt_ (sY h2 1 0 1 (0 : Int32).toNatClampNeg false) fun h3 =>
  lt_ (sZ h3 1 0 11 true) fun h4 =>
  lt_ (sZ h4 1 0 12 true) fun h5 =>
  some h5
abbrev rmX1_beginExpression : Room := { frames := 0, cells := 0, slots := 0, locals := 0 }
set_option maxRecDepth 100000 in
set_option maxHeartbeats 4000000 in
theorem w_X1_beginExpression (X : Cx) (F : Fx X cX1_beginExpression RX1 none rmX1_beginExpression) (hA : xA X = Aw (xG X)) (hL : xL X = 1) (h : Hp) : Wm X (fun _ => none) (fun v => v) (fun _ => True) 0 [(0, .ref (adr (xG X) 1 0 0))] [] h (f_X1_beginExpression h) := by
  have hS : ∀ i : Nat, i < 1 → i < xL X := fun i z => by rw [hL]; exact z
  unfold f_X1_beginExpression
  refine r_aload_n F 0 rfl dX1_beginExpression_0 rfl ?_
  refine r_iconst F (v := 0) dX1_beginExpression_1 (by decide) ?_
  refine r_putI F frX1_216 (by decide) rfl rfl dX1_beginExpression_2 fun h1 => ?_
  refine r_aload_n F 0 rfl dX1_beginExpression_5 rfl ?_
  refine r_iconst F (v := 0) dX1_beginExpression_6 (by decide) ?_
  refine r_putI F frX1_204 (by decide) rfl rfl dX1_beginExpression_7 fun h2 => ?_
  refine r_aload_n F 0 rfl dX1_beginExpression_10 rfl ?_
  refine r_getA F frX1_17 (by decide) dX1_beginExpression_11 ?_
  refine r_iconst F (v := 0) dX1_beginExpression_14 (by decide) ?_
  refine r_iconst F (v := 0) dX1_beginExpression_15 (by decide) ?_
  refine r_bastore F false rfl (ar_1_1 0 (by decide)) dX1_beginExpression_16 fun h3 => ?_
  refine r_aload_n F 0 rfl dX1_beginExpression_17 rfl ?_
  refine r_iconst F (v := 1) dX1_beginExpression_18 (by decide) ?_
  refine r_putZ F true rfl frX1_191 (by decide) rfl rfl dX1_beginExpression_19 fun h4 => ?_
  refine r_aload_n F 0 rfl dX1_beginExpression_22 rfl ?_
  refine r_iconst F (v := 1) dX1_beginExpression_23 (by decide) ?_
  refine r_putZ F true rfl frX1_219 (by decide) rfl rfl dX1_beginExpression_24 fun h5 => ?_
  exact r_vret F hA rfl rfl trivial dX1_beginExpression_27
theorem c_X1_beginExpression (G : Gx) (l : Launch) (h : Hp) : Ctr G l yX1_beginExpression (.code yX1_beginExpression cX1_beginExpression 1 none :: GT) rmX1_beginExpression [.ref (adr G 1 0 0)] h (f_X1_beginExpression h) (fun _ => none) (fun v => v) (fun _ => True) :=
  ctr_of (by decide) (Nat.le_of_ble_eq_true rfl) ⟨rfl, rfl⟩ fun X _ e2 hA hL F => by subst e2; exact w_X1_beginExpression X F hA hL h
def f_X1_push (h : Hp) (p1 : Int32) : Option Hp :=
  jn (fun (h1 : Hp) =>
    some h1) fun (j32 : Hp → Option Hp) =>
  if 72 ≤ (gI h 1 0 8) then
    j32 h
  else
  grd (inb (gI h 1 0 8) 72) <| lt_ (sA h 1 0 0 (gI h 1 0 8).toNatClampNeg p1) fun h2 =>
  lt_ (sI h2 1 0 8 ((gI h2 1 0 8) + 1)) fun h3 =>
  j32 h3
abbrev rmX1_push : Room := { frames := 0, cells := 0, slots := 0, locals := 0 }
set_option maxRecDepth 100000 in
set_option maxHeartbeats 4000000 in
theorem w_X1_push (X : Cx) (F : Fx X cX1_push RX1 none rmX1_push) (hA : xA X = Aw (xG X)) (hL : xL X = 2) (h : Hp) (p1 : Int32) : Wm X (fun _ => none) (fun v => v) (fun _ => True) 0 [(0, .ref (adr (xG X) 1 0 0)), (1, .int p1)] [] h (f_X1_push h p1) := by
  have hS : ∀ i : Nat, i < 2 → i < xL X := fun i z => by rw [hL]; exact z
  unfold f_X1_push
  refine r_aload_n F 0 rfl dX1_push_0 rfl ?_
  refine r_getI F frX1_216 (by decide) dX1_push_1 ?_
  refine r_aload_n F 0 rfl dX1_push_4 rfl ?_
  refine r_getA F frX1_13 (by decide) dX1_push_5 ?_
  refine r_alen0 F (v := 72) (ar_1_0 0 (by decide)) (by decide) dX1_push_8 ?_
  refine Wt_jn (fun (j32 : Hp → Option Hp) => ∀ h1 : Hp, Wm X (fun _ => none) (fun v => v) (fun _ => True) 32 [] [] h1 (j32 h1)) ?_ fun j32 hj32 => ?_
  · intro h1
    exact r_vret F hA rfl rfl trivial dX1_push_32
  refine r_icmpge F (tgt := 32) dX1_push_9 (by decide) ?_ ?_
  · skip
    exact Wt_pick [] rfl (hj32 h)
  refine r_aload_n F 0 rfl dX1_push_12 rfl ?_
  refine r_getA F frX1_13 (by decide) dX1_push_13 ?_
  refine r_aload_n F 0 rfl dX1_push_16 rfl ?_
  refine r_getI F frX1_216 (by decide) dX1_push_17 ?_
  refine r_iload_n F 1 rfl dX1_push_20 rfl ?_
  refine r_iastore F (ar_1_0 0 (by decide)) dX1_push_21 fun h2 => ?_
  refine r_aload_n F 0 rfl dX1_push_22 rfl ?_
  refine r_dup F rfl dX1_push_23 ?_
  refine r_getI F frX1_216 (by decide) dX1_push_24 ?_
  refine r_iconst F (v := 1) dX1_push_27 (by decide) ?_
  refine r_iadd F dX1_push_28 ?_
  refine r_putI F frX1_216 (by decide) rfl rfl dX1_push_29 fun h3 => ?_
  exact Wt_pick [] rfl (hj32 h3)
theorem c_X1_push (G : Gx) (l : Launch) (h : Hp) (p1 : Int32) : Ctr G l yX1_push (.code yX1_push cX1_push 2 none :: GT) rmX1_push [.ref (adr G 1 0 0), .int p1] h (f_X1_push h p1) (fun _ => none) (fun v => v) (fun _ => True) :=
  ctr_of (by decide) (Nat.le_of_ble_eq_true rfl) ⟨rfl, rfl⟩ fun X _ e2 hA hL F => by subst e2; exact w_X1_push X F hA hL h p1
def f_X1_readOperand (N : Nat) (h : Hp) : Option (Bool × Hp) :=
  onO (gO h 1 0 2) fun _ =>
  lt_ ((gI h 4 0 6)) fun v1 =>
  jn (fun (v2 : Bool) =>
    jn (fun (h3 : Hp) =>
      onO (gO h3 1 0 2) fun _ =>
      (f_X4_advance N h3).bind fun h4 =>
      some (true, h4)) fun (j212 : Hp → Option (Bool × Hp)) =>
    jn (
      jn (
        bd2 (f_X1_fails h 2) fun v6 h5 =>
        some (v6, h5)) fun (j63 : Option (Bool × Hp)) =>
      jn (
        if (gI h 1 0 10) < 64 then
          lt_ (sI h 1 0 10 ((gI h 1 0 10) + 1)) fun h7 =>
          onO (gO h7 1 0 3) fun o8 =>
          onO (gO h7 1 0 2) fun _ =>
          (f_X0_put h7 o8 v1 (gI h7 4 0 7)).bind fun h9 =>
          lt_ (sZ h9 1 0 11 false) fun h10 =>
          j212 h10
        else
        j63) fun (j54 : Option (Bool × Hp)) =>
      if (b2i v2) = 0 then
        j54
      else
      onO (gO h 1 0 2) fun _ =>
      if 9999 < (gI h 4 0 7) then
        j63
      else
      j54) fun (j37 : Option (Bool × Hp)) =>
    if ¬ (b2i v2) = 0 then
      j37
    else
    jn (
      if ¬ v1 = 40 then
        jn (
          bd2 (f_X1_fails h 1) fun v12 h11 =>
          some (v12, h11)) fun (j206 : Option (Bool × Hp)) =>
        if ¬ v1 = 279 then
          j206
        else
        if (b2i (gZ h 1 0 12)) = 0 then
          j206
        else
        if (gI h 1 0 10) < 64 then
          lt_ (sI h 1 0 10 ((gI h 1 0 10) + 1)) fun h13 =>
          (f_X1_push h13 v1).bind fun h14 =>
          j212 h14
        else
        bd2 (f_X1_fails h 2) fun v16 h15 =>
        some (v16, h15)
      else
      if (gI h 1 0 9) < 8 then
        (f_X1_push h v1).bind fun h17 =>
        lt_ (sI h17 1 0 9 ((gI h17 1 0 9) + 1)) fun h18 =>
        grd (inb (gI h18 1 0 9) 9) <| lt_ (sY h18 1 0 1 (gI h18 1 0 9).toNatClampNeg false) fun h19 =>
        lt_ (sZ h19 1 0 12 true) fun h20 =>
        j212 h20
      else
      bd2 (f_X1_fails h 2) fun v22 h21 =>
      some (v22, h21)) fun (j105 : Option (Bool × Hp)) =>
    if v1 < 272 then
      j105
    else
    if 278 < v1 then
      j105
    else
    j37) fun (j18 : Bool → Option (Bool × Hp)) =>
  if ¬ v1 = 2 then
    j18 false
  else
  j18 true
abbrev rmX1_readOperand : Room := { frames := 3, cells := 0, slots := 0, locals := 62 }
set_option maxRecDepth 100000 in
set_option maxHeartbeats 4000000 in
theorem w_X1_readOperand (X : Cx) (F : Fx X cX1_readOperand RX1 (some .boolean) rmX1_readOperand) (hA : xA X = Aw (xG X)) (hL : xL X = 3) (N : Nat) (h : Hp) : Wm X (fun v => some (.int (b2i v.1))) (fun v => v.2) (fun _ => True) 0 [(0, .ref (adr (xG X) 1 0 0))] [] h (f_X1_readOperand N h) := by
  have hS : ∀ i : Nat, i < 3 → i < xL X := fun i z => by rw [hL]; exact z
  unfold f_X1_readOperand
  refine r_aload_n F 0 rfl dX1_readOperand_0 rfl ?_
  refine r_getO1 F frX1_21 (by decide) rfl dX1_readOperand_1 ?_
  refine r_getI F frX1_53 (by decide) dX1_readOperand_4 ?_
  refine r_nmI fun v1 => ?_
  refine r_istore_n F [(1, .int v1), (0, .ref (adr (xG X) 1 0 0))] rfl dX1_readOperand_7 rfl (hS _ (by decide)) ?_
  refine r_iload_n F 0 rfl dX1_readOperand_8 rfl ?_
  refine r_iconst F (v := 2) dX1_readOperand_9 (by decide) ?_
  refine Wt_jn (fun (j18 : Bool → Option (Bool × Hp)) => ∀ v2 : Bool, Wm X (fun v => some (.int (b2i v.1))) (fun v => v.2) (fun _ => True) 18 [(0, .ref (adr (xG X) 1 0 0)), (1, .int v1)] [.int (b2i v2)] h (j18 v2)) ?_ fun j18 hj18 => ?_
  · intro v2
    refine r_istore_n F [(2, .int (b2i v2)), (0, .ref (adr (xG X) 1 0 0)), (1, .int v1)] rfl dX1_readOperand_18 rfl (hS _ (by decide)) ?_
    refine r_iload_n F 0 rfl dX1_readOperand_19 rfl ?_
    refine Wt_jn (fun (j212 : Hp → Option (Bool × Hp)) => ∀ h3 : Hp, Wm X (fun v => some (.int (b2i v.1))) (fun v => v.2) (fun _ => True) 212 [(0, .ref (adr (xG X) 1 0 0))] [] h3 (j212 h3)) ?_ fun j212 hj212 => ?_
    · intro h3
      refine r_aload_n F 0 rfl dX1_readOperand_212 rfl ?_
      refine r_getO1 F frX1_21 (by decide) rfl dX1_readOperand_213 ?_
      refine k_vH (run_V F cvX1_100 (by decide) (c_X4_advance (xG X) _ N h3) rfl rfl ⟨⟨rfl, rfl⟩, Nat.le_of_ble_eq_true rfl, Nat.le_of_ble_eq_true rfl⟩ (Nat.le_of_ble_eq_true rfl) dX1_readOperand_216) fun h4 => ?_
      refine r_iconst F (v := 1) dX1_readOperand_219 (by decide) ?_
      exact r_zret F hA true rfl rfl rfl trivial dX1_readOperand_220
    refine Wt_jn (fun (j37 : Option (Bool × Hp)) => Wm X (fun v => some (.int (b2i v.1))) (fun v => v.2) (fun _ => True) 37 [(0, .ref (adr (xG X) 1 0 0)), (1, .int v1), (2, .int (b2i v2))] [] h (j37)) ?_ fun j37 hj37 => ?_
    · skip
      refine r_iload_n F 2 rfl dX1_readOperand_37 rfl ?_
      refine Wt_jn (fun (j63 : Option (Bool × Hp)) => Wm X (fun v => some (.int (b2i v.1))) (fun v => v.2) (fun _ => True) 63 [(0, .ref (adr (xG X) 1 0 0))] [] h (j63)) ?_ fun j63 hj63 => ?_
      · skip
        refine r_aload_n F 0 rfl dX1_readOperand_63 rfl ?_
        refine r_iconst F (v := 2) dX1_readOperand_64 (by decide) ?_
        refine k_zH (run_V F cvX1_93 (by decide) (c_X1_fails (xG X) _ h 2) rfl rfl ⟨⟨rfl, rfl⟩, Nat.le_of_ble_eq_true rfl, Nat.le_of_ble_eq_true rfl⟩ (Nat.le_of_ble_eq_true rfl) dX1_readOperand_65) fun v6 h5 => ?_
        exact r_zret F hA v6 rfl rfl rfl trivial dX1_readOperand_68
      refine Wt_jn (fun (j54 : Option (Bool × Hp)) => Wm X (fun v => some (.int (b2i v.1))) (fun v => v.2) (fun _ => True) 54 [(0, .ref (adr (xG X) 1 0 0)), (1, .int v1)] [] h (j54)) ?_ fun j54 hj54 => ?_
      · skip
        refine r_aload_n F 0 rfl dX1_readOperand_54 rfl ?_
        refine r_getI F frX1_44 (by decide) dX1_readOperand_55 ?_
        refine r_bipush F (v := 64) dX1_readOperand_58 (by decide) ?_
        refine r_icmplt F (tgt := 69) dX1_readOperand_60 (by decide) ?_ ?_
        · skip
          refine r_aload_n F 0 rfl dX1_readOperand_69 rfl ?_
          refine r_dup F rfl dX1_readOperand_70 ?_
          refine r_getI F frX1_44 (by decide) dX1_readOperand_71 ?_
          refine r_iconst F (v := 1) dX1_readOperand_74 (by decide) ?_
          refine r_iadd F dX1_readOperand_75 ?_
          refine r_putI F frX1_44 (by decide) rfl rfl dX1_readOperand_76 fun h7 => ?_
          refine r_aload_n F 0 rfl dX1_readOperand_79 rfl ?_
          refine r_getO F frX1_25 (by decide) dX1_readOperand_80 fun o8 hp_o8 => ?_
          refine r_getS F frX1_180 hp_o8 o8 rfl dX1_readOperand_83 ?_
          refine r_iload_n F 1 rfl dX1_readOperand_86 rfl ?_
          refine r_aload_n F 0 rfl dX1_readOperand_87 rfl ?_
          refine r_getO1 F frX1_21 (by decide) rfl dX1_readOperand_88 ?_
          refine r_getI F frX1_103 (by decide) dX1_readOperand_91 ?_
          refine k_vH (run_V F cvX1_222 hp_o8 (c_X0_put (xG X) _ h7 o8 hp_o8 v1 (gI h7 4 0 7)) rfl rfl ⟨⟨rfl, rfl⟩, Nat.le_of_ble_eq_true rfl, Nat.le_of_ble_eq_true rfl⟩ (Nat.le_of_ble_eq_true rfl) dX1_readOperand_94) fun h9 => ?_
          refine r_aload_n F 0 rfl dX1_readOperand_97 rfl ?_
          refine r_iconst F (v := 0) dX1_readOperand_98 (by decide) ?_
          refine r_putZ F false rfl frX1_191 (by decide) rfl rfl dX1_readOperand_99 fun h10 => ?_
          refine r_goto F (tgt := 212) dX1_readOperand_102 (by decide) ?_
          exact Wt_pick [0] rfl (hj212 h10)
        exact Wt_pick [0] rfl (hj63)
      refine r_ifeq F (tgt := 54) dX1_readOperand_38 (by decide) ?_ ?_
      · skip
        exact Wt_pick [0, 1] rfl (hj54)
      refine r_aload_n F 0 rfl dX1_readOperand_41 rfl ?_
      refine r_getO1 F frX1_21 (by decide) rfl dX1_readOperand_42 ?_
      refine r_getI F frX1_103 (by decide) dX1_readOperand_45 ?_
      refine r_sipush F (v := 9999) dX1_readOperand_48 (by decide) ?_
      refine r_icmpgt F (tgt := 63) dX1_readOperand_51 (by decide) ?_ ?_
      · skip
        exact Wt_pick [0] rfl (hj63)
      exact Wt_pick [0, 1] rfl (hj54)
    refine r_ifne F (tgt := 37) dX1_readOperand_20 (by decide) ?_ ?_
    · skip
      exact Wt_pick [1, 2, 0] rfl (hj37)
    refine r_iload_n F 2 rfl dX1_readOperand_23 rfl ?_
    refine r_sipush F (v := 272) dX1_readOperand_24 (by decide) ?_
    refine Wt_jn (fun (j105 : Option (Bool × Hp)) => Wm X (fun v => some (.int (b2i v.1))) (fun v => v.2) (fun _ => True) 105 [(0, .ref (adr (xG X) 1 0 0)), (1, .int v1)] [] h (j105)) ?_ fun j105 hj105 => ?_
    · skip
      refine r_iload_n F 1 rfl dX1_readOperand_105 rfl ?_
      refine r_bipush F (v := 40) dX1_readOperand_106 (by decide) ?_
      refine r_icmpne F (tgt := 159) dX1_readOperand_108 (by decide) ?_ ?_
      · skip
        refine r_iload_n F 1 rfl dX1_readOperand_159 rfl ?_
        refine r_sipush F (v := 279) dX1_readOperand_160 (by decide) ?_
        refine Wt_jn (fun (j206 : Option (Bool × Hp)) => Wm X (fun v => some (.int (b2i v.1))) (fun v => v.2) (fun _ => True) 206 [(0, .ref (adr (xG X) 1 0 0))] [] h (j206)) ?_ fun j206 hj206 => ?_
        · skip
          refine r_aload_n F 0 rfl dX1_readOperand_206 rfl ?_
          refine r_iconst F (v := 1) dX1_readOperand_207 (by decide) ?_
          refine k_zH (run_V F cvX1_93 (by decide) (c_X1_fails (xG X) _ h 1) rfl rfl ⟨⟨rfl, rfl⟩, Nat.le_of_ble_eq_true rfl, Nat.le_of_ble_eq_true rfl⟩ (Nat.le_of_ble_eq_true rfl) dX1_readOperand_208) fun v12 h11 => ?_
          exact r_zret F hA v12 rfl rfl rfl trivial dX1_readOperand_211
        refine r_icmpne F (tgt := 206) dX1_readOperand_163 (by decide) ?_ ?_
        · skip
          exact Wt_pick [0] rfl (hj206)
        refine r_aload_n F 0 rfl dX1_readOperand_166 rfl ?_
        refine r_getZ F frX1_219 (by decide) dX1_readOperand_167 ?_
        refine r_ifeq F (tgt := 206) dX1_readOperand_170 (by decide) ?_ ?_
        · skip
          exact Wt_pick [0] rfl (hj206)
        refine r_aload_n F 0 rfl dX1_readOperand_173 rfl ?_
        refine r_getI F frX1_44 (by decide) dX1_readOperand_174 ?_
        refine r_bipush F (v := 64) dX1_readOperand_177 (by decide) ?_
        refine r_icmplt F (tgt := 188) dX1_readOperand_179 (by decide) ?_ ?_
        · skip
          refine r_aload_n F 0 rfl dX1_readOperand_188 rfl ?_
          refine r_dup F rfl dX1_readOperand_189 ?_
          refine r_getI F frX1_44 (by decide) dX1_readOperand_190 ?_
          refine r_iconst F (v := 1) dX1_readOperand_193 (by decide) ?_
          refine r_iadd F dX1_readOperand_194 ?_
          refine r_putI F frX1_44 (by decide) rfl rfl dX1_readOperand_195 fun h13 => ?_
          refine r_aload_n F 0 rfl dX1_readOperand_198 rfl ?_
          refine r_iload_n F 1 rfl dX1_readOperand_199 rfl ?_
          refine k_vH (run_V F cvX1_226 (by decide) (c_X1_push (xG X) _ h13 v1) rfl rfl ⟨⟨rfl, rfl⟩, Nat.le_of_ble_eq_true rfl, Nat.le_of_ble_eq_true rfl⟩ (Nat.le_of_ble_eq_true rfl) dX1_readOperand_200) fun h14 => ?_
          refine r_goto F (tgt := 212) dX1_readOperand_203 (by decide) ?_
          exact Wt_pick [0] rfl (hj212 h14)
        refine r_aload_n F 0 rfl dX1_readOperand_182 rfl ?_
        refine r_iconst F (v := 2) dX1_readOperand_183 (by decide) ?_
        refine k_zH (run_V F cvX1_93 (by decide) (c_X1_fails (xG X) _ h 2) rfl rfl ⟨⟨rfl, rfl⟩, Nat.le_of_ble_eq_true rfl, Nat.le_of_ble_eq_true rfl⟩ (Nat.le_of_ble_eq_true rfl) dX1_readOperand_184) fun v16 h15 => ?_
        exact r_zret F hA v16 rfl rfl rfl trivial dX1_readOperand_187
      refine r_aload_n F 0 rfl dX1_readOperand_111 rfl ?_
      refine r_getI F frX1_204 (by decide) dX1_readOperand_112 ?_
      refine r_bipush F (v := 8) dX1_readOperand_115 (by decide) ?_
      refine r_icmplt F (tgt := 126) dX1_readOperand_117 (by decide) ?_ ?_
      · skip
        refine r_aload_n F 0 rfl dX1_readOperand_126 rfl ?_
        refine r_iload_n F 1 rfl dX1_readOperand_127 rfl ?_
        refine k_vH (run_V F cvX1_226 (by decide) (c_X1_push (xG X) _ h v1) rfl rfl ⟨⟨rfl, rfl⟩, Nat.le_of_ble_eq_true rfl, Nat.le_of_ble_eq_true rfl⟩ (Nat.le_of_ble_eq_true rfl) dX1_readOperand_128) fun h17 => ?_
        refine r_aload_n F 0 rfl dX1_readOperand_131 rfl ?_
        refine r_dup F rfl dX1_readOperand_132 ?_
        refine r_getI F frX1_204 (by decide) dX1_readOperand_133 ?_
        refine r_iconst F (v := 1) dX1_readOperand_136 (by decide) ?_
        refine r_iadd F dX1_readOperand_137 ?_
        refine r_putI F frX1_204 (by decide) rfl rfl dX1_readOperand_138 fun h18 => ?_
        refine r_aload_n F 0 rfl dX1_readOperand_141 rfl ?_
        refine r_getA F frX1_17 (by decide) dX1_readOperand_142 ?_
        refine r_aload_n F 0 rfl dX1_readOperand_145 rfl ?_
        refine r_getI F frX1_204 (by decide) dX1_readOperand_146 ?_
        refine r_iconst F (v := 0) dX1_readOperand_149 (by decide) ?_
        refine r_bastore F false rfl (ar_1_1 0 (by decide)) dX1_readOperand_150 fun h19 => ?_
        refine r_aload_n F 0 rfl dX1_readOperand_151 rfl ?_
        refine r_iconst F (v := 1) dX1_readOperand_152 (by decide) ?_
        refine r_putZ F true rfl frX1_219 (by decide) rfl rfl dX1_readOperand_153 fun h20 => ?_
        refine r_goto F (tgt := 212) dX1_readOperand_156 (by decide) ?_
        exact Wt_pick [0] rfl (hj212 h20)
      refine r_aload_n F 0 rfl dX1_readOperand_120 rfl ?_
      refine r_iconst F (v := 2) dX1_readOperand_121 (by decide) ?_
      refine k_zH (run_V F cvX1_93 (by decide) (c_X1_fails (xG X) _ h 2) rfl rfl ⟨⟨rfl, rfl⟩, Nat.le_of_ble_eq_true rfl, Nat.le_of_ble_eq_true rfl⟩ (Nat.le_of_ble_eq_true rfl) dX1_readOperand_122) fun v22 h21 => ?_
      exact r_zret F hA v22 rfl rfl rfl trivial dX1_readOperand_125
    refine r_icmplt F (tgt := 105) dX1_readOperand_27 (by decide) ?_ ?_
    · skip
      exact Wt_pick [1, 2] rfl (hj105)
    refine r_iload_n F 2 rfl dX1_readOperand_30 rfl ?_
    refine r_sipush F (v := 278) dX1_readOperand_31 (by decide) ?_
    refine r_icmpgt F (tgt := 105) dX1_readOperand_34 (by decide) ?_ ?_
    · skip
      exact Wt_pick [1, 2] rfl (hj105)
    exact Wt_pick [1, 2, 0] rfl (hj37)
  refine r_icmpne F (tgt := 17) dX1_readOperand_10 (by decide) ?_ ?_
  · skip
    refine r_iconst F (v := 0) dX1_readOperand_17 (by decide) ?_
    exact Wt_pick [1, 0] rfl (hj18 false)
  refine r_iconst F (v := 1) dX1_readOperand_13 (by decide) ?_
  refine r_goto F (tgt := 18) dX1_readOperand_14 (by decide) ?_
  exact Wt_pick [1, 0] rfl (hj18 true)
theorem c_X1_readOperand (G : Gx) (l : Launch) (N : Nat) (h : Hp) : Ctr G l yX1_readOperand (.code yX1_readOperand cX1_readOperand 3 (some .boolean) :: GT) rmX1_readOperand [.ref (adr G 1 0 0)] h (f_X1_readOperand N h) (fun v => some (.int (b2i v.1))) (fun v => v.2) (fun _ => True) :=
  ctr_of (by decide) (Nat.le_of_ble_eq_true rfl) ⟨rfl, rfl⟩ fun X _ e2 hA hL F => by subst e2; exact w_X1_readOperand X F hA hL N h
def f_X1_bindingOf (p0 : Int32) : Option Int32 :=
  if p0 = 4 then
    some 4
  else
  if p0 = 5 then
    some 4
  else
  if p0 = 6 then
    some 4
  else
  if p0 = 42 then
    some 6
  else
  if p0 = 43 then
    some 5
  else
  if p0 = 45 then
    some 5
  else
  if p0 = 47 then
    some 6
  else
  if p0 = 60 then
    some 4
  else
  if p0 = 61 then
    some 4
  else
  if p0 = 62 then
    some 4
  else
  if p0 = 279 then
    some 3
  else
  if p0 = 280 then
    some 2
  else
  if p0 = 281 then
    some 1
  else
  some 0
abbrev rmX1_bindingOf : Room := { frames := 0, cells := 0, slots := 0, locals := 0 }
set_option maxRecDepth 100000 in
set_option maxHeartbeats 4000000 in
theorem w_X1_bindingOf (X : Cx) (F : Fx X cX1_bindingOf RX1 (some .int) rmX1_bindingOf) (hA : xA X = Aw (xG X)) (hL : xL X = 1) (h : Hp) (p0 : Int32) : Wm X (fun v => some (.int v)) (fun _ => h) (fun _ => True) 0 [(0, .int p0)] [] h (f_X1_bindingOf p0) := by
  have hS : ∀ i : Nat, i < 1 → i < xL X := fun i z => by rw [hL]; exact z
  unfold f_X1_bindingOf
  refine r_iload_n F 0 rfl dX1_bindingOf_0 rfl ?_
  refine r_lsc F (tgt := 122) (off := 121) 4 dX1_bindingOf_1 (by decide) (by decide) (by decide) ?_ fun n0 => ?_
  · skip
    refine r_iconst F (v := 4) dX1_bindingOf_122 (by decide) ?_
    exact r_iret F hA rfl rfl trivial dX1_bindingOf_123
  refine r_lsc F (tgt := 122) (off := 121) 5 dX1_bindingOf_1 (by decide) (by decide) (by decide) ?_ fun n1 => ?_
  · skip
    refine r_iconst F (v := 4) dX1_bindingOf_122 (by decide) ?_
    exact r_iret F hA rfl rfl trivial dX1_bindingOf_123
  refine r_lsc F (tgt := 122) (off := 121) 6 dX1_bindingOf_1 (by decide) (by decide) (by decide) ?_ fun n2 => ?_
  · skip
    refine r_iconst F (v := 4) dX1_bindingOf_122 (by decide) ?_
    exact r_iret F hA rfl rfl trivial dX1_bindingOf_123
  refine r_lsc F (tgt := 126) (off := 125) 42 dX1_bindingOf_1 (by decide) (by decide) (by decide) ?_ fun n3 => ?_
  · skip
    refine r_bipush F (v := 6) dX1_bindingOf_126 (by decide) ?_
    exact r_iret F hA rfl rfl trivial dX1_bindingOf_128
  refine r_lsc F (tgt := 124) (off := 123) 43 dX1_bindingOf_1 (by decide) (by decide) (by decide) ?_ fun n4 => ?_
  · skip
    refine r_iconst F (v := 5) dX1_bindingOf_124 (by decide) ?_
    exact r_iret F hA rfl rfl trivial dX1_bindingOf_125
  refine r_lsc F (tgt := 124) (off := 123) 45 dX1_bindingOf_1 (by decide) (by decide) (by decide) ?_ fun n5 => ?_
  · skip
    refine r_iconst F (v := 5) dX1_bindingOf_124 (by decide) ?_
    exact r_iret F hA rfl rfl trivial dX1_bindingOf_125
  refine r_lsc F (tgt := 126) (off := 125) 47 dX1_bindingOf_1 (by decide) (by decide) (by decide) ?_ fun n6 => ?_
  · skip
    refine r_bipush F (v := 6) dX1_bindingOf_126 (by decide) ?_
    exact r_iret F hA rfl rfl trivial dX1_bindingOf_128
  refine r_lsc F (tgt := 122) (off := 121) 60 dX1_bindingOf_1 (by decide) (by decide) (by decide) ?_ fun n7 => ?_
  · skip
    refine r_iconst F (v := 4) dX1_bindingOf_122 (by decide) ?_
    exact r_iret F hA rfl rfl trivial dX1_bindingOf_123
  refine r_lsc F (tgt := 122) (off := 121) 61 dX1_bindingOf_1 (by decide) (by decide) (by decide) ?_ fun n8 => ?_
  · skip
    refine r_iconst F (v := 4) dX1_bindingOf_122 (by decide) ?_
    exact r_iret F hA rfl rfl trivial dX1_bindingOf_123
  refine r_lsc F (tgt := 122) (off := 121) 62 dX1_bindingOf_1 (by decide) (by decide) (by decide) ?_ fun n9 => ?_
  · skip
    refine r_iconst F (v := 4) dX1_bindingOf_122 (by decide) ?_
    exact r_iret F hA rfl rfl trivial dX1_bindingOf_123
  refine r_lsc F (tgt := 120) (off := 119) 279 dX1_bindingOf_1 (by decide) (by decide) (by decide) ?_ fun n10 => ?_
  · skip
    refine r_iconst F (v := 3) dX1_bindingOf_120 (by decide) ?_
    exact r_iret F hA rfl rfl trivial dX1_bindingOf_121
  refine r_lsc F (tgt := 118) (off := 117) 280 dX1_bindingOf_1 (by decide) (by decide) (by decide) ?_ fun n11 => ?_
  · skip
    refine r_iconst F (v := 2) dX1_bindingOf_118 (by decide) ?_
    exact r_iret F hA rfl rfl trivial dX1_bindingOf_119
  refine r_lsc F (tgt := 116) (off := 115) 281 dX1_bindingOf_1 (by decide) (by decide) (by decide) ?_ fun n12 => ?_
  · skip
    refine r_iconst F (v := 1) dX1_bindingOf_116 (by decide) ?_
    exact r_iret F hA rfl rfl trivial dX1_bindingOf_117
  refine r_lsd F (tgt := 129) dX1_bindingOf_1 (by decide) ((lv_osw n0 (by decide)).trans ((lv_osw n1 (by decide)).trans ((lv_osw n2 (by decide)).trans ((lv_osw n3 (by decide)).trans ((lv_osw n4 (by decide)).trans ((lv_osw n5 (by decide)).trans ((lv_osw n6 (by decide)).trans ((lv_osw n7 (by decide)).trans ((lv_osw n8 (by decide)).trans ((lv_osw n9 (by decide)).trans ((lv_osw n10 (by decide)).trans ((lv_osw n11 (by decide)).trans ((lv_osw n12 (by decide)).trans (rfl)))))))))))))) (by decide) ?_
  refine r_iconst F (v := 0) dX1_bindingOf_129 (by decide) ?_
  exact r_iret F hA rfl rfl trivial dX1_bindingOf_130
theorem c_X1_bindingOf (G : Gx) (l : Launch) (h : Hp) (p0 : Int32) : Ctr G l yX1_bindingOf (.code yX1_bindingOf cX1_bindingOf 1 (some .int) :: GT) rmX1_bindingOf [.int p0] h (f_X1_bindingOf p0) (fun v => some (.int v)) (fun _ => h) (fun _ => True) :=
  ctr_of (by decide) (Nat.le_of_ble_eq_true rfl) ⟨rfl, rfl⟩ fun X _ e2 hA hL F => by subst e2; exact w_X1_bindingOf X F hA hL h p0
def f_X1_joins (p0 : Int32) : Option Bool :=
  jn (fun (v1 : Bool) =>
    some v1) fun (j19 : Bool → Option Bool) =>
  jn (
    j19 false) fun (j18 : Option Bool) =>
  if p0 = 279 then
    j18
  else
  (f_X1_bindingOf p0).bind fun v2 =>
  if v2 ≤ 0 then
    j18
  else
  j19 true
abbrev rmX1_joins : Room := { frames := 1, cells := 0, slots := 0, locals := 20 }
set_option maxRecDepth 100000 in
set_option maxHeartbeats 4000000 in
theorem w_X1_joins (X : Cx) (F : Fx X cX1_joins RX1 (some .boolean) rmX1_joins) (hA : xA X = Aw (xG X)) (hL : xL X = 1) (h : Hp) (p0 : Int32) : Wm X (fun v => some (.int (b2i v))) (fun _ => h) (fun _ => True) 0 [(0, .int p0)] [] h (f_X1_joins p0) := by
  have hS : ∀ i : Nat, i < 1 → i < xL X := fun i z => by rw [hL]; exact z
  unfold f_X1_joins
  refine r_iload_n F 0 rfl dX1_joins_0 rfl ?_
  refine r_sipush F (v := 279) dX1_joins_1 (by decide) ?_
  refine Wt_jn (fun (j19 : Bool → Option Bool) => ∀ v1 : Bool, Wm X (fun v => some (.int (b2i v))) (fun _ => h) (fun _ => True) 19 [] [.int (b2i v1)] h (j19 v1)) ?_ fun j19 hj19 => ?_
  · intro v1
    exact r_zret F hA v1 rfl rfl rfl trivial dX1_joins_19
  refine Wt_jn (fun (j18 : Option Bool) => Wm X (fun v => some (.int (b2i v))) (fun _ => h) (fun _ => True) 18 [] [] h (j18)) ?_ fun j18 hj18 => ?_
  · skip
    refine r_iconst F (v := 0) dX1_joins_18 (by decide) ?_
    exact Wt_pick [] rfl (hj19 false)
  refine r_icmpeq F (tgt := 18) dX1_joins_4 (by decide) ?_ ?_
  · skip
    exact Wt_pick [] rfl (hj18)
  refine r_iload_n F 0 rfl dX1_joins_7 rfl ?_
  refine k_iP (run_S F csX1_229 (c_X1_bindingOf (xG X) _ h p0) rfl rfl ⟨⟨rfl, rfl⟩, Nat.le_of_ble_eq_true rfl, Nat.le_of_ble_eq_true rfl⟩ (Nat.le_of_ble_eq_true rfl) dX1_joins_8) fun v2 _ => ?_
  refine r_ifle F (tgt := 18) dX1_joins_11 (by decide) ?_ ?_
  · skip
    exact Wt_pick [] rfl (hj18)
  refine r_iconst F (v := 1) dX1_joins_14 (by decide) ?_
  refine r_goto F (tgt := 19) dX1_joins_15 (by decide) ?_
  exact Wt_pick [] rfl (hj19 true)
theorem c_X1_joins (G : Gx) (l : Launch) (h : Hp) (p0 : Int32) : Ctr G l yX1_joins (.code yX1_joins cX1_joins 1 (some .boolean) :: GT) rmX1_joins [.int p0] h (f_X1_joins p0) (fun v => some (.int (b2i v))) (fun _ => h) (fun _ => True) :=
  ctr_of (by decide) (Nat.le_of_ble_eq_true rfl) ⟨rfl, rfl⟩ fun X _ e2 hA hL F => by subst e2; exact w_X1_joins X F hA hL h p0
def f_X1_putWaiting_0 (p1 : Int32) (r0 : Hp → Option Hp) (h1 : Hp) : Option Hp :=
  jn (
    some h1) fun (j58 : Option Hp) =>
  if (gI h1 1 0 8) ≤ 0 then
    j58
  else
  grd (inb ((gI h1 1 0 8) - 1) 72) <|
  (f_X1_bindingOf (gA h1 1 0 0 ((gI h1 1 0 8) - 1).toNatClampNeg)).bind fun v2 =>
  if v2 < p1 then
    j58
  else
  lt_ (sI h1 1 0 8 ((gI h1 1 0 8) - 1)) fun h3 =>
  onO (gO h3 1 0 3) fun o4 =>
  grd (inb (gI h3 1 0 8) 72) <|
  (f_X0_put h3 o4 (gA h3 1 0 0 (gI h3 1 0 8).toNatClampNeg) 0).bind fun h5 =>
  r0 h5
def f_X1_putWaiting (N : Nat) (h : Hp) (p1 : Int32) : Option Hp :=
  iter (fun _ => none) (f_X1_putWaiting_0 p1) N h
abbrev rmX1_putWaiting : Room := { frames := 1, cells := 0, slots := 0, locals := 22 }
set_option maxRecDepth 100000 in
set_option maxHeartbeats 4000000 in
theorem w_X1_putWaiting (X : Cx) (F : Fx X cX1_putWaiting RX1 none rmX1_putWaiting) (hA : xA X = Aw (xG X)) (hL : xL X = 2) (N : Nat) (h : Hp) (p1 : Int32) : Wm X (fun _ => none) (fun v => v) (fun _ => True) 0 [(0, .ref (adr (xG X) 1 0 0)), (1, .int p1)] [] h (f_X1_putWaiting N h p1) := by
  have hS : ∀ i : Nat, i < 2 → i < xL X := fun i z => by rw [hL]; exact z
  unfold f_X1_putWaiting
  have hl0 : ∀ n : Nat, ∀ h1 : Hp, Wm X (fun _ => none) (fun v => v) (fun _ => True) 0 [(0, .ref (adr (xG X) 1 0 0)), (1, .int p1)] [] h1 (iter (fun _ => none) (f_X1_putWaiting_0 p1) n h1) := by
    intro n
    induction n with
    | zero => intro h1; exact Wt_none
    | succ n ih =>
      revert ih
      show (∀ h1 : Hp, Wm X (fun _ => none) (fun v => v) (fun _ => True) 0 [(0, .ref (adr (xG X) 1 0 0)), (1, .int p1)] [] h1 (iter (fun _ => none) (f_X1_putWaiting_0 p1) n h1)) → _
      intro ih0 h1
      show Wm X (fun _ => none) (fun v => v) (fun _ => True) 0 [(0, .ref (adr (xG X) 1 0 0)), (1, .int p1)] [] h1 (f_X1_putWaiting_0 p1 (iter (fun _ => none) (f_X1_putWaiting_0 p1) n) h1)
      revert ih0
      generalize iter (fun _ => none) (f_X1_putWaiting_0 p1) n = r0
      intro ih0
      unfold f_X1_putWaiting_0
      refine r_aload_n F 0 rfl dX1_putWaiting_0 rfl ?_
      refine r_getI F frX1_216 (by decide) dX1_putWaiting_1 ?_
      refine Wt_jn (fun (j58 : Option Hp) => Wm X (fun _ => none) (fun v => v) (fun _ => True) 58 [] [] h1 (j58)) ?_ fun j58 hj58 => ?_
      · skip
        exact r_vret F hA rfl rfl trivial dX1_putWaiting_58
      refine r_ifle F (tgt := 58) dX1_putWaiting_4 (by decide) ?_ ?_
      · skip
        exact Wt_pick [] rfl (hj58)
      refine r_aload_n F 0 rfl dX1_putWaiting_7 rfl ?_
      refine r_getA F frX1_13 (by decide) dX1_putWaiting_8 ?_
      refine r_aload_n F 0 rfl dX1_putWaiting_11 rfl ?_
      refine r_getI F frX1_216 (by decide) dX1_putWaiting_12 ?_
      refine r_iconst F (v := 1) dX1_putWaiting_15 (by decide) ?_
      refine r_isub F dX1_putWaiting_16 ?_
      refine r_iaload F (ar_1_0 0 (by decide)) dX1_putWaiting_17 ?_
      refine k_iP (run_S F csX1_229 (c_X1_bindingOf (xG X) _ h1 (gA h1 1 0 0 ((gI h1 1 0 8) - 1).toNatClampNeg)) rfl rfl ⟨⟨rfl, rfl⟩, Nat.le_of_ble_eq_true rfl, Nat.le_of_ble_eq_true rfl⟩ (Nat.le_of_ble_eq_true rfl) dX1_putWaiting_18) fun v2 _ => ?_
      refine r_iload_n F 1 rfl dX1_putWaiting_21 rfl ?_
      refine r_icmplt F (tgt := 58) dX1_putWaiting_22 (by decide) ?_ ?_
      · skip
        exact Wt_pick [] rfl (hj58)
      refine r_aload_n F 0 rfl dX1_putWaiting_25 rfl ?_
      refine r_dup F rfl dX1_putWaiting_26 ?_
      refine r_getI F frX1_216 (by decide) dX1_putWaiting_27 ?_
      refine r_iconst F (v := 1) dX1_putWaiting_30 (by decide) ?_
      refine r_isub F dX1_putWaiting_31 ?_
      refine r_putI F frX1_216 (by decide) rfl rfl dX1_putWaiting_32 fun h3 => ?_
      refine r_aload_n F 0 rfl dX1_putWaiting_35 rfl ?_
      refine r_getO F frX1_25 (by decide) dX1_putWaiting_36 fun o4 hp_o4 => ?_
      refine r_getS F frX1_180 hp_o4 o4 rfl dX1_putWaiting_39 ?_
      refine r_aload_n F 0 rfl dX1_putWaiting_42 rfl ?_
      refine r_getA F frX1_13 (by decide) dX1_putWaiting_43 ?_
      refine r_aload_n F 0 rfl dX1_putWaiting_46 rfl ?_
      refine r_getI F frX1_216 (by decide) dX1_putWaiting_47 ?_
      refine r_iaload F (ar_1_0 0 (by decide)) dX1_putWaiting_50 ?_
      refine r_iconst F (v := 0) dX1_putWaiting_51 (by decide) ?_
      refine k_vH (run_V F cvX1_222 hp_o4 (c_X0_put (xG X) _ h3 o4 hp_o4 (gA h3 1 0 0 (gI h3 1 0 8).toNatClampNeg) 0) rfl rfl ⟨⟨rfl, rfl⟩, Nat.le_of_ble_eq_true rfl, Nat.le_of_ble_eq_true rfl⟩ (Nat.le_of_ble_eq_true rfl) dX1_putWaiting_52) fun h5 => ?_
      refine r_goto F (tgt := 0) dX1_putWaiting_55 (by decide) ?_
      exact Wt_pick [0, 1] rfl (ih0 h5)
  exact Wt_pick [0, 1] rfl (hl0 N h)
theorem c_X1_putWaiting (G : Gx) (l : Launch) (N : Nat) (h : Hp) (p1 : Int32) : Ctr G l yX1_putWaiting (.code yX1_putWaiting cX1_putWaiting 2 none :: GT) rmX1_putWaiting [.ref (adr G 1 0 0), .int p1] h (f_X1_putWaiting N h p1) (fun _ => none) (fun v => v) (fun _ => True) :=
  ctr_of (by decide) (Nat.le_of_ble_eq_true rfl) ⟨rfl, rfl⟩ fun X _ e2 hA hL F => by subst e2; exact w_X1_putWaiting X F hA hL N h p1
