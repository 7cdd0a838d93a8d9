-- the law's helpers: decoded, their words
theorem dL_cell_0 : decode cL_cell 0 = .ok (.iload_n 1, 1) := by decide +kernel
theorem dL_cell_1 : decode cL_cell 1 = .ok (.aload_n 0, 1) := by decide +kernel
theorem dL_cell_2 : decode cL_cell 2 = .ok (.arraylength, 1) := by decide +kernel
theorem dL_cell_3 : decode cL_cell 3 = .ok (.if_icmp .ge 9, 3) := by decide +kernel
theorem dL_cell_6 : decode cL_cell 6 = .ok (.aload_n 0, 1) := by decide +kernel
theorem dL_cell_7 : decode cL_cell 7 = .ok (.iload_n 1, 1) := by decide +kernel
theorem dL_cell_8 : decode cL_cell 8 = .ok (.iaload, 1) := by decide +kernel
theorem dL_cell_9 : decode cL_cell 9 = .ok (.goto 4, 3) := by decide +kernel
theorem dL_cell_12 : decode cL_cell 12 = .ok (.iconst 0, 1) := by decide +kernel
theorem dL_cell_13 : decode cL_cell 13 = .ok (.ireturn, 1) := by decide +kernel
theorem dL_in_0 : decode cL_in 0 = .ok (.iload_n 0, 1) := by decide +kernel
theorem dL_in_1 : decode cL_in 1 = .ok (.ldc 7, 2) := by decide +kernel
theorem dL_in_3 : decode cL_in 3 = .ok (.iand, 1) := by decide +kernel
theorem dL_in_4 : decode cL_in 4 = .ok (.iload_n 1, 1) := by decide +kernel
theorem dL_in_5 : decode cL_in 5 = .ok (.irem, 1) := by decide +kernel
theorem dL_in_6 : decode cL_in 6 = .ok (.ireturn, 1) := by decide +kernel
theorem dL_text_0 : decode cL_text 0 = .ok (.iconst 0, 1) := by decide +kernel
theorem dL_text_1 : decode cL_text 1 = .ok (.istore_n 2, 1) := by decide +kernel
theorem dL_text_2 : decode cL_text 2 = .ok (.iload_n 2, 1) := by decide +kernel
theorem dL_text_3 : decode cL_text 3 = .ok (.aload_n 1, 1) := by decide +kernel
theorem dL_text_4 : decode cL_text 4 = .ok (.invokevirtual 8, 3) := by decide +kernel
theorem dL_text_7 : decode cL_text 7 = .ok (.if_icmp .ge 98, 3) := by decide +kernel
theorem dL_text_10 : decode cL_text 10 = .ok (.iconst 5, 1) := by decide +kernel
theorem dL_text_11 : decode cL_text 11 = .ok (.newarray .int, 2) := by decide +kernel
theorem dL_text_13 : decode cL_text 13 = .ok (.astore_n 3, 1) := by decide +kernel
theorem dL_text_14 : decode cL_text 14 = .ok (.iconst 0, 1) := by decide +kernel
theorem dL_text_15 : decode cL_text 15 = .ok (.istore 4, 2) := by decide +kernel
theorem dL_text_17 : decode cL_text 17 = .ok (.iload 4, 2) := by decide +kernel
theorem dL_text_19 : decode cL_text 19 = .ok (.bipush 20, 2) := by decide +kernel
theorem dL_text_21 : decode cL_text 21 = .ok (.if_icmp .ge 53, 3) := by decide +kernel
theorem dL_text_24 : decode cL_text 24 = .ok (.aload_n 3, 1) := by decide +kernel
theorem dL_text_25 : decode cL_text 25 = .ok (.iload 4, 2) := by decide +kernel
theorem dL_text_27 : decode cL_text 27 = .ok (.iconst 4, 1) := by decide +kernel
theorem dL_text_28 : decode cL_text 28 = .ok (.idiv, 1) := by decide +kernel
theorem dL_text_29 : decode cL_text 29 = .ok (.dup2, 1) := by decide +kernel
theorem dL_text_30 : decode cL_text 30 = .ok (.iaload, 1) := by decide +kernel
theorem dL_text_31 : decode cL_text 31 = .ok (.iload_n 2, 1) := by decide +kernel
theorem dL_text_32 : decode cL_text 32 = .ok (.iload 4, 2) := by decide +kernel
theorem dL_text_34 : decode cL_text 34 = .ok (.iadd, 1) := by decide +kernel
theorem dL_text_35 : decode cL_text 35 = .ok (.aload_n 1, 1) := by decide +kernel
theorem dL_text_36 : decode cL_text 36 = .ok (.invokevirtual 8, 3) := by decide +kernel
theorem dL_text_39 : decode cL_text 39 = .ok (.if_icmp .ge 14, 3) := by decide +kernel
theorem dL_text_42 : decode cL_text 42 = .ok (.aload_n 1, 1) := by decide +kernel
theorem dL_text_43 : decode cL_text 43 = .ok (.iload_n 2, 1) := by decide +kernel
theorem dL_text_44 : decode cL_text 44 = .ok (.iload 4, 2) := by decide +kernel
theorem dL_text_46 : decode cL_text 46 = .ok (.iadd, 1) := by decide +kernel
theorem dL_text_47 : decode cL_text 47 = .ok (.invokevirtual 14, 3) := by decide +kernel
theorem dL_text_50 : decode cL_text 50 = .ok (.goto 5, 3) := by decide +kernel
theorem dL_text_53 : decode cL_text 53 = .ok (.bipush 32, 2) := by decide +kernel
theorem dL_text_55 : decode cL_text 55 = .ok (.bipush 24, 2) := by decide +kernel
theorem dL_text_57 : decode cL_text 57 = .ok (.bipush 8, 2) := by decide +kernel
theorem dL_text_59 : decode cL_text 59 = .ok (.iload 4, 2) := by decide +kernel
theorem dL_text_61 : decode cL_text 61 = .ok (.iconst 4, 1) := by decide +kernel
theorem dL_text_62 : decode cL_text 62 = .ok (.irem, 1) := by decide +kernel
theorem dL_text_63 : decode cL_text 63 = .ok (.imul, 1) := by decide +kernel
theorem dL_text_64 : decode cL_text 64 = .ok (.isub, 1) := by decide +kernel
theorem dL_text_65 : decode cL_text 65 = .ok (.ishl, 1) := by decide +kernel
theorem dL_text_66 : decode cL_text 66 = .ok (.ior, 1) := by decide +kernel
theorem dL_text_67 : decode cL_text 67 = .ok (.iastore, 1) := by decide +kernel
theorem dL_text_68 : decode cL_text 68 = .ok (.iinc 4 1, 3) := by decide +kernel
theorem dL_text_71 : decode cL_text 71 = .ok (.goto (-54), 3) := by decide +kernel
theorem dL_text_74 : decode cL_text 74 = .ok (.aload_n 0, 1) := by decide +kernel
theorem dL_text_75 : decode cL_text 75 = .ok (.aload_n 3, 1) := by decide +kernel
theorem dL_text_76 : decode cL_text 76 = .ok (.iconst 0, 1) := by decide +kernel
theorem dL_text_77 : decode cL_text 77 = .ok (.iaload, 1) := by decide +kernel
theorem dL_text_78 : decode cL_text 78 = .ok (.aload_n 3, 1) := by decide +kernel
theorem dL_text_79 : decode cL_text 79 = .ok (.iconst 1, 1) := by decide +kernel
theorem dL_text_80 : decode cL_text 80 = .ok (.iaload, 1) := by decide +kernel
theorem dL_text_81 : decode cL_text 81 = .ok (.aload_n 3, 1) := by decide +kernel
theorem dL_text_82 : decode cL_text 82 = .ok (.iconst 2, 1) := by decide +kernel
theorem dL_text_83 : decode cL_text 83 = .ok (.iaload, 1) := by decide +kernel
theorem dL_text_84 : decode cL_text 84 = .ok (.aload_n 3, 1) := by decide +kernel
theorem dL_text_85 : decode cL_text 85 = .ok (.iconst 3, 1) := by decide +kernel
theorem dL_text_86 : decode cL_text 86 = .ok (.iaload, 1) := by decide +kernel
theorem dL_text_87 : decode cL_text 87 = .ok (.aload_n 3, 1) := by decide +kernel
theorem dL_text_88 : decode cL_text 88 = .ok (.iconst 4, 1) := by decide +kernel
theorem dL_text_89 : decode cL_text 89 = .ok (.iaload, 1) := by decide +kernel
theorem dL_text_90 : decode cL_text 90 = .ok (.invokevirtual 18, 3) := by decide +kernel
theorem dL_text_93 : decode cL_text 93 = .ok (.ifCond .ge 6, 3) := by decide +kernel
theorem dL_text_99 : decode cL_text 99 = .ok (.iinc 2 20, 3) := by decide +kernel
theorem dL_text_102 : decode cL_text 102 = .ok (.goto (-100), 3) := by decide +kernel
theorem dL_text_105 : decode cL_text 105 = .ok (.aload_n 0, 1) := by decide +kernel
theorem dL_text_106 : decode cL_text 106 = .ok (.aload_n 1, 1) := by decide +kernel
theorem dL_text_107 : decode cL_text 107 = .ok (.invokevirtual 8, 3) := by decide +kernel
theorem dL_text_110 : decode cL_text 110 = .ok (.invokevirtual 24, 3) := by decide +kernel
theorem dL_text_113 : decode cL_text 113 = .ok (.ireturn, 1) := by decide +kernel
set_option maxRecDepth 100000 in
theorem svL_8 : CB RL 8 yJ0_length_8abf5 cJ0_length_8abf5 1 (some .int) 0 ∧ Cond.instanceMethod yJ0_length_8abf5 ∈ GT ∧ Cond.selects RJ0 yJ0_length_8abf5 yJ0_length_8abf5 ∈ GT := ⟨⟨GT_1 44 rfl rfl, GT_4 216 rfl rfl, GT_1 3 rfl rfl, ⟨by decide, by decide, by decide +kernel⟩⟩, GT_1 42 rfl rfl, GT_1 43 rfl rfl⟩
set_option maxRecDepth 100000 in
theorem svL_14 : CB RL 14 yJ0_charAt_5068e cJ0_charAt_5068e 2 (some .char) 1 ∧ Cond.instanceMethod yJ0_charAt_5068e ∈ GT ∧ Cond.selects RJ0 yJ0_charAt_5068e yJ0_charAt_5068e ∈ GT := ⟨⟨GT_1 54 rfl rfl, GT_4 217 rfl rfl, GT_1 3 rfl rfl, ⟨by decide, by decide, by decide +kernel⟩⟩, GT_1 52 rfl rfl, GT_1 53 rfl rfl⟩
set_option maxRecDepth 100000 in
theorem cvL_18 : CV RL 18 yX7_feed cX7_feed 6 (some .int) 5 7 := ⟨⟨GT_4 221 rfl rfl, GT_4 218 rfl rfl, GT_1 1 rfl rfl, ⟨by decide, by decide, by decide +kernel⟩⟩, GT_4 219 rfl rfl, GT_4 220 rfl rfl, by decide⟩
set_option maxRecDepth 100000 in
theorem cvL_24 : CV RL 24 yX7_text cX7_text 4 (some .int) 1 7 := ⟨⟨GT_4 229 rfl rfl, GT_4 226 rfl rfl, GT_1 1 rfl rfl, ⟨by decide, by decide, by decide +kernel⟩⟩, GT_4 227 rfl rfl, GT_4 228 rfl rfl, by decide⟩
set_option maxRecDepth 100000 in
theorem jwL_7 : Cond.constant RL 7 2147483647 ∈ GT := GT_4 212 rfl rfl
