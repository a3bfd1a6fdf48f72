theorem dL_cell_0 : decode cL_cell 0 = .ok (.iload_n 1, 1) := by decide +kernel
theorem dL_cell_1 : decode cL_cell 1 = .ok (.aload_n 0, 1) := by decide +kernel
theorem dL_cell_2 : decode cL_cell 2 = .ok (.arraylength, 1) := by decide +kernel
theorem dL_cell_3 : decode cL_cell 3 = .ok (.if_icmp .ge 9, 3) := by decide +kernel
theorem dL_cell_6 : decode cL_cell 6 = .ok (.aload_n 0, 1) := by decide +kernel
theorem dL_cell_7 : decode cL_cell 7 = .ok (.iload_n 1, 1) := by decide +kernel
theorem dL_cell_8 : decode cL_cell 8 = .ok (.iaload, 1) := by decide +kernel
theorem dL_cell_9 : decode cL_cell 9 = .ok (.goto 10, 3) := by decide +kernel
theorem dL_cell_12 : decode cL_cell 12 = .ok (.ldc 7, 2) := by decide +kernel
theorem dL_cell_14 : decode cL_cell 14 = .ok (.iload_n 1, 1) := by decide +kernel
theorem dL_cell_15 : decode cL_cell 15 = .ok (.imul, 1) := by decide +kernel
theorem dL_cell_16 : decode cL_cell 16 = .ok (.ldc 8, 2) := by decide +kernel
theorem dL_cell_18 : decode cL_cell 18 = .ok (.iadd, 1) := by decide +kernel
theorem dL_cell_19 : decode cL_cell 19 = .ok (.ireturn, 1) := by decide +kernel
theorem dL_low_0 : decode cL_low 0 = .ok (.iload_n 0, 1) := by decide +kernel
theorem dL_low_1 : decode cL_low 1 = .ok (.ldc 9, 2) := by decide +kernel
theorem dL_low_3 : decode cL_low 3 = .ok (.iand, 1) := by decide +kernel
theorem dL_low_4 : decode cL_low 4 = .ok (.iload_n 1, 1) := by decide +kernel
theorem dL_low_5 : decode cL_low 5 = .ok (.irem, 1) := by decide +kernel
theorem dL_low_6 : decode cL_low 6 = .ok (.ireturn, 1) := by decide +kernel
theorem dL_many_0 : decode cL_many 0 = .ok (.iconst 0, 1) := by decide +kernel
theorem dL_many_1 : decode cL_many 1 = .ok (.istore_n 2, 1) := by decide +kernel
theorem dL_many_2 : decode cL_many 2 = .ok (.iload_n 2, 1) := by decide +kernel
theorem dL_many_3 : decode cL_many 3 = .ok (.iconst 4, 1) := by decide +kernel
theorem dL_many_4 : decode cL_many 4 = .ok (.if_icmp .ge 19, 3) := by decide +kernel
theorem dL_many_7 : decode cL_many 7 = .ok (.aload_n 0, 1) := by decide +kernel
theorem dL_many_8 : decode cL_many 8 = .ok (.iconst 4, 1) := by decide +kernel
theorem dL_many_9 : decode cL_many 9 = .ok (.iload_n 1, 1) := by decide +kernel
theorem dL_many_10 : decode cL_many 10 = .ok (.imul, 1) := by decide +kernel
theorem dL_many_11 : decode cL_many 11 = .ok (.iload_n 2, 1) := by decide +kernel
theorem dL_many_12 : decode cL_many 12 = .ok (.iadd, 1) := by decide +kernel
theorem dL_many_13 : decode cL_many 13 = .ok (.iaload, 1) := by decide +kernel
theorem dL_many_14 : decode cL_many 14 = .ok (.ifCond .lt 9, 3) := by decide +kernel
theorem dL_many_17 : decode cL_many 17 = .ok (.iinc 2 1, 3) := by decide +kernel
theorem dL_many_20 : decode cL_many 20 = .ok (.goto (-18), 3) := by decide +kernel
theorem dL_many_23 : decode cL_many 23 = .ok (.iload_n 2, 1) := by decide +kernel
theorem dL_many_24 : decode cL_many 24 = .ok (.ireturn, 1) := by decide +kernel
theorem dL_stands_0 : decode cL_stands 0 = .ok (.aload_n 0, 1) := by decide +kernel
theorem dL_stands_1 : decode cL_stands 1 = .ok (.iconst 4, 1) := by decide +kernel
theorem dL_stands_2 : decode cL_stands 2 = .ok (.iload_n 1, 1) := by decide +kernel
theorem dL_stands_3 : decode cL_stands 3 = .ok (.imul, 1) := by decide +kernel
theorem dL_stands_4 : decode cL_stands 4 = .ok (.iload_n 2, 1) := by decide +kernel
theorem dL_stands_5 : decode cL_stands 5 = .ok (.iadd, 1) := by decide +kernel
theorem dL_stands_6 : decode cL_stands 6 = .ok (.iaload, 1) := by decide +kernel
theorem dL_stands_7 : decode cL_stands 7 = .ok (.istore_n 3, 1) := by decide +kernel
theorem dL_stands_8 : decode cL_stands 8 = .ok (.iconst 0, 1) := by decide +kernel
theorem dL_stands_9 : decode cL_stands 9 = .ok (.istore 4, 2) := by decide +kernel
theorem dL_stands_11 : decode cL_stands 11 = .ok (.iload 4, 2) := by decide +kernel
theorem dL_stands_13 : decode cL_stands 13 = .ok (.iconst 4, 1) := by decide +kernel
theorem dL_stands_14 : decode cL_stands 14 = .ok (.if_icmp .ge 26, 3) := by decide +kernel
theorem dL_stands_17 : decode cL_stands 17 = .ok (.iload_n 3, 1) := by decide +kernel
theorem dL_stands_18 : decode cL_stands 18 = .ok (.bipush 9, 2) := by decide +kernel
theorem dL_stands_20 : decode cL_stands 20 = .ok (.if_icmp .le 20, 3) := by decide +kernel
theorem dL_stands_23 : decode cL_stands 23 = .ok (.aload_n 0, 1) := by decide +kernel
theorem dL_stands_24 : decode cL_stands 24 = .ok (.iconst 4, 1) := by decide +kernel
theorem dL_stands_25 : decode cL_stands 25 = .ok (.iload_n 1, 1) := by decide +kernel
theorem dL_stands_26 : decode cL_stands 26 = .ok (.imul, 1) := by decide +kernel
theorem dL_stands_27 : decode cL_stands 27 = .ok (.iload_n 3, 1) := by decide +kernel
theorem dL_stands_28 : decode cL_stands 28 = .ok (.iadd, 1) := by decide +kernel
theorem dL_stands_29 : decode cL_stands 29 = .ok (.bipush 11, 2) := by decide +kernel
theorem dL_stands_31 : decode cL_stands 31 = .ok (.isub, 1) := by decide +kernel
theorem dL_stands_32 : decode cL_stands 32 = .ok (.iaload, 1) := by decide +kernel
theorem dL_stands_33 : decode cL_stands 33 = .ok (.istore_n 3, 1) := by decide +kernel
theorem dL_stands_34 : decode cL_stands 34 = .ok (.iinc 4 1, 3) := by decide +kernel
theorem dL_stands_37 : decode cL_stands 37 = .ok (.goto (-26), 3) := by decide +kernel
theorem dL_stands_40 : decode cL_stands 40 = .ok (.iload_n 3, 1) := by decide +kernel
theorem dL_stands_41 : decode cL_stands 41 = .ok (.ireturn, 1) := by decide +kernel
theorem dL_taken_0 : decode cL_taken 0 = .ok (.iload_n 2, 1) := by decide +kernel
theorem dL_taken_1 : decode cL_taken 1 = .ok (.aload_n 1, 1) := by decide +kernel
theorem dL_taken_2 : decode cL_taken 2 = .ok (.iconst 2, 1) := by decide +kernel
theorem dL_taken_3 : decode cL_taken 3 = .ok (.iaload, 1) := by decide +kernel
theorem dL_taken_4 : decode cL_taken 4 = .ok (.iadd, 1) := by decide +kernel
theorem dL_taken_5 : decode cL_taken 5 = .ok (.iconst 1, 1) := by decide +kernel
theorem dL_taken_6 : decode cL_taken 6 = .ok (.if_icmp .ne 22, 3) := by decide +kernel
theorem dL_taken_9 : decode cL_taken 9 = .ok (.bipush 10, 2) := by decide +kernel
theorem dL_taken_11 : decode cL_taken 11 = .ok (.aload_n 0, 1) := by decide +kernel
theorem dL_taken_12 : decode cL_taken 12 = .ok (.iconst 3, 1) := by decide +kernel
theorem dL_taken_13 : decode cL_taken 13 = .ok (.iload_n 3, 1) := by decide +kernel
theorem dL_taken_14 : decode cL_taken 14 = .ok (.imul, 1) := by decide +kernel
theorem dL_taken_15 : decode cL_taken 15 = .ok (.iconst 1, 1) := by decide +kernel
theorem dL_taken_16 : decode cL_taken 16 = .ok (.iadd, 1) := by decide +kernel
theorem dL_taken_17 : decode cL_taken 17 = .ok (.iaload, 1) := by decide +kernel
theorem dL_taken_18 : decode cL_taken 18 = .ok (.imul, 1) := by decide +kernel
theorem dL_taken_19 : decode cL_taken 19 = .ok (.aload_n 0, 1) := by decide +kernel
theorem dL_taken_20 : decode cL_taken 20 = .ok (.iconst 3, 1) := by decide +kernel
theorem dL_taken_21 : decode cL_taken 21 = .ok (.iload_n 3, 1) := by decide +kernel
theorem dL_taken_22 : decode cL_taken 22 = .ok (.imul, 1) := by decide +kernel
theorem dL_taken_23 : decode cL_taken 23 = .ok (.iaload, 1) := by decide +kernel
theorem dL_taken_24 : decode cL_taken 24 = .ok (.iadd, 1) := by decide +kernel
theorem dL_taken_25 : decode cL_taken 25 = .ok (.goto 19, 3) := by decide +kernel
theorem dL_taken_28 : decode cL_taken 28 = .ok (.bipush 10, 2) := by decide +kernel
theorem dL_taken_30 : decode cL_taken 30 = .ok (.aload_n 0, 1) := by decide +kernel
theorem dL_taken_31 : decode cL_taken 31 = .ok (.iconst 3, 1) := by decide +kernel
theorem dL_taken_32 : decode cL_taken 32 = .ok (.iload_n 3, 1) := by decide +kernel
theorem dL_taken_33 : decode cL_taken 33 = .ok (.imul, 1) := by decide +kernel
theorem dL_taken_34 : decode cL_taken 34 = .ok (.iaload, 1) := by decide +kernel
theorem dL_taken_35 : decode cL_taken 35 = .ok (.imul, 1) := by decide +kernel
theorem dL_taken_36 : decode cL_taken 36 = .ok (.aload_n 0, 1) := by decide +kernel
theorem dL_taken_37 : decode cL_taken 37 = .ok (.iconst 3, 1) := by decide +kernel
theorem dL_taken_38 : decode cL_taken 38 = .ok (.iload_n 3, 1) := by decide +kernel
theorem dL_taken_39 : decode cL_taken 39 = .ok (.imul, 1) := by decide +kernel
theorem dL_taken_40 : decode cL_taken 40 = .ok (.iconst 1, 1) := by decide +kernel
theorem dL_taken_41 : decode cL_taken 41 = .ok (.iadd, 1) := by decide +kernel
theorem dL_taken_42 : decode cL_taken 42 = .ok (.iaload, 1) := by decide +kernel
theorem dL_taken_43 : decode cL_taken 43 = .ok (.iadd, 1) := by decide +kernel
theorem dL_taken_44 : decode cL_taken 44 = .ok (.istore 4, 2) := by decide +kernel
theorem dL_taken_46 : decode cL_taken 46 = .ok (.iconst 0, 1) := by decide +kernel
theorem dL_taken_47 : decode cL_taken 47 = .ok (.istore 5, 2) := by decide +kernel
theorem dL_taken_49 : decode cL_taken 49 = .ok (.iload 5, 2) := by decide +kernel
theorem dL_taken_51 : decode cL_taken 51 = .ok (.bipush 10, 2) := by decide +kernel
theorem dL_taken_53 : decode cL_taken 53 = .ok (.if_icmp .ge 48, 3) := by decide +kernel
theorem dL_taken_56 : decode cL_taken 56 = .ok (.aload_n 0, 1) := by decide +kernel
theorem dL_taken_57 : decode cL_taken 57 = .ok (.iconst 3, 1) := by decide +kernel
theorem dL_taken_58 : decode cL_taken 58 = .ok (.iload_n 3, 1) := by decide +kernel
theorem dL_taken_59 : decode cL_taken 59 = .ok (.imul, 1) := by decide +kernel
theorem dL_taken_60 : decode cL_taken 60 = .ok (.iconst 2, 1) := by decide +kernel
theorem dL_taken_61 : decode cL_taken 61 = .ok (.iadd, 1) := by decide +kernel
theorem dL_taken_62 : decode cL_taken 62 = .ok (.iaload, 1) := by decide +kernel
theorem dL_taken_63 : decode cL_taken 63 = .ok (.aload_n 1, 1) := by decide +kernel
theorem dL_taken_64 : decode cL_taken 64 = .ok (.iconst 1, 1) := by decide +kernel
theorem dL_taken_65 : decode cL_taken 65 = .ok (.iaload, 1) := by decide +kernel
theorem dL_taken_66 : decode cL_taken 66 = .ok (.if_icmp .gt 35, 3) := by decide +kernel
theorem dL_taken_69 : decode cL_taken 69 = .ok (.bipush 10, 2) := by decide +kernel
theorem dL_taken_71 : decode cL_taken 71 = .ok (.aload_n 0, 1) := by decide +kernel
theorem dL_taken_72 : decode cL_taken 72 = .ok (.iconst 3, 1) := by decide +kernel
theorem dL_taken_73 : decode cL_taken 73 = .ok (.iload 5, 2) := by decide +kernel
theorem dL_taken_75 : decode cL_taken 75 = .ok (.imul, 1) := by decide +kernel
theorem dL_taken_76 : decode cL_taken 76 = .ok (.iaload, 1) := by decide +kernel
theorem dL_taken_77 : decode cL_taken 77 = .ok (.imul, 1) := by decide +kernel
theorem dL_taken_78 : decode cL_taken 78 = .ok (.aload_n 0, 1) := by decide +kernel
theorem dL_taken_79 : decode cL_taken 79 = .ok (.iconst 3, 1) := by decide +kernel
theorem dL_taken_80 : decode cL_taken 80 = .ok (.iload 5, 2) := by decide +kernel
theorem dL_taken_82 : decode cL_taken 82 = .ok (.imul, 1) := by decide +kernel
theorem dL_taken_83 : decode cL_taken 83 = .ok (.iconst 1, 1) := by decide +kernel
theorem dL_taken_84 : decode cL_taken 84 = .ok (.iadd, 1) := by decide +kernel
theorem dL_taken_85 : decode cL_taken 85 = .ok (.iaload, 1) := by decide +kernel
theorem dL_taken_86 : decode cL_taken 86 = .ok (.iadd, 1) := by decide +kernel
theorem dL_taken_87 : decode cL_taken 87 = .ok (.iload 4, 2) := by decide +kernel
theorem dL_taken_89 : decode cL_taken 89 = .ok (.if_icmp .ne 6, 3) := by decide +kernel
theorem dL_taken_92 : decode cL_taken 92 = .ok (.iload 5, 2) := by decide +kernel
theorem dL_taken_94 : decode cL_taken 94 = .ok (.ireturn, 1) := by decide +kernel
theorem dL_taken_95 : decode cL_taken 95 = .ok (.iinc 5 1, 3) := by decide +kernel
theorem dL_taken_98 : decode cL_taken 98 = .ok (.goto (-49), 3) := by decide +kernel
theorem dL_taken_101 : decode cL_taken 101 = .ok (.bipush (-6), 2) := by decide +kernel
theorem dL_taken_103 : decode cL_taken 103 = .ok (.ireturn, 1) := by decide +kernel
theorem dL_word_0 : decode cL_word 0 = .ok (.iconst 0, 1) := by decide +kernel
theorem dL_word_1 : decode cL_word 1 = .ok (.istore 6, 2) := by decide +kernel
theorem dL_word_3 : decode cL_word 3 = .ok (.iload 6, 2) := by decide +kernel
theorem dL_word_5 : decode cL_word 5 = .ok (.aload_n 3, 1) := by decide +kernel
theorem dL_word_6 : decode cL_word 6 = .ok (.iconst 5, 1) := by decide +kernel
theorem dL_word_7 : decode cL_word 7 = .ok (.iaload, 1) := by decide +kernel
theorem dL_word_8 : decode cL_word 8 = .ok (.if_icmp .ge 110, 3) := by decide +kernel
theorem dL_word_11 : decode cL_word 11 = .ok (.aload_n 2, 1) := by decide +kernel
theorem dL_word_12 : decode cL_word 12 = .ok (.iconst 2, 1) := by decide +kernel
theorem dL_word_13 : decode cL_word 13 = .ok (.iload 6, 2) := by decide +kernel
theorem dL_word_15 : decode cL_word 15 = .ok (.imul, 1) := by decide +kernel
theorem dL_word_16 : decode cL_word 16 = .ok (.iaload, 1) := by decide +kernel
theorem dL_word_17 : decode cL_word 17 = .ok (.istore 7, 2) := by decide +kernel
theorem dL_word_19 : decode cL_word 19 = .ok (.iconst 1, 1) := by decide +kernel
theorem dL_word_20 : decode cL_word 20 = .ok (.istore 8, 2) := by decide +kernel
theorem dL_word_22 : decode cL_word 22 = .ok (.aload_n 1, 1) := by decide +kernel
theorem dL_word_23 : decode cL_word 23 = .ok (.iload 5, 2) := by decide +kernel
theorem dL_word_25 : decode cL_word 25 = .ok (.invokestatic 12, 3) := by decide +kernel
theorem dL_word_28 : decode cL_word 28 = .ok (.iconst 1, 1) := by decide +kernel
theorem dL_word_29 : decode cL_word 29 = .ok (.isub, 1) := by decide +kernel
theorem dL_word_30 : decode cL_word 30 = .ok (.istore 9, 2) := by decide +kernel
theorem dL_word_32 : decode cL_word 32 = .ok (.iload 9, 2) := by decide +kernel
theorem dL_word_34 : decode cL_word 34 = .ok (.ifCond .lt 58, 3) := by decide +kernel
theorem dL_word_37 : decode cL_word 37 = .ok (.iload 8, 2) := by decide +kernel
theorem dL_word_39 : decode cL_word 39 = .ok (.ifCond .eq 37, 3) := by decide +kernel
theorem dL_word_42 : decode cL_word 42 = .ok (.iload 7, 2) := by decide +kernel
theorem dL_word_44 : decode cL_word 44 = .ok (.bipush 10, 2) := by decide +kernel
theorem dL_word_46 : decode cL_word 46 = .ok (.irem, 1) := by decide +kernel
theorem dL_word_47 : decode cL_word 47 = .ok (.aload_n 0, 1) := by decide +kernel
theorem dL_word_48 : decode cL_word 48 = .ok (.aload_n 3, 1) := by decide +kernel
theorem dL_word_49 : decode cL_word 49 = .ok (.iload 4, 2) := by decide +kernel
theorem dL_word_51 : decode cL_word 51 = .ok (.aload_n 1, 1) := by decide +kernel
theorem dL_word_52 : decode cL_word 52 = .ok (.iload 5, 2) := by decide +kernel
theorem dL_word_54 : decode cL_word 54 = .ok (.iload 9, 2) := by decide +kernel
theorem dL_word_56 : decode cL_word 56 = .ok (.invokestatic 18, 3) := by decide +kernel
theorem dL_word_59 : decode cL_word 59 = .ok (.invokestatic 22, 3) := by decide +kernel
theorem dL_word_62 : decode cL_word 62 = .ok (.if_icmp .ne 14, 3) := by decide +kernel
theorem dL_word_65 : decode cL_word 65 = .ok (.iload 7, 2) := by decide +kernel
theorem dL_word_67 : decode cL_word 67 = .ok (.bipush 9, 2) := by decide +kernel
theorem dL_word_69 : decode cL_word 69 = .ok (.if_icmp .le 7, 3) := by decide +kernel
theorem dL_word_72 : decode cL_word 72 = .ok (.iconst 1, 1) := by decide +kernel
theorem dL_word_73 : decode cL_word 73 = .ok (.goto 4, 3) := by decide +kernel
theorem dL_word_76 : decode cL_word 76 = .ok (.iconst 0, 1) := by decide +kernel
theorem dL_word_77 : decode cL_word 77 = .ok (.istore 8, 2) := by decide +kernel
theorem dL_word_79 : decode cL_word 79 = .ok (.iload 7, 2) := by decide +kernel
theorem dL_word_81 : decode cL_word 81 = .ok (.bipush 10, 2) := by decide +kernel
theorem dL_word_83 : decode cL_word 83 = .ok (.idiv, 1) := by decide +kernel
theorem dL_word_84 : decode cL_word 84 = .ok (.istore 7, 2) := by decide +kernel
theorem dL_word_86 : decode cL_word 86 = .ok (.iinc 9 (-1), 3) := by decide +kernel
theorem dL_word_89 : decode cL_word 89 = .ok (.goto (-57), 3) := by decide +kernel
theorem dL_word_92 : decode cL_word 92 = .ok (.iload 8, 2) := by decide +kernel
theorem dL_word_94 : decode cL_word 94 = .ok (.ifCond .eq 18, 3) := by decide +kernel
theorem dL_word_97 : decode cL_word 97 = .ok (.iload 7, 2) := by decide +kernel
theorem dL_word_99 : decode cL_word 99 = .ok (.iconst 1, 1) := by decide +kernel
theorem dL_word_100 : decode cL_word 100 = .ok (.if_icmp .ne 12, 3) := by decide +kernel
theorem dL_word_103 : decode cL_word 103 = .ok (.aload_n 2, 1) := by decide +kernel
theorem dL_word_104 : decode cL_word 104 = .ok (.iconst 2, 1) := by decide +kernel
theorem dL_word_105 : decode cL_word 105 = .ok (.iload 6, 2) := by decide +kernel
theorem dL_word_107 : decode cL_word 107 = .ok (.imul, 1) := by decide +kernel
theorem dL_word_108 : decode cL_word 108 = .ok (.iconst 1, 1) := by decide +kernel
theorem dL_word_109 : decode cL_word 109 = .ok (.iadd, 1) := by decide +kernel
theorem dL_word_110 : decode cL_word 110 = .ok (.iaload, 1) := by decide +kernel
theorem dL_word_111 : decode cL_word 111 = .ok (.ireturn, 1) := by decide +kernel
theorem dL_word_112 : decode cL_word 112 = .ok (.iinc 6 1, 3) := by decide +kernel
theorem dL_word_115 : decode cL_word 115 = .ok (.goto (-112), 3) := by decide +kernel
theorem dL_word_118 : decode cL_word 118 = .ok (.bipush (-6), 2) := by decide +kernel
theorem dL_word_120 : decode cL_word 120 = .ok (.ireturn, 1) := by decide +kernel
theorem dL_hoists_0 : decode cL_hoists 0 = .ok (.iconst 0, 1) := by decide +kernel
theorem dL_hoists_1 : decode cL_hoists 1 = .ok (.istore_n 1, 1) := by decide +kernel
theorem dL_hoists_2 : decode cL_hoists 2 = .ok (.iconst 0, 1) := by decide +kernel
theorem dL_hoists_3 : decode cL_hoists 3 = .ok (.istore_n 2, 1) := by decide +kernel
theorem dL_hoists_4 : decode cL_hoists 4 = .ok (.iload_n 2, 1) := by decide +kernel
theorem dL_hoists_5 : decode cL_hoists 5 = .ok (.iconst 5, 1) := by decide +kernel
theorem dL_hoists_6 : decode cL_hoists 6 = .ok (.if_icmp .ge 25, 3) := by decide +kernel
theorem dL_hoists_9 : decode cL_hoists 9 = .ok (.iload_n 1, 1) := by decide +kernel
theorem dL_hoists_10 : decode cL_hoists 10 = .ok (.aload_n 0, 1) := by decide +kernel
theorem dL_hoists_11 : decode cL_hoists 11 = .ok (.iconst 4, 1) := by decide +kernel
theorem dL_hoists_12 : decode cL_hoists 12 = .ok (.iload_n 2, 1) := by decide +kernel
theorem dL_hoists_13 : decode cL_hoists 13 = .ok (.imul, 1) := by decide +kernel
theorem dL_hoists_14 : decode cL_hoists 14 = .ok (.iaload, 1) := by decide +kernel
theorem dL_hoists_15 : decode cL_hoists 15 = .ok (.ifCond .lt 7, 3) := by decide +kernel
theorem dL_hoists_18 : decode cL_hoists 18 = .ok (.iconst 1, 1) := by decide +kernel
theorem dL_hoists_19 : decode cL_hoists 19 = .ok (.goto 4, 3) := by decide +kernel
theorem dL_hoists_22 : decode cL_hoists 22 = .ok (.iconst 0, 1) := by decide +kernel
theorem dL_hoists_23 : decode cL_hoists 23 = .ok (.iadd, 1) := by decide +kernel
theorem dL_hoists_24 : decode cL_hoists 24 = .ok (.istore_n 1, 1) := by decide +kernel
theorem dL_hoists_25 : decode cL_hoists 25 = .ok (.iinc 2 1, 3) := by decide +kernel
theorem dL_hoists_28 : decode cL_hoists 28 = .ok (.goto (-24), 3) := by decide +kernel
theorem dL_hoists_31 : decode cL_hoists 31 = .ok (.iload_n 1, 1) := by decide +kernel
theorem dL_hoists_32 : decode cL_hoists 32 = .ok (.ireturn, 1) := by decide +kernel
theorem dL_known_0 : decode cL_known 0 = .ok (.iconst 0, 1) := by decide +kernel
theorem dL_known_1 : decode cL_known 1 = .ok (.istore 5, 2) := by decide +kernel
theorem dL_known_3 : decode cL_known 3 = .ok (.iconst 0, 1) := by decide +kernel
theorem dL_known_4 : decode cL_known 4 = .ok (.istore 6, 2) := by decide +kernel
theorem dL_known_6 : decode cL_known 6 = .ok (.iload 6, 2) := by decide +kernel
theorem dL_known_8 : decode cL_known 8 = .ok (.iconst 5, 1) := by decide +kernel
theorem dL_known_9 : decode cL_known 9 = .ok (.if_icmp .ge 42, 3) := by decide +kernel
theorem dL_known_12 : decode cL_known 12 = .ok (.iload 5, 2) := by decide +kernel
theorem dL_known_14 : decode cL_known 14 = .ok (.aload_n 1, 1) := by decide +kernel
theorem dL_known_15 : decode cL_known 15 = .ok (.iconst 4, 1) := by decide +kernel
theorem dL_known_16 : decode cL_known 16 = .ok (.iload 6, 2) := by decide +kernel
theorem dL_known_18 : decode cL_known 18 = .ok (.imul, 1) := by decide +kernel
theorem dL_known_19 : decode cL_known 19 = .ok (.iaload, 1) := by decide +kernel
theorem dL_known_20 : decode cL_known 20 = .ok (.ifCond .lt 21, 3) := by decide +kernel
theorem dL_known_23 : decode cL_known 23 = .ok (.aload_n 0, 1) := by decide +kernel
theorem dL_known_24 : decode cL_known 24 = .ok (.aload_n 1, 1) := by decide +kernel
theorem dL_known_25 : decode cL_known 25 = .ok (.aload_n 2, 1) := by decide +kernel
theorem dL_known_26 : decode cL_known 26 = .ok (.aload_n 3, 1) := by decide +kernel
theorem dL_known_27 : decode cL_known 27 = .ok (.iload 4, 2) := by decide +kernel
theorem dL_known_29 : decode cL_known 29 = .ok (.iload 6, 2) := by decide +kernel
theorem dL_known_31 : decode cL_known 31 = .ok (.invokestatic 26, 3) := by decide +kernel
theorem dL_known_34 : decode cL_known 34 = .ok (.ifCond .lt 7, 3) := by decide +kernel
theorem dL_known_37 : decode cL_known 37 = .ok (.iconst 1, 1) := by decide +kernel
theorem dL_known_38 : decode cL_known 38 = .ok (.goto 4, 3) := by decide +kernel
theorem dL_known_41 : decode cL_known 41 = .ok (.iconst 0, 1) := by decide +kernel
theorem dL_known_42 : decode cL_known 42 = .ok (.iadd, 1) := by decide +kernel
theorem dL_known_43 : decode cL_known 43 = .ok (.istore 5, 2) := by decide +kernel
theorem dL_known_45 : decode cL_known 45 = .ok (.iinc 6 1, 3) := by decide +kernel
theorem dL_known_48 : decode cL_known 48 = .ok (.goto (-42), 3) := by decide +kernel
theorem dL_known_51 : decode cL_known 51 = .ok (.iload 5, 2) := by decide +kernel
theorem dL_known_53 : decode cL_known 53 = .ok (.ireturn, 1) := by decide +kernel
theorem dL_nth_0 : decode cL_nth 0 = .ok (.iload_n 2, 1) := by decide +kernel
theorem dL_nth_1 : decode cL_nth 1 = .ok (.istore_n 3, 1) := by decide +kernel
theorem dL_nth_2 : decode cL_nth 2 = .ok (.iconst 0, 1) := by decide +kernel
theorem dL_nth_3 : decode cL_nth 3 = .ok (.istore 4, 2) := by decide +kernel
theorem dL_nth_5 : decode cL_nth 5 = .ok (.iload 4, 2) := by decide +kernel
theorem dL_nth_7 : decode cL_nth 7 = .ok (.iconst 5, 1) := by decide +kernel
theorem dL_nth_8 : decode cL_nth 8 = .ok (.if_icmp .ge 48, 3) := by decide +kernel
theorem dL_nth_11 : decode cL_nth 11 = .ok (.iload_n 1, 1) := by decide +kernel
theorem dL_nth_12 : decode cL_nth 12 = .ok (.ifCond .ne 8, 3) := by decide +kernel
theorem dL_nth_15 : decode cL_nth 15 = .ok (.iload 4, 2) := by decide +kernel
theorem dL_nth_17 : decode cL_nth 17 = .ok (.goto 7, 3) := by decide +kernel
theorem dL_nth_20 : decode cL_nth 20 = .ok (.iconst 4, 1) := by decide +kernel
theorem dL_nth_21 : decode cL_nth 21 = .ok (.iload 4, 2) := by decide +kernel
theorem dL_nth_23 : decode cL_nth 23 = .ok (.isub, 1) := by decide +kernel
theorem dL_nth_24 : decode cL_nth 24 = .ok (.istore 5, 2) := by decide +kernel
theorem dL_nth_26 : decode cL_nth 26 = .ok (.iload_n 3, 1) := by decide +kernel
theorem dL_nth_27 : decode cL_nth 27 = .ok (.aload_n 0, 1) := by decide +kernel
theorem dL_nth_28 : decode cL_nth 28 = .ok (.iconst 4, 1) := by decide +kernel
theorem dL_nth_29 : decode cL_nth 29 = .ok (.iload 5, 2) := by decide +kernel
theorem dL_nth_31 : decode cL_nth 31 = .ok (.imul, 1) := by decide +kernel
theorem dL_nth_32 : decode cL_nth 32 = .ok (.iaload, 1) := by decide +kernel
theorem dL_nth_33 : decode cL_nth 33 = .ok (.ifCond .lt 7, 3) := by decide +kernel
theorem dL_nth_36 : decode cL_nth 36 = .ok (.iconst 1, 1) := by decide +kernel
theorem dL_nth_37 : decode cL_nth 37 = .ok (.goto 4, 3) := by decide +kernel
theorem dL_nth_40 : decode cL_nth 40 = .ok (.iconst 0, 1) := by decide +kernel
theorem dL_nth_41 : decode cL_nth 41 = .ok (.isub, 1) := by decide +kernel
theorem dL_nth_42 : decode cL_nth 42 = .ok (.istore_n 3, 1) := by decide +kernel
theorem dL_nth_43 : decode cL_nth 43 = .ok (.iload_n 3, 1) := by decide +kernel
theorem dL_nth_44 : decode cL_nth 44 = .ok (.ifCond .ge 6, 3) := by decide +kernel
theorem dL_nth_47 : decode cL_nth 47 = .ok (.iload 5, 2) := by decide +kernel
theorem dL_nth_49 : decode cL_nth 49 = .ok (.ireturn, 1) := by decide +kernel
theorem dL_nth_50 : decode cL_nth 50 = .ok (.iinc 4 1, 3) := by decide +kernel
theorem dL_nth_53 : decode cL_nth 53 = .ok (.goto (-48), 3) := by decide +kernel
theorem dL_nth_56 : decode cL_nth 56 = .ok (.iconst (-1), 1) := by decide +kernel
theorem dL_nth_57 : decode cL_nth 57 = .ok (.ireturn, 1) := by decide +kernel
theorem dL_same_0 : decode cL_same 0 = .ok (.aload_n 1, 1) := by decide +kernel
theorem dL_same_1 : decode cL_same 1 = .ok (.invokestatic 30, 3) := by decide +kernel
theorem dL_same_4 : decode cL_same 4 = .ok (.istore 4, 2) := by decide +kernel
theorem dL_same_6 : decode cL_same 6 = .ok (.iload 4, 2) := by decide +kernel
theorem dL_same_8 : decode cL_same 8 = .ok (.ifCond .le 33, 3) := by decide +kernel
theorem dL_same_11 : decode cL_same 11 = .ok (.aload_n 0, 1) := by decide +kernel
theorem dL_same_12 : decode cL_same 12 = .ok (.aload_n 1, 1) := by decide +kernel
theorem dL_same_13 : decode cL_same 13 = .ok (.aload_n 2, 1) := by decide +kernel
theorem dL_same_14 : decode cL_same 14 = .ok (.aload_n 3, 1) := by decide +kernel
theorem dL_same_15 : decode cL_same 15 = .ok (.iconst 0, 1) := by decide +kernel
theorem dL_same_16 : decode cL_same 16 = .ok (.invokestatic 34, 3) := by decide +kernel
theorem dL_same_19 : decode cL_same 19 = .ok (.iload 4, 2) := by decide +kernel
theorem dL_same_21 : decode cL_same 21 = .ok (.if_icmp .ne 20, 3) := by decide +kernel
theorem dL_same_24 : decode cL_same 24 = .ok (.aload_n 0, 1) := by decide +kernel
theorem dL_same_25 : decode cL_same 25 = .ok (.aload_n 1, 1) := by decide +kernel
theorem dL_same_26 : decode cL_same 26 = .ok (.aload_n 2, 1) := by decide +kernel
theorem dL_same_27 : decode cL_same 27 = .ok (.aload_n 3, 1) := by decide +kernel
theorem dL_same_28 : decode cL_same 28 = .ok (.iconst 1, 1) := by decide +kernel
theorem dL_same_29 : decode cL_same 29 = .ok (.invokestatic 34, 3) := by decide +kernel
theorem dL_same_32 : decode cL_same 32 = .ok (.iload 4, 2) := by decide +kernel
theorem dL_same_34 : decode cL_same 34 = .ok (.if_icmp .ne 7, 3) := by decide +kernel
theorem dL_same_37 : decode cL_same 37 = .ok (.iconst 1, 1) := by decide +kernel
theorem dL_same_38 : decode cL_same 38 = .ok (.goto 4, 3) := by decide +kernel
theorem dL_same_41 : decode cL_same 41 = .ok (.iconst 0, 1) := by decide +kernel
theorem dL_same_42 : decode cL_same 42 = .ok (.istore 5, 2) := by decide +kernel
theorem dL_same_44 : decode cL_same 44 = .ok (.iconst 0, 1) := by decide +kernel
theorem dL_same_45 : decode cL_same 45 = .ok (.istore 6, 2) := by decide +kernel
theorem dL_same_47 : decode cL_same 47 = .ok (.iload 6, 2) := by decide +kernel
theorem dL_same_49 : decode cL_same 49 = .ok (.iload 4, 2) := by decide +kernel
theorem dL_same_51 : decode cL_same 51 = .ok (.if_icmp .ge 54, 3) := by decide +kernel
theorem dL_same_54 : decode cL_same 54 = .ok (.iload 5, 2) := by decide +kernel
theorem dL_same_56 : decode cL_same 56 = .ok (.ifCond .eq 49, 3) := by decide +kernel
theorem dL_same_59 : decode cL_same 59 = .ok (.aload_n 0, 1) := by decide +kernel
theorem dL_same_60 : decode cL_same 60 = .ok (.aload_n 1, 1) := by decide +kernel
theorem dL_same_61 : decode cL_same 61 = .ok (.aload_n 2, 1) := by decide +kernel
theorem dL_same_62 : decode cL_same 62 = .ok (.aload_n 3, 1) := by decide +kernel
theorem dL_same_63 : decode cL_same 63 = .ok (.iconst 0, 1) := by decide +kernel
theorem dL_same_64 : decode cL_same 64 = .ok (.aload_n 1, 1) := by decide +kernel
theorem dL_same_65 : decode cL_same 65 = .ok (.iconst 0, 1) := by decide +kernel
theorem dL_same_66 : decode cL_same 66 = .ok (.iload 6, 2) := by decide +kernel
theorem dL_same_68 : decode cL_same 68 = .ok (.invokestatic 38, 3) := by decide +kernel
theorem dL_same_71 : decode cL_same 71 = .ok (.invokestatic 26, 3) := by decide +kernel
theorem dL_same_74 : decode cL_same 74 = .ok (.aload_n 0, 1) := by decide +kernel
theorem dL_same_75 : decode cL_same 75 = .ok (.aload_n 1, 1) := by decide +kernel
theorem dL_same_76 : decode cL_same 76 = .ok (.aload_n 2, 1) := by decide +kernel
theorem dL_same_77 : decode cL_same 77 = .ok (.aload_n 3, 1) := by decide +kernel
theorem dL_same_78 : decode cL_same 78 = .ok (.iconst 1, 1) := by decide +kernel
theorem dL_same_79 : decode cL_same 79 = .ok (.aload_n 1, 1) := by decide +kernel
theorem dL_same_80 : decode cL_same 80 = .ok (.iconst 1, 1) := by decide +kernel
theorem dL_same_81 : decode cL_same 81 = .ok (.iload 6, 2) := by decide +kernel
theorem dL_same_83 : decode cL_same 83 = .ok (.invokestatic 38, 3) := by decide +kernel
theorem dL_same_86 : decode cL_same 86 = .ok (.invokestatic 26, 3) := by decide +kernel
theorem dL_same_89 : decode cL_same 89 = .ok (.if_icmp .ne 7, 3) := by decide +kernel
theorem dL_same_92 : decode cL_same 92 = .ok (.iconst 1, 1) := by decide +kernel
theorem dL_same_93 : decode cL_same 93 = .ok (.goto 4, 3) := by decide +kernel
theorem dL_same_96 : decode cL_same 96 = .ok (.iconst 0, 1) := by decide +kernel
theorem dL_same_97 : decode cL_same 97 = .ok (.istore 5, 2) := by decide +kernel
theorem dL_same_99 : decode cL_same 99 = .ok (.iinc 6 1, 3) := by decide +kernel
theorem dL_same_102 : decode cL_same 102 = .ok (.goto (-55), 3) := by decide +kernel
theorem dL_same_105 : decode cL_same 105 = .ok (.iload 5, 2) := by decide +kernel
theorem dL_same_107 : decode cL_same 107 = .ok (.ireturn, 1) := by decide +kernel
theorem dL_swap_0 : decode cL_swap 0 = .ok (.iconst 0, 1) := by decide +kernel
theorem dL_swap_1 : decode cL_swap 1 = .ok (.istore_n 3, 1) := by decide +kernel
theorem dL_swap_2 : decode cL_swap 2 = .ok (.iload_n 3, 1) := by decide +kernel
theorem dL_swap_3 : decode cL_swap 3 = .ok (.iconst 4, 1) := by decide +kernel
theorem dL_swap_4 : decode cL_swap 4 = .ok (.if_icmp .ge 41, 3) := by decide +kernel
theorem dL_swap_7 : decode cL_swap 7 = .ok (.aload_n 0, 1) := by decide +kernel
theorem dL_swap_8 : decode cL_swap 8 = .ok (.iconst 4, 1) := by decide +kernel
theorem dL_swap_9 : decode cL_swap 9 = .ok (.iload_n 1, 1) := by decide +kernel
theorem dL_swap_10 : decode cL_swap 10 = .ok (.imul, 1) := by decide +kernel
theorem dL_swap_11 : decode cL_swap 11 = .ok (.iload_n 3, 1) := by decide +kernel
theorem dL_swap_12 : decode cL_swap 12 = .ok (.iadd, 1) := by decide +kernel
theorem dL_swap_13 : decode cL_swap 13 = .ok (.iaload, 1) := by decide +kernel
theorem dL_swap_14 : decode cL_swap 14 = .ok (.istore 4, 2) := by decide +kernel
theorem dL_swap_16 : decode cL_swap 16 = .ok (.aload_n 0, 1) := by decide +kernel
theorem dL_swap_17 : decode cL_swap 17 = .ok (.iconst 4, 1) := by decide +kernel
theorem dL_swap_18 : decode cL_swap 18 = .ok (.iload_n 1, 1) := by decide +kernel
theorem dL_swap_19 : decode cL_swap 19 = .ok (.imul, 1) := by decide +kernel
theorem dL_swap_20 : decode cL_swap 20 = .ok (.iload_n 3, 1) := by decide +kernel
theorem dL_swap_21 : decode cL_swap 21 = .ok (.iadd, 1) := by decide +kernel
theorem dL_swap_22 : decode cL_swap 22 = .ok (.aload_n 0, 1) := by decide +kernel
theorem dL_swap_23 : decode cL_swap 23 = .ok (.iconst 4, 1) := by decide +kernel
theorem dL_swap_24 : decode cL_swap 24 = .ok (.iload_n 2, 1) := by decide +kernel
theorem dL_swap_25 : decode cL_swap 25 = .ok (.imul, 1) := by decide +kernel
theorem dL_swap_26 : decode cL_swap 26 = .ok (.iload_n 3, 1) := by decide +kernel
theorem dL_swap_27 : decode cL_swap 27 = .ok (.iadd, 1) := by decide +kernel
theorem dL_swap_28 : decode cL_swap 28 = .ok (.iaload, 1) := by decide +kernel
theorem dL_swap_29 : decode cL_swap 29 = .ok (.iastore, 1) := by decide +kernel
theorem dL_swap_30 : decode cL_swap 30 = .ok (.aload_n 0, 1) := by decide +kernel
theorem dL_swap_31 : decode cL_swap 31 = .ok (.iconst 4, 1) := by decide +kernel
theorem dL_swap_32 : decode cL_swap 32 = .ok (.iload_n 2, 1) := by decide +kernel
theorem dL_swap_33 : decode cL_swap 33 = .ok (.imul, 1) := by decide +kernel
theorem dL_swap_34 : decode cL_swap 34 = .ok (.iload_n 3, 1) := by decide +kernel
theorem dL_swap_35 : decode cL_swap 35 = .ok (.iadd, 1) := by decide +kernel
theorem dL_swap_36 : decode cL_swap 36 = .ok (.iload 4, 2) := by decide +kernel
theorem dL_swap_38 : decode cL_swap 38 = .ok (.iastore, 1) := by decide +kernel
theorem dL_swap_39 : decode cL_swap 39 = .ok (.iinc 3 1, 3) := by decide +kernel
theorem dL_swap_42 : decode cL_swap 42 = .ok (.goto (-40), 3) := by decide +kernel
theorem dL_swap_45 : decode cL_swap 45 = .ok (.return_, 1) := by decide +kernel
theorem dL_used_0 : decode cL_used 0 = .ok (.iconst 0, 1) := by decide +kernel
theorem dL_used_1 : decode cL_used 1 = .ok (.istore_n 2, 1) := by decide +kernel
theorem dL_used_2 : decode cL_used 2 = .ok (.iconst 0, 1) := by decide +kernel
theorem dL_used_3 : decode cL_used 3 = .ok (.istore_n 3, 1) := by decide +kernel
theorem dL_used_4 : decode cL_used 4 = .ok (.iload_n 3, 1) := by decide +kernel
theorem dL_used_5 : decode cL_used 5 = .ok (.bipush 20, 2) := by decide +kernel
theorem dL_used_7 : decode cL_used 7 = .ok (.if_icmp .ge 24, 3) := by decide +kernel
theorem dL_used_10 : decode cL_used 10 = .ok (.iload_n 2, 1) := by decide +kernel
theorem dL_used_11 : decode cL_used 11 = .ok (.aload_n 0, 1) := by decide +kernel
theorem dL_used_12 : decode cL_used 12 = .ok (.iload_n 3, 1) := by decide +kernel
theorem dL_used_13 : decode cL_used 13 = .ok (.iaload, 1) := by decide +kernel
theorem dL_used_14 : decode cL_used 14 = .ok (.iload_n 1, 1) := by decide +kernel
theorem dL_used_15 : decode cL_used 15 = .ok (.if_icmp .ne 7, 3) := by decide +kernel
theorem dL_used_18 : decode cL_used 18 = .ok (.iconst 1, 1) := by decide +kernel
theorem dL_used_19 : decode cL_used 19 = .ok (.goto 4, 3) := by decide +kernel
theorem dL_used_22 : decode cL_used 22 = .ok (.iconst 0, 1) := by decide +kernel
theorem dL_used_23 : decode cL_used 23 = .ok (.iadd, 1) := by decide +kernel
theorem dL_used_24 : decode cL_used 24 = .ok (.istore_n 2, 1) := by decide +kernel
theorem dL_used_25 : decode cL_used 25 = .ok (.iinc 3 1, 3) := by decide +kernel
theorem dL_used_28 : decode cL_used 28 = .ok (.goto (-24), 3) := by decide +kernel
theorem dL_used_31 : decode cL_used 31 = .ok (.iload_n 2, 1) := by decide +kernel
theorem dL_used_32 : decode cL_used 32 = .ok (.ireturn, 1) := by decide +kernel
theorem dL_mast_0 : decode cL_mast 0 = .ok (.iconst 0, 1) := by decide +kernel
theorem dL_mast_1 : decode cL_mast 1 = .ok (.istore 6, 2) := by decide +kernel
theorem dL_mast_3 : decode cL_mast 3 = .ok (.iconst 0, 1) := by decide +kernel
theorem dL_mast_4 : decode cL_mast 4 = .ok (.istore 7, 2) := by decide +kernel
theorem dL_mast_6 : decode cL_mast 6 = .ok (.iload 7, 2) := by decide +kernel
theorem dL_mast_8 : decode cL_mast 8 = .ok (.bipush 10, 2) := by decide +kernel
theorem dL_mast_10 : decode cL_mast 10 = .ok (.if_icmp .ge 158, 3) := by decide +kernel
theorem dL_mast_13 : decode cL_mast 13 = .ok (.bipush (-6), 2) := by decide +kernel
theorem dL_mast_15 : decode cL_mast 15 = .ok (.istore 8, 2) := by decide +kernel
theorem dL_mast_17 : decode cL_mast 17 = .ok (.bipush 9, 2) := by decide +kernel
theorem dL_mast_19 : decode cL_mast 19 = .ok (.istore 9, 2) := by decide +kernel
theorem dL_mast_21 : decode cL_mast 21 = .ok (.iload 9, 2) := by decide +kernel
theorem dL_mast_23 : decode cL_mast 23 = .ok (.ifCond .lt 52, 3) := by decide +kernel
theorem dL_mast_26 : decode cL_mast 26 = .ok (.aload_n 1, 1) := by decide +kernel
theorem dL_mast_27 : decode cL_mast 27 = .ok (.iconst 3, 1) := by decide +kernel
theorem dL_mast_28 : decode cL_mast 28 = .ok (.iload 9, 2) := by decide +kernel
theorem dL_mast_30 : decode cL_mast 30 = .ok (.imul, 1) := by decide +kernel
theorem dL_mast_31 : decode cL_mast 31 = .ok (.iaload, 1) := by decide +kernel
theorem dL_mast_32 : decode cL_mast 32 = .ok (.aload_n 1, 1) := by decide +kernel
theorem dL_mast_33 : decode cL_mast 33 = .ok (.iconst 3, 1) := by decide +kernel
theorem dL_mast_34 : decode cL_mast 34 = .ok (.iload 7, 2) := by decide +kernel
theorem dL_mast_36 : decode cL_mast 36 = .ok (.imul, 1) := by decide +kernel
theorem dL_mast_37 : decode cL_mast 37 = .ok (.iconst 1, 1) := by decide +kernel
theorem dL_mast_38 : decode cL_mast 38 = .ok (.iadd, 1) := by decide +kernel
theorem dL_mast_39 : decode cL_mast 39 = .ok (.iaload, 1) := by decide +kernel
theorem dL_mast_40 : decode cL_mast 40 = .ok (.if_icmp .ne 25, 3) := by decide +kernel
theorem dL_mast_43 : decode cL_mast 43 = .ok (.aload_n 1, 1) := by decide +kernel
theorem dL_mast_44 : decode cL_mast 44 = .ok (.iconst 3, 1) := by decide +kernel
theorem dL_mast_45 : decode cL_mast 45 = .ok (.iload 9, 2) := by decide +kernel
theorem dL_mast_47 : decode cL_mast 47 = .ok (.imul, 1) := by decide +kernel
theorem dL_mast_48 : decode cL_mast 48 = .ok (.iconst 1, 1) := by decide +kernel
theorem dL_mast_49 : decode cL_mast 49 = .ok (.iadd, 1) := by decide +kernel
theorem dL_mast_50 : decode cL_mast 50 = .ok (.iaload, 1) := by decide +kernel
theorem dL_mast_51 : decode cL_mast 51 = .ok (.aload_n 1, 1) := by decide +kernel
theorem dL_mast_52 : decode cL_mast 52 = .ok (.iconst 3, 1) := by decide +kernel
theorem dL_mast_53 : decode cL_mast 53 = .ok (.iload 7, 2) := by decide +kernel
theorem dL_mast_55 : decode cL_mast 55 = .ok (.imul, 1) := by decide +kernel
theorem dL_mast_56 : decode cL_mast 56 = .ok (.iaload, 1) := by decide +kernel
theorem dL_mast_57 : decode cL_mast 57 = .ok (.if_icmp .ne 8, 3) := by decide +kernel
theorem dL_mast_60 : decode cL_mast 60 = .ok (.iload 9, 2) := by decide +kernel
theorem dL_mast_62 : decode cL_mast 62 = .ok (.goto 5, 3) := by decide +kernel
theorem dL_mast_65 : decode cL_mast 65 = .ok (.iload 8, 2) := by decide +kernel
theorem dL_mast_67 : decode cL_mast 67 = .ok (.istore 8, 2) := by decide +kernel
theorem dL_mast_69 : decode cL_mast 69 = .ok (.iinc 9 (-1), 3) := by decide +kernel
theorem dL_mast_72 : decode cL_mast 72 = .ok (.goto (-51), 3) := by decide +kernel
theorem dL_mast_75 : decode cL_mast 75 = .ok (.aload_n 0, 1) := by decide +kernel
theorem dL_mast_76 : decode cL_mast 76 = .ok (.iload 7, 2) := by decide +kernel
theorem dL_mast_78 : decode cL_mast 78 = .ok (.iconst 0, 1) := by decide +kernel
theorem dL_mast_79 : decode cL_mast 79 = .ok (.invokevirtual 41, 3) := by decide +kernel
theorem dL_mast_82 : decode cL_mast 82 = .ok (.aload_n 1, 1) := by decide +kernel
theorem dL_mast_83 : decode cL_mast 83 = .ok (.iconst 3, 1) := by decide +kernel
theorem dL_mast_84 : decode cL_mast 84 = .ok (.iload 7, 2) := by decide +kernel
theorem dL_mast_86 : decode cL_mast 86 = .ok (.imul, 1) := by decide +kernel
theorem dL_mast_87 : decode cL_mast 87 = .ok (.iaload, 1) := by decide +kernel
theorem dL_mast_88 : decode cL_mast 88 = .ok (.if_icmp .ne 72, 3) := by decide +kernel
theorem dL_mast_91 : decode cL_mast 91 = .ok (.aload_n 0, 1) := by decide +kernel
theorem dL_mast_92 : decode cL_mast 92 = .ok (.iload 7, 2) := by decide +kernel
theorem dL_mast_94 : decode cL_mast 94 = .ok (.iconst 1, 1) := by decide +kernel
theorem dL_mast_95 : decode cL_mast 95 = .ok (.invokevirtual 41, 3) := by decide +kernel
theorem dL_mast_98 : decode cL_mast 98 = .ok (.aload_n 1, 1) := by decide +kernel
theorem dL_mast_99 : decode cL_mast 99 = .ok (.iconst 3, 1) := by decide +kernel
theorem dL_mast_100 : decode cL_mast 100 = .ok (.iload 7, 2) := by decide +kernel
theorem dL_mast_102 : decode cL_mast 102 = .ok (.imul, 1) := by decide +kernel
theorem dL_mast_103 : decode cL_mast 103 = .ok (.iconst 1, 1) := by decide +kernel
theorem dL_mast_104 : decode cL_mast 104 = .ok (.iadd, 1) := by decide +kernel
theorem dL_mast_105 : decode cL_mast 105 = .ok (.iaload, 1) := by decide +kernel
theorem dL_mast_106 : decode cL_mast 106 = .ok (.if_icmp .ne 54, 3) := by decide +kernel
theorem dL_mast_109 : decode cL_mast 109 = .ok (.aload_n 0, 1) := by decide +kernel
theorem dL_mast_110 : decode cL_mast 110 = .ok (.iload 7, 2) := by decide +kernel
theorem dL_mast_112 : decode cL_mast 112 = .ok (.iconst 2, 1) := by decide +kernel
theorem dL_mast_113 : decode cL_mast 113 = .ok (.invokevirtual 41, 3) := by decide +kernel
theorem dL_mast_116 : decode cL_mast 116 = .ok (.aload_n 1, 1) := by decide +kernel
theorem dL_mast_117 : decode cL_mast 117 = .ok (.iconst 3, 1) := by decide +kernel
theorem dL_mast_118 : decode cL_mast 118 = .ok (.iload 7, 2) := by decide +kernel
theorem dL_mast_120 : decode cL_mast 120 = .ok (.imul, 1) := by decide +kernel
theorem dL_mast_121 : decode cL_mast 121 = .ok (.iconst 2, 1) := by decide +kernel
theorem dL_mast_122 : decode cL_mast 122 = .ok (.iadd, 1) := by decide +kernel
theorem dL_mast_123 : decode cL_mast 123 = .ok (.iaload, 1) := by decide +kernel
theorem dL_mast_124 : decode cL_mast 124 = .ok (.if_icmp .ne 36, 3) := by decide +kernel
theorem dL_mast_127 : decode cL_mast 127 = .ok (.aload_n 0, 1) := by decide +kernel
theorem dL_mast_128 : decode cL_mast 128 = .ok (.iload 7, 2) := by decide +kernel
theorem dL_mast_130 : decode cL_mast 130 = .ok (.iconst 3, 1) := by decide +kernel
theorem dL_mast_131 : decode cL_mast 131 = .ok (.invokevirtual 41, 3) := by decide +kernel
theorem dL_mast_134 : decode cL_mast 134 = .ok (.aload 5, 2) := by decide +kernel
theorem dL_mast_136 : decode cL_mast 136 = .ok (.iconst 0, 1) := by decide +kernel
theorem dL_mast_137 : decode cL_mast 137 = .ok (.iaload, 1) := by decide +kernel
theorem dL_mast_138 : decode cL_mast 138 = .ok (.aload_n 2, 1) := by decide +kernel
theorem dL_mast_139 : decode cL_mast 139 = .ok (.iload 7, 2) := by decide +kernel
theorem dL_mast_141 : decode cL_mast 141 = .ok (.invokestatic 45, 3) := by decide +kernel
theorem dL_mast_144 : decode cL_mast 144 = .ok (.isub, 1) := by decide +kernel
theorem dL_mast_145 : decode cL_mast 145 = .ok (.if_icmp .ne 15, 3) := by decide +kernel
theorem dL_mast_148 : decode cL_mast 148 = .ok (.aload_n 0, 1) := by decide +kernel
theorem dL_mast_149 : decode cL_mast 149 = .ok (.iload 7, 2) := by decide +kernel
theorem dL_mast_151 : decode cL_mast 151 = .ok (.iconst 4, 1) := by decide +kernel
theorem dL_mast_152 : decode cL_mast 152 = .ok (.invokevirtual 41, 3) := by decide +kernel
theorem dL_mast_155 : decode cL_mast 155 = .ok (.iload 8, 2) := by decide +kernel
theorem dL_mast_157 : decode cL_mast 157 = .ok (.if_icmp .eq 5, 3) := by decide +kernel
theorem dL_mast_160 : decode cL_mast 160 = .ok (.iconst 0, 1) := by decide +kernel
theorem dL_mast_161 : decode cL_mast 161 = .ok (.ireturn, 1) := by decide +kernel
theorem dL_mast_162 : decode cL_mast 162 = .ok (.iinc 7 1, 3) := by decide +kernel
theorem dL_mast_165 : decode cL_mast 165 = .ok (.goto (-159), 3) := by decide +kernel
theorem dL_mast_168 : decode cL_mast 168 = .ok (.iconst 0, 1) := by decide +kernel
theorem dL_mast_169 : decode cL_mast 169 = .ok (.istore 7, 2) := by decide +kernel
theorem dL_mast_171 : decode cL_mast 171 = .ok (.iload 7, 2) := by decide +kernel
theorem dL_mast_173 : decode cL_mast 173 = .ok (.iconst 5, 1) := by decide +kernel
theorem dL_mast_174 : decode cL_mast 174 = .ok (.if_icmp .ge 203, 3) := by decide +kernel
theorem dL_mast_177 : decode cL_mast 177 = .ok (.aload_n 2, 1) := by decide +kernel
theorem dL_mast_178 : decode cL_mast 178 = .ok (.iload 7, 2) := by decide +kernel
theorem dL_mast_180 : decode cL_mast 180 = .ok (.invokestatic 12, 3) := by decide +kernel
theorem dL_mast_183 : decode cL_mast 183 = .ok (.istore 8, 2) := by decide +kernel
theorem dL_mast_185 : decode cL_mast 185 = .ok (.iload 6, 2) := by decide +kernel
theorem dL_mast_187 : decode cL_mast 187 = .ok (.iload 8, 2) := by decide +kernel
theorem dL_mast_189 : decode cL_mast 189 = .ok (.iadd, 1) := by decide +kernel
theorem dL_mast_190 : decode cL_mast 190 = .ok (.istore 6, 2) := by decide +kernel
theorem dL_mast_192 : decode cL_mast 192 = .ok (.iconst 0, 1) := by decide +kernel
theorem dL_mast_193 : decode cL_mast 193 = .ok (.istore 9, 2) := by decide +kernel
theorem dL_mast_195 : decode cL_mast 195 = .ok (.iload 9, 2) := by decide +kernel
theorem dL_mast_197 : decode cL_mast 197 = .ok (.iload 8, 2) := by decide +kernel
theorem dL_mast_199 : decode cL_mast 199 = .ok (.if_icmp .ge 140, 3) := by decide +kernel
theorem dL_mast_202 : decode cL_mast 202 = .ok (.aload_n 2, 1) := by decide +kernel
theorem dL_mast_203 : decode cL_mast 203 = .ok (.iload 7, 2) := by decide +kernel
theorem dL_mast_205 : decode cL_mast 205 = .ok (.iload 9, 2) := by decide +kernel
theorem dL_mast_207 : decode cL_mast 207 = .ok (.invokestatic 18, 3) := by decide +kernel
theorem dL_mast_210 : decode cL_mast 210 = .ok (.istore 10, 2) := by decide +kernel
theorem dL_mast_212 : decode cL_mast 212 = .ok (.aload_n 0, 1) := by decide +kernel
theorem dL_mast_213 : decode cL_mast 213 = .ok (.iload 7, 2) := by decide +kernel
theorem dL_mast_215 : decode cL_mast 215 = .ok (.iload 9, 2) := by decide +kernel
theorem dL_mast_217 : decode cL_mast 217 = .ok (.iconst 1, 1) := by decide +kernel
theorem dL_mast_218 : decode cL_mast 218 = .ok (.iadd, 1) := by decide +kernel
theorem dL_mast_219 : decode cL_mast 219 = .ok (.iconst 0, 1) := by decide +kernel
theorem dL_mast_220 : decode cL_mast 220 = .ok (.invokevirtual 48, 3) := by decide +kernel
theorem dL_mast_223 : decode cL_mast 223 = .ok (.aload_n 2, 1) := by decide +kernel
theorem dL_mast_224 : decode cL_mast 224 = .ok (.iconst 4, 1) := by decide +kernel
theorem dL_mast_225 : decode cL_mast 225 = .ok (.iload 7, 2) := by decide +kernel
theorem dL_mast_227 : decode cL_mast 227 = .ok (.imul, 1) := by decide +kernel
theorem dL_mast_228 : decode cL_mast 228 = .ok (.iload 9, 2) := by decide +kernel
theorem dL_mast_230 : decode cL_mast 230 = .ok (.iadd, 1) := by decide +kernel
theorem dL_mast_231 : decode cL_mast 231 = .ok (.iaload, 1) := by decide +kernel
theorem dL_mast_232 : decode cL_mast 232 = .ok (.if_icmp .ne 99, 3) := by decide +kernel
theorem dL_mast_235 : decode cL_mast 235 = .ok (.aload_n 0, 1) := by decide +kernel
theorem dL_mast_236 : decode cL_mast 236 = .ok (.iload 7, 2) := by decide +kernel
theorem dL_mast_238 : decode cL_mast 238 = .ok (.iload 9, 2) := by decide +kernel
theorem dL_mast_240 : decode cL_mast 240 = .ok (.iconst 1, 1) := by decide +kernel
theorem dL_mast_241 : decode cL_mast 241 = .ok (.iadd, 1) := by decide +kernel
theorem dL_mast_242 : decode cL_mast 242 = .ok (.iconst 1, 1) := by decide +kernel
theorem dL_mast_243 : decode cL_mast 243 = .ok (.invokevirtual 48, 3) := by decide +kernel
theorem dL_mast_246 : decode cL_mast 246 = .ok (.iload 10, 2) := by decide +kernel
theorem dL_mast_248 : decode cL_mast 248 = .ok (.if_icmp .ne 83, 3) := by decide +kernel
theorem dL_mast_251 : decode cL_mast 251 = .ok (.aload_n 0, 1) := by decide +kernel
theorem dL_mast_252 : decode cL_mast 252 = .ok (.iload 7, 2) := by decide +kernel
theorem dL_mast_254 : decode cL_mast 254 = .ok (.iload 9, 2) := by decide +kernel
theorem dL_mast_256 : decode cL_mast 256 = .ok (.iconst 1, 1) := by decide +kernel
theorem dL_mast_257 : decode cL_mast 257 = .ok (.iadd, 1) := by decide +kernel
theorem dL_mast_258 : decode cL_mast 258 = .ok (.iconst 2, 1) := by decide +kernel
theorem dL_mast_259 : decode cL_mast 259 = .ok (.invokevirtual 48, 3) := by decide +kernel
theorem dL_mast_262 : decode cL_mast 262 = .ok (.aload_n 1, 1) := by decide +kernel
theorem dL_mast_263 : decode cL_mast 263 = .ok (.iconst 3, 1) := by decide +kernel
theorem dL_mast_264 : decode cL_mast 264 = .ok (.iload 10, 2) := by decide +kernel
theorem dL_mast_266 : decode cL_mast 266 = .ok (.imul, 1) := by decide +kernel
theorem dL_mast_267 : decode cL_mast 267 = .ok (.iconst 2, 1) := by decide +kernel
theorem dL_mast_268 : decode cL_mast 268 = .ok (.iadd, 1) := by decide +kernel
theorem dL_mast_269 : decode cL_mast 269 = .ok (.iaload, 1) := by decide +kernel
theorem dL_mast_270 : decode cL_mast 270 = .ok (.aload 5, 2) := by decide +kernel
theorem dL_mast_272 : decode cL_mast 272 = .ok (.iconst 1, 1) := by decide +kernel
theorem dL_mast_273 : decode cL_mast 273 = .ok (.iaload, 1) := by decide +kernel
theorem dL_mast_274 : decode cL_mast 274 = .ok (.if_icmp .le 7, 3) := by decide +kernel
theorem dL_mast_277 : decode cL_mast 277 = .ok (.iconst 1, 1) := by decide +kernel
theorem dL_mast_278 : decode cL_mast 278 = .ok (.goto 4, 3) := by decide +kernel
theorem dL_mast_281 : decode cL_mast 281 = .ok (.iconst 0, 1) := by decide +kernel
theorem dL_mast_282 : decode cL_mast 282 = .ok (.if_icmp .ne 49, 3) := by decide +kernel
theorem dL_mast_285 : decode cL_mast 285 = .ok (.aload_n 0, 1) := by decide +kernel
theorem dL_mast_286 : decode cL_mast 286 = .ok (.iconst 0, 1) := by decide +kernel
theorem dL_mast_287 : decode cL_mast 287 = .ok (.iload 7, 2) := by decide +kernel
theorem dL_mast_289 : decode cL_mast 289 = .ok (.iload 9, 2) := by decide +kernel
theorem dL_mast_291 : decode cL_mast 291 = .ok (.iconst 1, 1) := by decide +kernel
theorem dL_mast_292 : decode cL_mast 292 = .ok (.iadd, 1) := by decide +kernel
theorem dL_mast_293 : decode cL_mast 293 = .ok (.invokevirtual 52, 3) := by decide +kernel
theorem dL_mast_296 : decode cL_mast 296 = .ok (.aload_n 1, 1) := by decide +kernel
theorem dL_mast_297 : decode cL_mast 297 = .ok (.aload 5, 2) := by decide +kernel
theorem dL_mast_299 : decode cL_mast 299 = .ok (.iconst 0, 1) := by decide +kernel
theorem dL_mast_300 : decode cL_mast 300 = .ok (.iload 10, 2) := by decide +kernel
theorem dL_mast_302 : decode cL_mast 302 = .ok (.invokestatic 22, 3) := by decide +kernel
theorem dL_mast_305 : decode cL_mast 305 = .ok (.if_icmp .ne 26, 3) := by decide +kernel
theorem dL_mast_308 : decode cL_mast 308 = .ok (.aload_n 0, 1) := by decide +kernel
theorem dL_mast_309 : decode cL_mast 309 = .ok (.iconst 1, 1) := by decide +kernel
theorem dL_mast_310 : decode cL_mast 310 = .ok (.iload 7, 2) := by decide +kernel
theorem dL_mast_312 : decode cL_mast 312 = .ok (.iload 9, 2) := by decide +kernel
theorem dL_mast_314 : decode cL_mast 314 = .ok (.iconst 1, 1) := by decide +kernel
theorem dL_mast_315 : decode cL_mast 315 = .ok (.iadd, 1) := by decide +kernel
theorem dL_mast_316 : decode cL_mast 316 = .ok (.invokevirtual 52, 3) := by decide +kernel
theorem dL_mast_319 : decode cL_mast 319 = .ok (.aload_n 1, 1) := by decide +kernel
theorem dL_mast_320 : decode cL_mast 320 = .ok (.aload 5, 2) := by decide +kernel
theorem dL_mast_322 : decode cL_mast 322 = .ok (.iconst 1, 1) := by decide +kernel
theorem dL_mast_323 : decode cL_mast 323 = .ok (.iload 10, 2) := by decide +kernel
theorem dL_mast_325 : decode cL_mast 325 = .ok (.invokestatic 22, 3) := by decide +kernel
theorem dL_mast_328 : decode cL_mast 328 = .ok (.if_icmp .eq 5, 3) := by decide +kernel
theorem dL_mast_331 : decode cL_mast 331 = .ok (.iconst 0, 1) := by decide +kernel
theorem dL_mast_332 : decode cL_mast 332 = .ok (.ireturn, 1) := by decide +kernel
theorem dL_mast_333 : decode cL_mast 333 = .ok (.iinc 9 1, 3) := by decide +kernel
theorem dL_mast_336 : decode cL_mast 336 = .ok (.goto (-141), 3) := by decide +kernel
theorem dL_mast_339 : decode cL_mast 339 = .ok (.aload_n 0, 1) := by decide +kernel
theorem dL_mast_340 : decode cL_mast 340 = .ok (.iload 7, 2) := by decide +kernel
theorem dL_mast_342 : decode cL_mast 342 = .ok (.iload 8, 2) := by decide +kernel
theorem dL_mast_344 : decode cL_mast 344 = .ok (.iconst 1, 1) := by decide +kernel
theorem dL_mast_345 : decode cL_mast 345 = .ok (.iadd, 1) := by decide +kernel
theorem dL_mast_346 : decode cL_mast 346 = .ok (.iconst 0, 1) := by decide +kernel
theorem dL_mast_347 : decode cL_mast 347 = .ok (.invokevirtual 48, 3) := by decide +kernel
theorem dL_mast_350 : decode cL_mast 350 = .ok (.iconst (-1), 1) := by decide +kernel
theorem dL_mast_351 : decode cL_mast 351 = .ok (.if_icmp .ne 18, 3) := by decide +kernel
theorem dL_mast_354 : decode cL_mast 354 = .ok (.aload_n 0, 1) := by decide +kernel
theorem dL_mast_355 : decode cL_mast 355 = .ok (.iconst 1, 1) := by decide +kernel
theorem dL_mast_356 : decode cL_mast 356 = .ok (.iload 7, 2) := by decide +kernel
theorem dL_mast_358 : decode cL_mast 358 = .ok (.iload 8, 2) := by decide +kernel
theorem dL_mast_360 : decode cL_mast 360 = .ok (.iconst 1, 1) := by decide +kernel
theorem dL_mast_361 : decode cL_mast 361 = .ok (.iadd, 1) := by decide +kernel
theorem dL_mast_362 : decode cL_mast 362 = .ok (.invokevirtual 52, 3) := by decide +kernel
theorem dL_mast_365 : decode cL_mast 365 = .ok (.iconst (-1), 1) := by decide +kernel
theorem dL_mast_366 : decode cL_mast 366 = .ok (.if_icmp .eq 5, 3) := by decide +kernel
theorem dL_mast_369 : decode cL_mast 369 = .ok (.iconst 0, 1) := by decide +kernel
theorem dL_mast_370 : decode cL_mast 370 = .ok (.ireturn, 1) := by decide +kernel
theorem dL_mast_371 : decode cL_mast 371 = .ok (.iinc 7 1, 3) := by decide +kernel
theorem dL_mast_374 : decode cL_mast 374 = .ok (.goto (-203), 3) := by decide +kernel
theorem dL_mast_377 : decode cL_mast 377 = .ok (.aload_n 2, 1) := by decide +kernel
theorem dL_mast_378 : decode cL_mast 378 = .ok (.invokestatic 30, 3) := by decide +kernel
theorem dL_mast_381 : decode cL_mast 381 = .ok (.istore 7, 2) := by decide +kernel
theorem dL_mast_383 : decode cL_mast 383 = .ok (.iconst 0, 1) := by decide +kernel
theorem dL_mast_384 : decode cL_mast 384 = .ok (.istore 8, 2) := by decide +kernel
theorem dL_mast_386 : decode cL_mast 386 = .ok (.iload 8, 2) := by decide +kernel
theorem dL_mast_388 : decode cL_mast 388 = .ok (.iconst 2, 1) := by decide +kernel
theorem dL_mast_389 : decode cL_mast 389 = .ok (.if_icmp .ge 89, 3) := by decide +kernel
theorem dL_mast_392 : decode cL_mast 392 = .ok (.iconst 0, 1) := by decide +kernel
theorem dL_mast_393 : decode cL_mast 393 = .ok (.istore 9, 2) := by decide +kernel
theorem dL_mast_395 : decode cL_mast 395 = .ok (.iload 9, 2) := by decide +kernel
theorem dL_mast_397 : decode cL_mast 397 = .ok (.iload 7, 2) := by decide +kernel
theorem dL_mast_399 : decode cL_mast 399 = .ok (.if_icmp .ge 40, 3) := by decide +kernel
theorem dL_mast_402 : decode cL_mast 402 = .ok (.aload_n 0, 1) := by decide +kernel
theorem dL_mast_403 : decode cL_mast 403 = .ok (.iload 8, 2) := by decide +kernel
theorem dL_mast_405 : decode cL_mast 405 = .ok (.iload 9, 2) := by decide +kernel
theorem dL_mast_407 : decode cL_mast 407 = .ok (.invokevirtual 55, 3) := by decide +kernel
theorem dL_mast_410 : decode cL_mast 410 = .ok (.aload_n 1, 1) := by decide +kernel
theorem dL_mast_411 : decode cL_mast 411 = .ok (.aload_n 2, 1) := by decide +kernel
theorem dL_mast_412 : decode cL_mast 412 = .ok (.aload_n 3, 1) := by decide +kernel
theorem dL_mast_413 : decode cL_mast 413 = .ok (.aload 5, 2) := by decide +kernel
theorem dL_mast_415 : decode cL_mast 415 = .ok (.iload 8, 2) := by decide +kernel
theorem dL_mast_417 : decode cL_mast 417 = .ok (.aload_n 2, 1) := by decide +kernel
theorem dL_mast_418 : decode cL_mast 418 = .ok (.iload 8, 2) := by decide +kernel
theorem dL_mast_420 : decode cL_mast 420 = .ok (.iload 9, 2) := by decide +kernel
theorem dL_mast_422 : decode cL_mast 422 = .ok (.invokestatic 38, 3) := by decide +kernel
theorem dL_mast_425 : decode cL_mast 425 = .ok (.invokestatic 26, 3) := by decide +kernel
theorem dL_mast_428 : decode cL_mast 428 = .ok (.if_icmp .eq 5, 3) := by decide +kernel
theorem dL_mast_431 : decode cL_mast 431 = .ok (.iconst 0, 1) := by decide +kernel
theorem dL_mast_432 : decode cL_mast 432 = .ok (.ireturn, 1) := by decide +kernel
theorem dL_mast_433 : decode cL_mast 433 = .ok (.iinc 9 1, 3) := by decide +kernel
theorem dL_mast_436 : decode cL_mast 436 = .ok (.goto (-41), 3) := by decide +kernel
theorem dL_mast_439 : decode cL_mast 439 = .ok (.aload_n 0, 1) := by decide +kernel
theorem dL_mast_440 : decode cL_mast 440 = .ok (.iload 8, 2) := by decide +kernel
theorem dL_mast_442 : decode cL_mast 442 = .ok (.iload 7, 2) := by decide +kernel
theorem dL_mast_444 : decode cL_mast 444 = .ok (.invokevirtual 55, 3) := by decide +kernel
theorem dL_mast_447 : decode cL_mast 447 = .ok (.iconst (-1), 1) := by decide +kernel
theorem dL_mast_448 : decode cL_mast 448 = .ok (.if_icmp .ne 22, 3) := by decide +kernel
theorem dL_mast_451 : decode cL_mast 451 = .ok (.aload_n 0, 1) := by decide +kernel
theorem dL_mast_452 : decode cL_mast 452 = .ok (.iload 8, 2) := by decide +kernel
theorem dL_mast_454 : decode cL_mast 454 = .ok (.invokevirtual 57, 3) := by decide +kernel
theorem dL_mast_457 : decode cL_mast 457 = .ok (.aload_n 1, 1) := by decide +kernel
theorem dL_mast_458 : decode cL_mast 458 = .ok (.aload_n 2, 1) := by decide +kernel
theorem dL_mast_459 : decode cL_mast 459 = .ok (.aload_n 3, 1) := by decide +kernel
theorem dL_mast_460 : decode cL_mast 460 = .ok (.aload 5, 2) := by decide +kernel
theorem dL_mast_462 : decode cL_mast 462 = .ok (.iload 8, 2) := by decide +kernel
theorem dL_mast_464 : decode cL_mast 464 = .ok (.invokestatic 34, 3) := by decide +kernel
theorem dL_mast_467 : decode cL_mast 467 = .ok (.if_icmp .eq 5, 3) := by decide +kernel
theorem dL_mast_470 : decode cL_mast 470 = .ok (.iconst 0, 1) := by decide +kernel
theorem dL_mast_471 : decode cL_mast 471 = .ok (.ireturn, 1) := by decide +kernel
theorem dL_mast_472 : decode cL_mast 472 = .ok (.iinc 8 1, 3) := by decide +kernel
theorem dL_mast_475 : decode cL_mast 475 = .ok (.goto (-89), 3) := by decide +kernel
theorem dL_mast_478 : decode cL_mast 478 = .ok (.iconst 0, 1) := by decide +kernel
theorem dL_mast_479 : decode cL_mast 479 = .ok (.istore 8, 2) := by decide +kernel
theorem dL_mast_481 : decode cL_mast 481 = .ok (.iload 8, 2) := by decide +kernel
theorem dL_mast_483 : decode cL_mast 483 = .ok (.aload 5, 2) := by decide +kernel
theorem dL_mast_485 : decode cL_mast 485 = .ok (.iconst 5, 1) := by decide +kernel
theorem dL_mast_486 : decode cL_mast 486 = .ok (.iaload, 1) := by decide +kernel
theorem dL_mast_487 : decode cL_mast 487 = .ok (.if_icmp .ge 45, 3) := by decide +kernel
theorem dL_mast_490 : decode cL_mast 490 = .ok (.aload_n 0, 1) := by decide +kernel
theorem dL_mast_491 : decode cL_mast 491 = .ok (.iload 8, 2) := by decide +kernel
theorem dL_mast_493 : decode cL_mast 493 = .ok (.iconst 0, 1) := by decide +kernel
theorem dL_mast_494 : decode cL_mast 494 = .ok (.invokevirtual 60, 3) := by decide +kernel
theorem dL_mast_497 : decode cL_mast 497 = .ok (.aload_n 3, 1) := by decide +kernel
theorem dL_mast_498 : decode cL_mast 498 = .ok (.iconst 2, 1) := by decide +kernel
theorem dL_mast_499 : decode cL_mast 499 = .ok (.iload 8, 2) := by decide +kernel
theorem dL_mast_501 : decode cL_mast 501 = .ok (.imul, 1) := by decide +kernel
theorem dL_mast_502 : decode cL_mast 502 = .ok (.iaload, 1) := by decide +kernel
theorem dL_mast_503 : decode cL_mast 503 = .ok (.if_icmp .ne 21, 3) := by decide +kernel
theorem dL_mast_506 : decode cL_mast 506 = .ok (.aload_n 0, 1) := by decide +kernel
theorem dL_mast_507 : decode cL_mast 507 = .ok (.iload 8, 2) := by decide +kernel
theorem dL_mast_509 : decode cL_mast 509 = .ok (.iconst 1, 1) := by decide +kernel
theorem dL_mast_510 : decode cL_mast 510 = .ok (.invokevirtual 60, 3) := by decide +kernel
theorem dL_mast_513 : decode cL_mast 513 = .ok (.aload_n 3, 1) := by decide +kernel
theorem dL_mast_514 : decode cL_mast 514 = .ok (.iconst 2, 1) := by decide +kernel
theorem dL_mast_515 : decode cL_mast 515 = .ok (.iload 8, 2) := by decide +kernel
theorem dL_mast_517 : decode cL_mast 517 = .ok (.imul, 1) := by decide +kernel
theorem dL_mast_518 : decode cL_mast 518 = .ok (.iconst 1, 1) := by decide +kernel
theorem dL_mast_519 : decode cL_mast 519 = .ok (.iadd, 1) := by decide +kernel
theorem dL_mast_520 : decode cL_mast 520 = .ok (.iaload, 1) := by decide +kernel
theorem dL_mast_521 : decode cL_mast 521 = .ok (.if_icmp .eq 5, 3) := by decide +kernel
theorem dL_mast_524 : decode cL_mast 524 = .ok (.iconst 0, 1) := by decide +kernel
theorem dL_mast_525 : decode cL_mast 525 = .ok (.ireturn, 1) := by decide +kernel
theorem dL_mast_526 : decode cL_mast 526 = .ok (.iinc 8 1, 3) := by decide +kernel
theorem dL_mast_529 : decode cL_mast 529 = .ok (.goto (-48), 3) := by decide +kernel
theorem dL_mast_532 : decode cL_mast 532 = .ok (.aload 5, 2) := by decide +kernel
theorem dL_mast_534 : decode cL_mast 534 = .ok (.bipush 6, 2) := by decide +kernel
theorem dL_mast_536 : decode cL_mast 536 = .ok (.iaload, 1) := by decide +kernel
theorem dL_mast_537 : decode cL_mast 537 = .ok (.bipush 8, 2) := by decide +kernel
theorem dL_mast_539 : decode cL_mast 539 = .ok (.if_icmp .le 14, 3) := by decide +kernel
theorem dL_mast_542 : decode cL_mast 542 = .ok (.aload 5, 2) := by decide +kernel
theorem dL_mast_544 : decode cL_mast 544 = .ok (.bipush 6, 2) := by decide +kernel
theorem dL_mast_546 : decode cL_mast 546 = .ok (.iaload, 1) := by decide +kernel
theorem dL_mast_547 : decode cL_mast 547 = .ok (.bipush 8, 2) := by decide +kernel
theorem dL_mast_549 : decode cL_mast 549 = .ok (.isub, 1) := by decide +kernel
theorem dL_mast_550 : decode cL_mast 550 = .ok (.goto 4, 3) := by decide +kernel
theorem dL_mast_553 : decode cL_mast 553 = .ok (.iconst 0, 1) := by decide +kernel
theorem dL_mast_554 : decode cL_mast 554 = .ok (.istore 8, 2) := by decide +kernel
theorem dL_mast_556 : decode cL_mast 556 = .ok (.iload 8, 2) := by decide +kernel
theorem dL_mast_558 : decode cL_mast 558 = .ok (.istore 9, 2) := by decide +kernel
theorem dL_mast_560 : decode cL_mast 560 = .ok (.iload 9, 2) := by decide +kernel
theorem dL_mast_562 : decode cL_mast 562 = .ok (.aload 5, 2) := by decide +kernel
theorem dL_mast_564 : decode cL_mast 564 = .ok (.bipush 6, 2) := by decide +kernel
theorem dL_mast_566 : decode cL_mast 566 = .ok (.iaload, 1) := by decide +kernel
theorem dL_mast_567 : decode cL_mast 567 = .ok (.if_icmp .ge 90, 3) := by decide +kernel
theorem dL_mast_570 : decode cL_mast 570 = .ok (.iconst 1, 1) := by decide +kernel
theorem dL_mast_571 : decode cL_mast 571 = .ok (.istore 10, 2) := by decide +kernel
theorem dL_mast_573 : decode cL_mast 573 = .ok (.iload 10, 2) := by decide +kernel
theorem dL_mast_575 : decode cL_mast 575 = .ok (.aload 4, 2) := by decide +kernel
theorem dL_mast_577 : decode cL_mast 577 = .ok (.bipush 6, 2) := by decide +kernel
theorem dL_mast_579 : decode cL_mast 579 = .ok (.iload 9, 2) := by decide +kernel
theorem dL_mast_581 : decode cL_mast 581 = .ok (.iload 8, 2) := by decide +kernel
theorem dL_mast_583 : decode cL_mast 583 = .ok (.isub, 1) := by decide +kernel
theorem dL_mast_584 : decode cL_mast 584 = .ok (.imul, 1) := by decide +kernel
theorem dL_mast_585 : decode cL_mast 585 = .ok (.iaload, 1) := by decide +kernel
theorem dL_mast_586 : decode cL_mast 586 = .ok (.if_icmp .gt 39, 3) := by decide +kernel
theorem dL_mast_589 : decode cL_mast 589 = .ok (.aload_n 0, 1) := by decide +kernel
theorem dL_mast_590 : decode cL_mast 590 = .ok (.iload 9, 2) := by decide +kernel
theorem dL_mast_592 : decode cL_mast 592 = .ok (.iload 8, 2) := by decide +kernel
theorem dL_mast_594 : decode cL_mast 594 = .ok (.isub, 1) := by decide +kernel
theorem dL_mast_595 : decode cL_mast 595 = .ok (.iload 10, 2) := by decide +kernel
theorem dL_mast_597 : decode cL_mast 597 = .ok (.invokevirtual 63, 3) := by decide +kernel
theorem dL_mast_600 : decode cL_mast 600 = .ok (.aload 4, 2) := by decide +kernel
theorem dL_mast_602 : decode cL_mast 602 = .ok (.bipush 6, 2) := by decide +kernel
theorem dL_mast_604 : decode cL_mast 604 = .ok (.iload 9, 2) := by decide +kernel
theorem dL_mast_606 : decode cL_mast 606 = .ok (.iload 8, 2) := by decide +kernel
theorem dL_mast_608 : decode cL_mast 608 = .ok (.isub, 1) := by decide +kernel
theorem dL_mast_609 : decode cL_mast 609 = .ok (.imul, 1) := by decide +kernel
theorem dL_mast_610 : decode cL_mast 610 = .ok (.iload 10, 2) := by decide +kernel
theorem dL_mast_612 : decode cL_mast 612 = .ok (.iadd, 1) := by decide +kernel
theorem dL_mast_613 : decode cL_mast 613 = .ok (.iaload, 1) := by decide +kernel
theorem dL_mast_614 : decode cL_mast 614 = .ok (.if_icmp .eq 5, 3) := by decide +kernel
theorem dL_mast_617 : decode cL_mast 617 = .ok (.iconst 0, 1) := by decide +kernel
theorem dL_mast_618 : decode cL_mast 618 = .ok (.ireturn, 1) := by decide +kernel
theorem dL_mast_619 : decode cL_mast 619 = .ok (.iinc 10 1, 3) := by decide +kernel
theorem dL_mast_622 : decode cL_mast 622 = .ok (.goto (-49), 3) := by decide +kernel
theorem dL_mast_625 : decode cL_mast 625 = .ok (.aload_n 0, 1) := by decide +kernel
theorem dL_mast_626 : decode cL_mast 626 = .ok (.iload 9, 2) := by decide +kernel
theorem dL_mast_628 : decode cL_mast 628 = .ok (.iload 8, 2) := by decide +kernel
theorem dL_mast_630 : decode cL_mast 630 = .ok (.isub, 1) := by decide +kernel
theorem dL_mast_631 : decode cL_mast 631 = .ok (.iconst 0, 1) := by decide +kernel
theorem dL_mast_632 : decode cL_mast 632 = .ok (.invokevirtual 63, 3) := by decide +kernel
theorem dL_mast_635 : decode cL_mast 635 = .ok (.aload 4, 2) := by decide +kernel
theorem dL_mast_637 : decode cL_mast 637 = .ok (.bipush 6, 2) := by decide +kernel
theorem dL_mast_639 : decode cL_mast 639 = .ok (.iload 9, 2) := by decide +kernel
theorem dL_mast_641 : decode cL_mast 641 = .ok (.iload 8, 2) := by decide +kernel
theorem dL_mast_643 : decode cL_mast 643 = .ok (.isub, 1) := by decide +kernel
theorem dL_mast_644 : decode cL_mast 644 = .ok (.imul, 1) := by decide +kernel
theorem dL_mast_645 : decode cL_mast 645 = .ok (.iaload, 1) := by decide +kernel
theorem dL_mast_646 : decode cL_mast 646 = .ok (.if_icmp .eq 5, 3) := by decide +kernel
theorem dL_mast_649 : decode cL_mast 649 = .ok (.iconst 0, 1) := by decide +kernel
theorem dL_mast_650 : decode cL_mast 650 = .ok (.ireturn, 1) := by decide +kernel
theorem dL_mast_651 : decode cL_mast 651 = .ok (.iinc 9 1, 3) := by decide +kernel
theorem dL_mast_654 : decode cL_mast 654 = .ok (.goto (-94), 3) := by decide +kernel
theorem dL_mast_657 : decode cL_mast 657 = .ok (.aload_n 0, 1) := by decide +kernel
theorem dL_mast_658 : decode cL_mast 658 = .ok (.invokevirtual 66, 3) := by decide +kernel
theorem dL_mast_661 : decode cL_mast 661 = .ok (.aload_n 1, 1) := by decide +kernel
theorem dL_mast_662 : decode cL_mast 662 = .ok (.aload_n 2, 1) := by decide +kernel
theorem dL_mast_663 : decode cL_mast 663 = .ok (.aload_n 3, 1) := by decide +kernel
theorem dL_mast_664 : decode cL_mast 664 = .ok (.aload 5, 2) := by decide +kernel
theorem dL_mast_666 : decode cL_mast 666 = .ok (.invokestatic 70, 3) := by decide +kernel
theorem dL_mast_669 : decode cL_mast 669 = .ok (.ifCond .eq 7, 3) := by decide +kernel
theorem dL_mast_672 : decode cL_mast 672 = .ok (.iconst 1, 1) := by decide +kernel
theorem dL_mast_673 : decode cL_mast 673 = .ok (.goto 4, 3) := by decide +kernel
theorem dL_mast_676 : decode cL_mast 676 = .ok (.iconst 0, 1) := by decide +kernel
theorem dL_mast_677 : decode cL_mast 677 = .ok (.if_icmp .ne 162, 3) := by decide +kernel
theorem dL_mast_680 : decode cL_mast 680 = .ok (.aload_n 0, 1) := by decide +kernel
theorem dL_mast_681 : decode cL_mast 681 = .ok (.iconst 0, 1) := by decide +kernel
theorem dL_mast_682 : decode cL_mast 682 = .ok (.invokevirtual 74, 3) := by decide +kernel
theorem dL_mast_685 : decode cL_mast 685 = .ok (.aload 5, 2) := by decide +kernel
theorem dL_mast_687 : decode cL_mast 687 = .ok (.iconst 1, 1) := by decide +kernel
theorem dL_mast_688 : decode cL_mast 688 = .ok (.iaload, 1) := by decide +kernel
theorem dL_mast_689 : decode cL_mast 689 = .ok (.if_icmp .ne 150, 3) := by decide +kernel
theorem dL_mast_692 : decode cL_mast 692 = .ok (.aload_n 0, 1) := by decide +kernel
theorem dL_mast_693 : decode cL_mast 693 = .ok (.iconst 1, 1) := by decide +kernel
theorem dL_mast_694 : decode cL_mast 694 = .ok (.invokevirtual 74, 3) := by decide +kernel
theorem dL_mast_697 : decode cL_mast 697 = .ok (.aload 5, 2) := by decide +kernel
theorem dL_mast_699 : decode cL_mast 699 = .ok (.iconst 2, 1) := by decide +kernel
theorem dL_mast_700 : decode cL_mast 700 = .ok (.iaload, 1) := by decide +kernel
theorem dL_mast_701 : decode cL_mast 701 = .ok (.if_icmp .ne 138, 3) := by decide +kernel
theorem dL_mast_704 : decode cL_mast 704 = .ok (.aload_n 0, 1) := by decide +kernel
theorem dL_mast_705 : decode cL_mast 705 = .ok (.iconst 2, 1) := by decide +kernel
theorem dL_mast_706 : decode cL_mast 706 = .ok (.invokevirtual 74, 3) := by decide +kernel
theorem dL_mast_709 : decode cL_mast 709 = .ok (.aload 5, 2) := by decide +kernel
theorem dL_mast_711 : decode cL_mast 711 = .ok (.iconst 0, 1) := by decide +kernel
theorem dL_mast_712 : decode cL_mast 712 = .ok (.iaload, 1) := by decide +kernel
theorem dL_mast_713 : decode cL_mast 713 = .ok (.if_icmp .ne 126, 3) := by decide +kernel
theorem dL_mast_716 : decode cL_mast 716 = .ok (.aload_n 0, 1) := by decide +kernel
theorem dL_mast_717 : decode cL_mast 717 = .ok (.iconst 3, 1) := by decide +kernel
theorem dL_mast_718 : decode cL_mast 718 = .ok (.invokevirtual 74, 3) := by decide +kernel
theorem dL_mast_721 : decode cL_mast 721 = .ok (.iload 6, 2) := by decide +kernel
theorem dL_mast_723 : decode cL_mast 723 = .ok (.if_icmp .ne 116, 3) := by decide +kernel
theorem dL_mast_726 : decode cL_mast 726 = .ok (.aload_n 0, 1) := by decide +kernel
theorem dL_mast_727 : decode cL_mast 727 = .ok (.iconst 4, 1) := by decide +kernel
theorem dL_mast_728 : decode cL_mast 728 = .ok (.invokevirtual 74, 3) := by decide +kernel
theorem dL_mast_731 : decode cL_mast 731 = .ok (.iload 7, 2) := by decide +kernel
theorem dL_mast_733 : decode cL_mast 733 = .ok (.if_icmp .ne 106, 3) := by decide +kernel
theorem dL_mast_736 : decode cL_mast 736 = .ok (.aload_n 0, 1) := by decide +kernel
theorem dL_mast_737 : decode cL_mast 737 = .ok (.iconst 5, 1) := by decide +kernel
theorem dL_mast_738 : decode cL_mast 738 = .ok (.invokevirtual 74, 3) := by decide +kernel
theorem dL_mast_741 : decode cL_mast 741 = .ok (.aload 5, 2) := by decide +kernel
theorem dL_mast_743 : decode cL_mast 743 = .ok (.iconst 5, 1) := by decide +kernel
theorem dL_mast_744 : decode cL_mast 744 = .ok (.iaload, 1) := by decide +kernel
theorem dL_mast_745 : decode cL_mast 745 = .ok (.if_icmp .ne 94, 3) := by decide +kernel
theorem dL_mast_748 : decode cL_mast 748 = .ok (.aload_n 0, 1) := by decide +kernel
theorem dL_mast_749 : decode cL_mast 749 = .ok (.bipush 6, 2) := by decide +kernel
theorem dL_mast_751 : decode cL_mast 751 = .ok (.invokevirtual 74, 3) := by decide +kernel
theorem dL_mast_754 : decode cL_mast 754 = .ok (.aload 5, 2) := by decide +kernel
theorem dL_mast_756 : decode cL_mast 756 = .ok (.iconst 3, 1) := by decide +kernel
theorem dL_mast_757 : decode cL_mast 757 = .ok (.iaload, 1) := by decide +kernel
theorem dL_mast_758 : decode cL_mast 758 = .ok (.if_icmp .ne 81, 3) := by decide +kernel
theorem dL_mast_761 : decode cL_mast 761 = .ok (.aload_n 0, 1) := by decide +kernel
theorem dL_mast_762 : decode cL_mast 762 = .ok (.bipush 7, 2) := by decide +kernel
theorem dL_mast_764 : decode cL_mast 764 = .ok (.invokevirtual 74, 3) := by decide +kernel
theorem dL_mast_767 : decode cL_mast 767 = .ok (.aload 5, 2) := by decide +kernel
theorem dL_mast_769 : decode cL_mast 769 = .ok (.iconst 4, 1) := by decide +kernel
theorem dL_mast_770 : decode cL_mast 770 = .ok (.iaload, 1) := by decide +kernel
theorem dL_mast_771 : decode cL_mast 771 = .ok (.if_icmp .ne 68, 3) := by decide +kernel
theorem dL_mast_774 : decode cL_mast 774 = .ok (.aload_n 0, 1) := by decide +kernel
theorem dL_mast_775 : decode cL_mast 775 = .ok (.bipush 8, 2) := by decide +kernel
theorem dL_mast_777 : decode cL_mast 777 = .ok (.invokevirtual 74, 3) := by decide +kernel
theorem dL_mast_780 : decode cL_mast 780 = .ok (.aload 5, 2) := by decide +kernel
theorem dL_mast_782 : decode cL_mast 782 = .ok (.bipush 6, 2) := by decide +kernel
theorem dL_mast_784 : decode cL_mast 784 = .ok (.iaload, 1) := by decide +kernel
theorem dL_mast_785 : decode cL_mast 785 = .ok (.iload 8, 2) := by decide +kernel
theorem dL_mast_787 : decode cL_mast 787 = .ok (.isub, 1) := by decide +kernel
theorem dL_mast_788 : decode cL_mast 788 = .ok (.if_icmp .ne 51, 3) := by decide +kernel
theorem dL_mast_791 : decode cL_mast 791 = .ok (.aload_n 0, 1) := by decide +kernel
theorem dL_mast_792 : decode cL_mast 792 = .ok (.bipush 9, 2) := by decide +kernel
theorem dL_mast_794 : decode cL_mast 794 = .ok (.invokevirtual 74, 3) := by decide +kernel
theorem dL_mast_797 : decode cL_mast 797 = .ok (.aload 5, 2) := by decide +kernel
theorem dL_mast_799 : decode cL_mast 799 = .ok (.bipush 6, 2) := by decide +kernel
theorem dL_mast_801 : decode cL_mast 801 = .ok (.iaload, 1) := by decide +kernel
theorem dL_mast_802 : decode cL_mast 802 = .ok (.if_icmp .ne 37, 3) := by decide +kernel
theorem dL_mast_805 : decode cL_mast 805 = .ok (.aload_n 0, 1) := by decide +kernel
theorem dL_mast_806 : decode cL_mast 806 = .ok (.aload 5, 2) := by decide +kernel
theorem dL_mast_808 : decode cL_mast 808 = .ok (.bipush 6, 2) := by decide +kernel
theorem dL_mast_810 : decode cL_mast 810 = .ok (.iaload, 1) := by decide +kernel
theorem dL_mast_811 : decode cL_mast 811 = .ok (.iload 8, 2) := by decide +kernel
theorem dL_mast_813 : decode cL_mast 813 = .ok (.isub, 1) := by decide +kernel
theorem dL_mast_814 : decode cL_mast 814 = .ok (.iconst 0, 1) := by decide +kernel
theorem dL_mast_815 : decode cL_mast 815 = .ok (.invokevirtual 63, 3) := by decide +kernel
theorem dL_mast_818 : decode cL_mast 818 = .ok (.iconst (-1), 1) := by decide +kernel
theorem dL_mast_819 : decode cL_mast 819 = .ok (.if_icmp .ne 20, 3) := by decide +kernel
theorem dL_mast_822 : decode cL_mast 822 = .ok (.aload_n 0, 1) := by decide +kernel
theorem dL_mast_823 : decode cL_mast 823 = .ok (.aload 5, 2) := by decide +kernel
theorem dL_mast_825 : decode cL_mast 825 = .ok (.iconst 5, 1) := by decide +kernel
theorem dL_mast_826 : decode cL_mast 826 = .ok (.iaload, 1) := by decide +kernel
theorem dL_mast_827 : decode cL_mast 827 = .ok (.iconst 0, 1) := by decide +kernel
theorem dL_mast_828 : decode cL_mast 828 = .ok (.invokevirtual 60, 3) := by decide +kernel
theorem dL_mast_831 : decode cL_mast 831 = .ok (.iconst (-1), 1) := by decide +kernel
theorem dL_mast_832 : decode cL_mast 832 = .ok (.if_icmp .ne 7, 3) := by decide +kernel
theorem dL_mast_835 : decode cL_mast 835 = .ok (.iconst 1, 1) := by decide +kernel
theorem dL_mast_836 : decode cL_mast 836 = .ok (.goto 4, 3) := by decide +kernel
theorem dL_mast_839 : decode cL_mast 839 = .ok (.iconst 0, 1) := by decide +kernel
theorem dL_mast_840 : decode cL_mast 840 = .ok (.ireturn, 1) := by decide +kernel
theorem dL_ahead_0 : decode cL_ahead 0 = .ok (.aload 4, 2) := by decide +kernel
theorem dL_ahead_2 : decode cL_ahead 2 = .ok (.iconst 1, 1) := by decide +kernel
theorem dL_ahead_3 : decode cL_ahead 3 = .ok (.iaload, 1) := by decide +kernel
theorem dL_ahead_4 : decode cL_ahead 4 = .ok (.istore 6, 2) := by decide +kernel
theorem dL_ahead_6 : decode cL_ahead 6 = .ok (.iconst 0, 1) := by decide +kernel
theorem dL_ahead_7 : decode cL_ahead 7 = .ok (.istore 7, 2) := by decide +kernel
theorem dL_ahead_9 : decode cL_ahead 9 = .ok (.iload 7, 2) := by decide +kernel
theorem dL_ahead_11 : decode cL_ahead 11 = .ok (.iconst 2, 1) := by decide +kernel
theorem dL_ahead_12 : decode cL_ahead 12 = .ok (.if_icmp .ge 129, 3) := by decide +kernel
theorem dL_ahead_15 : decode cL_ahead 15 = .ok (.bipush (-6), 2) := by decide +kernel
theorem dL_ahead_17 : decode cL_ahead 17 = .ok (.istore 8, 2) := by decide +kernel
theorem dL_ahead_19 : decode cL_ahead 19 = .ok (.bipush 9, 2) := by decide +kernel
theorem dL_ahead_21 : decode cL_ahead 21 = .ok (.istore 9, 2) := by decide +kernel
theorem dL_ahead_23 : decode cL_ahead 23 = .ok (.iload 9, 2) := by decide +kernel
theorem dL_ahead_25 : decode cL_ahead 25 = .ok (.ifCond .lt 48, 3) := by decide +kernel
theorem dL_ahead_28 : decode cL_ahead 28 = .ok (.aload 4, 2) := by decide +kernel
theorem dL_ahead_30 : decode cL_ahead 30 = .ok (.iconst 1, 1) := by decide +kernel
theorem dL_ahead_31 : decode cL_ahead 31 = .ok (.iload 9, 2) := by decide +kernel
theorem dL_ahead_33 : decode cL_ahead 33 = .ok (.iastore, 1) := by decide +kernel
theorem dL_ahead_34 : decode cL_ahead 34 = .ok (.aload_n 2, 1) := by decide +kernel
theorem dL_ahead_35 : decode cL_ahead 35 = .ok (.invokestatic 30, 3) := by decide +kernel
theorem dL_ahead_38 : decode cL_ahead 38 = .ok (.ifCond .le 25, 3) := by decide +kernel
theorem dL_ahead_41 : decode cL_ahead 41 = .ok (.aload_n 1, 1) := by decide +kernel
theorem dL_ahead_42 : decode cL_ahead 42 = .ok (.aload_n 2, 1) := by decide +kernel
theorem dL_ahead_43 : decode cL_ahead 43 = .ok (.aload_n 3, 1) := by decide +kernel
theorem dL_ahead_44 : decode cL_ahead 44 = .ok (.aload 4, 2) := by decide +kernel
theorem dL_ahead_46 : decode cL_ahead 46 = .ok (.iload 7, 2) := by decide +kernel
theorem dL_ahead_48 : decode cL_ahead 48 = .ok (.invokestatic 34, 3) := by decide +kernel
theorem dL_ahead_51 : decode cL_ahead 51 = .ok (.aload_n 2, 1) := by decide +kernel
theorem dL_ahead_52 : decode cL_ahead 52 = .ok (.invokestatic 30, 3) := by decide +kernel
theorem dL_ahead_55 : decode cL_ahead 55 = .ok (.if_icmp .ne 8, 3) := by decide +kernel
theorem dL_ahead_58 : decode cL_ahead 58 = .ok (.iload 9, 2) := by decide +kernel
theorem dL_ahead_60 : decode cL_ahead 60 = .ok (.goto 5, 3) := by decide +kernel
theorem dL_ahead_63 : decode cL_ahead 63 = .ok (.iload 8, 2) := by decide +kernel
theorem dL_ahead_65 : decode cL_ahead 65 = .ok (.istore 8, 2) := by decide +kernel
theorem dL_ahead_67 : decode cL_ahead 67 = .ok (.iinc 9 (-1), 3) := by decide +kernel
theorem dL_ahead_70 : decode cL_ahead 70 = .ok (.goto (-47), 3) := by decide +kernel
theorem dL_ahead_73 : decode cL_ahead 73 = .ok (.aload 4, 2) := by decide +kernel
theorem dL_ahead_75 : decode cL_ahead 75 = .ok (.iconst 1, 1) := by decide +kernel
theorem dL_ahead_76 : decode cL_ahead 76 = .ok (.iload 6, 2) := by decide +kernel
theorem dL_ahead_78 : decode cL_ahead 78 = .ok (.iastore, 1) := by decide +kernel
theorem dL_ahead_79 : decode cL_ahead 79 = .ok (.aload 4, 2) := by decide +kernel
theorem dL_ahead_81 : decode cL_ahead 81 = .ok (.iconst 2, 1) := by decide +kernel
theorem dL_ahead_82 : decode cL_ahead 82 = .ok (.iconst 1, 1) := by decide +kernel
theorem dL_ahead_83 : decode cL_ahead 83 = .ok (.aload 4, 2) := by decide +kernel
theorem dL_ahead_85 : decode cL_ahead 85 = .ok (.iconst 2, 1) := by decide +kernel
theorem dL_ahead_86 : decode cL_ahead 86 = .ok (.iaload, 1) := by decide +kernel
theorem dL_ahead_87 : decode cL_ahead 87 = .ok (.isub, 1) := by decide +kernel
theorem dL_ahead_88 : decode cL_ahead 88 = .ok (.iastore, 1) := by decide +kernel
theorem dL_ahead_89 : decode cL_ahead 89 = .ok (.aload_n 1, 1) := by decide +kernel
theorem dL_ahead_90 : decode cL_ahead 90 = .ok (.aload_n 2, 1) := by decide +kernel
theorem dL_ahead_91 : decode cL_ahead 91 = .ok (.aload_n 3, 1) := by decide +kernel
theorem dL_ahead_92 : decode cL_ahead 92 = .ok (.aload 4, 2) := by decide +kernel
theorem dL_ahead_94 : decode cL_ahead 94 = .ok (.iload 7, 2) := by decide +kernel
theorem dL_ahead_96 : decode cL_ahead 96 = .ok (.invokestatic 34, 3) := by decide +kernel
theorem dL_ahead_99 : decode cL_ahead 99 = .ok (.istore 9, 2) := by decide +kernel
theorem dL_ahead_101 : decode cL_ahead 101 = .ok (.aload 4, 2) := by decide +kernel
theorem dL_ahead_103 : decode cL_ahead 103 = .ok (.iconst 2, 1) := by decide +kernel
theorem dL_ahead_104 : decode cL_ahead 104 = .ok (.iconst 1, 1) := by decide +kernel
theorem dL_ahead_105 : decode cL_ahead 105 = .ok (.aload 4, 2) := by decide +kernel
theorem dL_ahead_107 : decode cL_ahead 107 = .ok (.iconst 2, 1) := by decide +kernel
theorem dL_ahead_108 : decode cL_ahead 108 = .ok (.iaload, 1) := by decide +kernel
theorem dL_ahead_109 : decode cL_ahead 109 = .ok (.isub, 1) := by decide +kernel
theorem dL_ahead_110 : decode cL_ahead 110 = .ok (.iastore, 1) := by decide +kernel
theorem dL_ahead_111 : decode cL_ahead 111 = .ok (.aload_n 0, 1) := by decide +kernel
theorem dL_ahead_112 : decode cL_ahead 112 = .ok (.iload 7, 2) := by decide +kernel
theorem dL_ahead_114 : decode cL_ahead 114 = .ok (.invokevirtual 77, 3) := by decide +kernel
theorem dL_ahead_117 : decode cL_ahead 117 = .ok (.iload 8, 2) := by decide +kernel
theorem dL_ahead_119 : decode cL_ahead 119 = .ok (.if_icmp .ne 14, 3) := by decide +kernel
theorem dL_ahead_122 : decode cL_ahead 122 = .ok (.aload_n 0, 1) := by decide +kernel
theorem dL_ahead_123 : decode cL_ahead 123 = .ok (.iload 7, 2) := by decide +kernel
theorem dL_ahead_125 : decode cL_ahead 125 = .ok (.invokevirtual 80, 3) := by decide +kernel
theorem dL_ahead_128 : decode cL_ahead 128 = .ok (.iload 9, 2) := by decide +kernel
theorem dL_ahead_130 : decode cL_ahead 130 = .ok (.if_icmp .eq 5, 3) := by decide +kernel
theorem dL_ahead_133 : decode cL_ahead 133 = .ok (.iconst 0, 1) := by decide +kernel
theorem dL_ahead_134 : decode cL_ahead 134 = .ok (.ireturn, 1) := by decide +kernel
theorem dL_ahead_135 : decode cL_ahead 135 = .ok (.iinc 7 1, 3) := by decide +kernel
theorem dL_ahead_138 : decode cL_ahead 138 = .ok (.goto (-129), 3) := by decide +kernel
theorem dL_ahead_141 : decode cL_ahead 141 = .ok (.aload_n 1, 1) := by decide +kernel
theorem dL_ahead_142 : decode cL_ahead 142 = .ok (.aload_n 2, 1) := by decide +kernel
theorem dL_ahead_143 : decode cL_ahead 143 = .ok (.aload_n 3, 1) := by decide +kernel
theorem dL_ahead_144 : decode cL_ahead 144 = .ok (.aload 4, 2) := by decide +kernel
theorem dL_ahead_146 : decode cL_ahead 146 = .ok (.invokestatic 70, 3) := by decide +kernel
theorem dL_ahead_149 : decode cL_ahead 149 = .ok (.ifCond .eq 7, 3) := by decide +kernel
theorem dL_ahead_152 : decode cL_ahead 152 = .ok (.iconst 0, 1) := by decide +kernel
theorem dL_ahead_153 : decode cL_ahead 153 = .ok (.goto 5, 3) := by decide +kernel
theorem dL_ahead_156 : decode cL_ahead 156 = .ok (.bipush (-6), 2) := by decide +kernel
theorem dL_ahead_158 : decode cL_ahead 158 = .ok (.istore 7, 2) := by decide +kernel
theorem dL_ahead_160 : decode cL_ahead 160 = .ok (.bipush 24, 2) := by decide +kernel
theorem dL_ahead_162 : decode cL_ahead 162 = .ok (.istore 8, 2) := by decide +kernel
theorem dL_ahead_164 : decode cL_ahead 164 = .ok (.iload 8, 2) := by decide +kernel
theorem dL_ahead_166 : decode cL_ahead 166 = .ok (.ifCond .lt 79, 3) := by decide +kernel
theorem dL_ahead_169 : decode cL_ahead 169 = .ok (.iload 7, 2) := by decide +kernel
theorem dL_ahead_171 : decode cL_ahead 171 = .ok (.ifCond .eq 74, 3) := by decide +kernel
theorem dL_ahead_174 : decode cL_ahead 174 = .ok (.iload 8, 2) := by decide +kernel
theorem dL_ahead_176 : decode cL_ahead 176 = .ok (.iconst 5, 1) := by decide +kernel
theorem dL_ahead_177 : decode cL_ahead 177 = .ok (.idiv, 1) := by decide +kernel
theorem dL_ahead_178 : decode cL_ahead 178 = .ok (.iload 8, 2) := by decide +kernel
theorem dL_ahead_180 : decode cL_ahead 180 = .ok (.iconst 5, 1) := by decide +kernel
theorem dL_ahead_181 : decode cL_ahead 181 = .ok (.irem, 1) := by decide +kernel
theorem dL_ahead_182 : decode cL_ahead 182 = .ok (.if_icmp .ge 57, 3) := by decide +kernel
theorem dL_ahead_185 : decode cL_ahead 185 = .ok (.aload_n 2, 1) := by decide +kernel
theorem dL_ahead_186 : decode cL_ahead 186 = .ok (.iload 8, 2) := by decide +kernel
theorem dL_ahead_188 : decode cL_ahead 188 = .ok (.iconst 5, 1) := by decide +kernel
theorem dL_ahead_189 : decode cL_ahead 189 = .ok (.idiv, 1) := by decide +kernel
theorem dL_ahead_190 : decode cL_ahead 190 = .ok (.iload 8, 2) := by decide +kernel
theorem dL_ahead_192 : decode cL_ahead 192 = .ok (.iconst 5, 1) := by decide +kernel
theorem dL_ahead_193 : decode cL_ahead 193 = .ok (.irem, 1) := by decide +kernel
theorem dL_ahead_194 : decode cL_ahead 194 = .ok (.invokestatic 83, 3) := by decide +kernel
theorem dL_ahead_197 : decode cL_ahead 197 = .ok (.aload_n 1, 1) := by decide +kernel
theorem dL_ahead_198 : decode cL_ahead 198 = .ok (.aload_n 2, 1) := by decide +kernel
theorem dL_ahead_199 : decode cL_ahead 199 = .ok (.aload_n 3, 1) := by decide +kernel
theorem dL_ahead_200 : decode cL_ahead 200 = .ok (.aload 4, 2) := by decide +kernel
theorem dL_ahead_202 : decode cL_ahead 202 = .ok (.invokestatic 70, 3) := by decide +kernel
theorem dL_ahead_205 : decode cL_ahead 205 = .ok (.ifCond .eq 18, 3) := by decide +kernel
theorem dL_ahead_208 : decode cL_ahead 208 = .ok (.bipush 10, 2) := by decide +kernel
theorem dL_ahead_210 : decode cL_ahead 210 = .ok (.iload 8, 2) := by decide +kernel
theorem dL_ahead_212 : decode cL_ahead 212 = .ok (.iconst 5, 1) := by decide +kernel
theorem dL_ahead_213 : decode cL_ahead 213 = .ok (.idiv, 1) := by decide +kernel
theorem dL_ahead_214 : decode cL_ahead 214 = .ok (.imul, 1) := by decide +kernel
theorem dL_ahead_215 : decode cL_ahead 215 = .ok (.iload 8, 2) := by decide +kernel
theorem dL_ahead_217 : decode cL_ahead 217 = .ok (.iconst 5, 1) := by decide +kernel
theorem dL_ahead_218 : decode cL_ahead 218 = .ok (.irem, 1) := by decide +kernel
theorem dL_ahead_219 : decode cL_ahead 219 = .ok (.iadd, 1) := by decide +kernel
theorem dL_ahead_220 : decode cL_ahead 220 = .ok (.goto 5, 3) := by decide +kernel
