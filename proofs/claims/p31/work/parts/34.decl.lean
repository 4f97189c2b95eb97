theorem dL_cell_0 : decode cL_cell 0 = .ok (.iload_n 1, 1) := by decide +kernel
theorem dL_cell_1 : decode cL_cell 1 = .ok (.aload_n 0, 1) := by decide +kernel
theorem dL_cell_2 : decode cL_cell 2 = .ok (.arraylength, 1) := by decide +kernel
theorem dL_cell_3 : decode cL_cell 3 = .ok (.if_icmp .ge 9, 3) := by decide +kernel
theorem dL_cell_6 : decode cL_cell 6 = .ok (.aload_n 0, 1) := by decide +kernel
theorem dL_cell_7 : decode cL_cell 7 = .ok (.iload_n 1, 1) := by decide +kernel
theorem dL_cell_8 : decode cL_cell 8 = .ok (.iaload, 1) := by decide +kernel
theorem dL_cell_9 : decode cL_cell 9 = .ok (.goto 15, 3) := by decide +kernel
theorem dL_cell_12 : decode cL_cell 12 = .ok (.sipush 7919, 3) := by decide +kernel
theorem dL_cell_15 : decode cL_cell 15 = .ok (.iload_n 1, 1) := by decide +kernel
theorem dL_cell_16 : decode cL_cell 16 = .ok (.iconst 3, 1) := by decide +kernel
theorem dL_cell_17 : decode cL_cell 17 = .ok (.iadd, 1) := by decide +kernel
theorem dL_cell_18 : decode cL_cell 18 = .ok (.imul, 1) := by decide +kernel
theorem dL_cell_19 : decode cL_cell 19 = .ok (.iload_n 1, 1) := by decide +kernel
theorem dL_cell_20 : decode cL_cell 20 = .ok (.bipush 11, 2) := by decide +kernel
theorem dL_cell_22 : decode cL_cell 22 = .ok (.iadd, 1) := by decide +kernel
theorem dL_cell_23 : decode cL_cell 23 = .ok (.imul, 1) := by decide +kernel
theorem dL_cell_24 : decode cL_cell 24 = .ok (.ireturn, 1) := by decide +kernel
theorem dL_low_0 : decode cL_low 0 = .ok (.iload_n 0, 1) := by decide +kernel
theorem dL_low_1 : decode cL_low 1 = .ok (.ldc 7, 2) := by decide +kernel
theorem dL_low_3 : decode cL_low 3 = .ok (.iand, 1) := by decide +kernel
theorem dL_low_4 : decode cL_low 4 = .ok (.iload_n 1, 1) := by decide +kernel
theorem dL_low_5 : decode cL_low 5 = .ok (.irem, 1) := by decide +kernel
theorem dL_low_6 : decode cL_low 6 = .ok (.ireturn, 1) := by decide +kernel
theorem dL_ones_0 : decode cL_ones 0 = .ok (.iload_n 0, 1) := by decide +kernel
theorem dL_ones_1 : decode cL_ones 1 = .ok (.iconst 1, 1) := by decide +kernel
theorem dL_ones_2 : decode cL_ones 2 = .ok (.iand, 1) := by decide +kernel
theorem dL_ones_3 : decode cL_ones 3 = .ok (.iload_n 0, 1) := by decide +kernel
theorem dL_ones_4 : decode cL_ones 4 = .ok (.iconst 1, 1) := by decide +kernel
theorem dL_ones_5 : decode cL_ones 5 = .ok (.ishr, 1) := by decide +kernel
theorem dL_ones_6 : decode cL_ones 6 = .ok (.iconst 1, 1) := by decide +kernel
theorem dL_ones_7 : decode cL_ones 7 = .ok (.iand, 1) := by decide +kernel
theorem dL_ones_8 : decode cL_ones 8 = .ok (.iadd, 1) := by decide +kernel
theorem dL_ones_9 : decode cL_ones 9 = .ok (.iload_n 0, 1) := by decide +kernel
theorem dL_ones_10 : decode cL_ones 10 = .ok (.iconst 2, 1) := by decide +kernel
theorem dL_ones_11 : decode cL_ones 11 = .ok (.ishr, 1) := by decide +kernel
theorem dL_ones_12 : decode cL_ones 12 = .ok (.iconst 1, 1) := by decide +kernel
theorem dL_ones_13 : decode cL_ones 13 = .ok (.iand, 1) := by decide +kernel
theorem dL_ones_14 : decode cL_ones 14 = .ok (.iadd, 1) := by decide +kernel
theorem dL_ones_15 : decode cL_ones 15 = .ok (.iload_n 0, 1) := by decide +kernel
theorem dL_ones_16 : decode cL_ones 16 = .ok (.iconst 3, 1) := by decide +kernel
theorem dL_ones_17 : decode cL_ones 17 = .ok (.ishr, 1) := by decide +kernel
theorem dL_ones_18 : decode cL_ones 18 = .ok (.iconst 1, 1) := by decide +kernel
theorem dL_ones_19 : decode cL_ones 19 = .ok (.iand, 1) := by decide +kernel
theorem dL_ones_20 : decode cL_ones 20 = .ok (.iadd, 1) := by decide +kernel
theorem dL_ones_21 : decode cL_ones 21 = .ok (.ireturn, 1) := by decide +kernel
theorem dL_size_0 : decode cL_size 0 = .ok (.iload_n 0, 1) := by decide +kernel
theorem dL_size_1 : decode cL_size 1 = .ok (.ifCond .ge 8, 3) := by decide +kernel
theorem dL_size_4 : decode cL_size 4 = .ok (.iload_n 0, 1) := by decide +kernel
theorem dL_size_5 : decode cL_size 5 = .ok (.ineg, 1) := by decide +kernel
theorem dL_size_6 : decode cL_size 6 = .ok (.goto 4, 3) := by decide +kernel
theorem dL_size_9 : decode cL_size 9 = .ok (.iload_n 0, 1) := by decide +kernel
theorem dL_size_10 : decode cL_size 10 = .ok (.ireturn, 1) := by decide +kernel
theorem dL_folds_0 : decode cL_folds 0 = .ok (.aload_n 0, 1) := by decide +kernel
theorem dL_folds_1 : decode cL_folds 1 = .ok (.iload_n 1, 1) := by decide +kernel
theorem dL_folds_2 : decode cL_folds 2 = .ok (.ifCond .ne 7, 3) := by decide +kernel
theorem dL_folds_5 : decode cL_folds 5 = .ok (.iconst 0, 1) := by decide +kernel
theorem dL_folds_6 : decode cL_folds 6 = .ok (.goto 6, 3) := by decide +kernel
theorem dL_folds_9 : decode cL_folds 9 = .ok (.iload_n 1, 1) := by decide +kernel
theorem dL_folds_10 : decode cL_folds 10 = .ok (.iconst 1, 1) := by decide +kernel
theorem dL_folds_11 : decode cL_folds 11 = .ok (.isub, 1) := by decide +kernel
theorem dL_folds_12 : decode cL_folds 12 = .ok (.iaload, 1) := by decide +kernel
theorem dL_folds_13 : decode cL_folds 13 = .ok (.istore_n 2, 1) := by decide +kernel
theorem dL_folds_14 : decode cL_folds 14 = .ok (.aload_n 0, 1) := by decide +kernel
theorem dL_folds_15 : decode cL_folds 15 = .ok (.iload_n 1, 1) := by decide +kernel
theorem dL_folds_16 : decode cL_folds 16 = .ok (.ifCond .ne 7, 3) := by decide +kernel
theorem dL_folds_19 : decode cL_folds 19 = .ok (.iconst 0, 1) := by decide +kernel
theorem dL_folds_20 : decode cL_folds 20 = .ok (.goto 6, 3) := by decide +kernel
theorem dL_folds_23 : decode cL_folds 23 = .ok (.iload_n 1, 1) := by decide +kernel
theorem dL_folds_24 : decode cL_folds 24 = .ok (.iconst 1, 1) := by decide +kernel
theorem dL_folds_25 : decode cL_folds 25 = .ok (.isub, 1) := by decide +kernel
theorem dL_folds_26 : decode cL_folds 26 = .ok (.iload_n 1, 1) := by decide +kernel
theorem dL_folds_27 : decode cL_folds 27 = .ok (.ifCond .ne 8, 3) := by decide +kernel
theorem dL_folds_30 : decode cL_folds 30 = .ok (.iload_n 2, 1) := by decide +kernel
theorem dL_folds_31 : decode cL_folds 31 = .ok (.ineg, 1) := by decide +kernel
theorem dL_folds_32 : decode cL_folds 32 = .ok (.goto 6, 3) := by decide +kernel
theorem dL_folds_35 : decode cL_folds 35 = .ok (.aload_n 0, 1) := by decide +kernel
theorem dL_folds_36 : decode cL_folds 36 = .ok (.iload_n 1, 1) := by decide +kernel
theorem dL_folds_37 : decode cL_folds 37 = .ok (.iaload, 1) := by decide +kernel
theorem dL_folds_38 : decode cL_folds 38 = .ok (.iastore, 1) := by decide +kernel
theorem dL_folds_39 : decode cL_folds 39 = .ok (.aload_n 0, 1) := by decide +kernel
theorem dL_folds_40 : decode cL_folds 40 = .ok (.iload_n 1, 1) := by decide +kernel
theorem dL_folds_41 : decode cL_folds 41 = .ok (.iload_n 1, 1) := by decide +kernel
theorem dL_folds_42 : decode cL_folds 42 = .ok (.ifCond .ne 8, 3) := by decide +kernel
theorem dL_folds_45 : decode cL_folds 45 = .ok (.iload_n 2, 1) := by decide +kernel
theorem dL_folds_46 : decode cL_folds 46 = .ok (.ineg, 1) := by decide +kernel
theorem dL_folds_47 : decode cL_folds 47 = .ok (.goto 4, 3) := by decide +kernel
theorem dL_folds_50 : decode cL_folds 50 = .ok (.iload_n 2, 1) := by decide +kernel
theorem dL_folds_51 : decode cL_folds 51 = .ok (.iastore, 1) := by decide +kernel
theorem dL_folds_52 : decode cL_folds 52 = .ok (.return_, 1) := by decide +kernel
theorem dL_length_0 : decode cL_length 0 = .ok (.iconst 0, 1) := by decide +kernel
theorem dL_length_1 : decode cL_length 1 = .ok (.istore_n 1, 1) := by decide +kernel
theorem dL_length_2 : decode cL_length 2 = .ok (.iconst 0, 1) := by decide +kernel
theorem dL_length_3 : decode cL_length 3 = .ok (.istore_n 2, 1) := by decide +kernel
theorem dL_length_4 : decode cL_length 4 = .ok (.iload_n 2, 1) := by decide +kernel
theorem dL_length_5 : decode cL_length 5 = .ok (.bipush 16, 2) := by decide +kernel
theorem dL_length_7 : decode cL_length 7 = .ok (.if_icmp .ge 67, 3) := by decide +kernel
theorem dL_length_10 : decode cL_length 10 = .ok (.iload_n 2, 1) := by decide +kernel
theorem dL_length_11 : decode cL_length 11 = .ok (.iconst 4, 1) := by decide +kernel
theorem dL_length_12 : decode cL_length 12 = .ok (.idiv, 1) := by decide +kernel
theorem dL_length_13 : decode cL_length 13 = .ok (.istore_n 3, 1) := by decide +kernel
theorem dL_length_14 : decode cL_length 14 = .ok (.iload_n 2, 1) := by decide +kernel
theorem dL_length_15 : decode cL_length 15 = .ok (.iconst 4, 1) := by decide +kernel
theorem dL_length_16 : decode cL_length 16 = .ok (.irem, 1) := by decide +kernel
theorem dL_length_17 : decode cL_length 17 = .ok (.istore 4, 2) := by decide +kernel
theorem dL_length_19 : decode cL_length 19 = .ok (.iload_n 1, 1) := by decide +kernel
theorem dL_length_20 : decode cL_length 20 = .ok (.iload_n 3, 1) := by decide +kernel
theorem dL_length_21 : decode cL_length 21 = .ok (.iload 4, 2) := by decide +kernel
theorem dL_length_23 : decode cL_length 23 = .ok (.if_icmp .ge 17, 3) := by decide +kernel
theorem dL_length_26 : decode cL_length 26 = .ok (.aload_n 0, 1) := by decide +kernel
theorem dL_length_27 : decode cL_length 27 = .ok (.iload_n 3, 1) := by decide +kernel
theorem dL_length_28 : decode cL_length 28 = .ok (.iaload, 1) := by decide +kernel
theorem dL_length_29 : decode cL_length 29 = .ok (.aload_n 0, 1) := by decide +kernel
theorem dL_length_30 : decode cL_length 30 = .ok (.iload 4, 2) := by decide +kernel
theorem dL_length_32 : decode cL_length 32 = .ok (.iaload, 1) := by decide +kernel
theorem dL_length_33 : decode cL_length 33 = .ok (.if_icmp .le 7, 3) := by decide +kernel
theorem dL_length_36 : decode cL_length 36 = .ok (.iconst 1, 1) := by decide +kernel
theorem dL_length_37 : decode cL_length 37 = .ok (.goto 4, 3) := by decide +kernel
theorem dL_length_40 : decode cL_length 40 = .ok (.iconst 0, 1) := by decide +kernel
theorem dL_length_41 : decode cL_length 41 = .ok (.iadd, 1) := by decide +kernel
theorem dL_length_42 : decode cL_length 42 = .ok (.istore_n 1, 1) := by decide +kernel
theorem dL_length_43 : decode cL_length 43 = .ok (.iload_n 1, 1) := by decide +kernel
theorem dL_length_44 : decode cL_length 44 = .ok (.iload_n 3, 1) := by decide +kernel
theorem dL_length_45 : decode cL_length 45 = .ok (.iload 4, 2) := by decide +kernel
theorem dL_length_47 : decode cL_length 47 = .ok (.if_icmp .gt 18, 3) := by decide +kernel
theorem dL_length_50 : decode cL_length 50 = .ok (.aload_n 0, 1) := by decide +kernel
theorem dL_length_51 : decode cL_length 51 = .ok (.iload_n 3, 1) := by decide +kernel
theorem dL_length_52 : decode cL_length 52 = .ok (.iaload, 1) := by decide +kernel
theorem dL_length_53 : decode cL_length 53 = .ok (.aload_n 0, 1) := by decide +kernel
theorem dL_length_54 : decode cL_length 54 = .ok (.iload 4, 2) := by decide +kernel
theorem dL_length_56 : decode cL_length 56 = .ok (.iaload, 1) := by decide +kernel
theorem dL_length_57 : decode cL_length 57 = .ok (.iadd, 1) := by decide +kernel
theorem dL_length_58 : decode cL_length 58 = .ok (.ifCond .ge 7, 3) := by decide +kernel
theorem dL_length_61 : decode cL_length 61 = .ok (.iconst 1, 1) := by decide +kernel
theorem dL_length_62 : decode cL_length 62 = .ok (.goto 4, 3) := by decide +kernel
theorem dL_length_65 : decode cL_length 65 = .ok (.iconst 0, 1) := by decide +kernel
theorem dL_length_66 : decode cL_length 66 = .ok (.iadd, 1) := by decide +kernel
theorem dL_length_67 : decode cL_length 67 = .ok (.istore_n 1, 1) := by decide +kernel
theorem dL_length_68 : decode cL_length 68 = .ok (.iinc 2 1, 3) := by decide +kernel
theorem dL_length_71 : decode cL_length 71 = .ok (.goto (-67), 3) := by decide +kernel
theorem dL_length_74 : decode cL_length 74 = .ok (.iload_n 1, 1) := by decide +kernel
theorem dL_length_75 : decode cL_length 75 = .ok (.ireturn, 1) := by decide +kernel
theorem dL_isLetter_0 : decode cL_isLetter 0 = .ok (.aload_n 0, 1) := by decide +kernel
theorem dL_isLetter_1 : decode cL_isLetter 1 = .ok (.iload_n 1, 1) := by decide +kernel
theorem dL_isLetter_2 : decode cL_isLetter 2 = .ok (.iconst 0, 1) := by decide +kernel
theorem dL_isLetter_3 : decode cL_isLetter 3 = .ok (.invokevirtual 8, 3) := by decide +kernel
theorem dL_isLetter_6 : decode cL_isLetter 6 = .ok (.istore_n 3, 1) := by decide +kernel
theorem dL_isLetter_7 : decode cL_isLetter 7 = .ok (.iconst 0, 1) := by decide +kernel
theorem dL_isLetter_8 : decode cL_isLetter 8 = .ok (.istore 4, 2) := by decide +kernel
theorem dL_isLetter_10 : decode cL_isLetter 10 = .ok (.iconst 0, 1) := by decide +kernel
theorem dL_isLetter_11 : decode cL_isLetter 11 = .ok (.istore 5, 2) := by decide +kernel
theorem dL_isLetter_13 : decode cL_isLetter 13 = .ok (.iconst 0, 1) := by decide +kernel
theorem dL_isLetter_14 : decode cL_isLetter 14 = .ok (.istore 6, 2) := by decide +kernel
theorem dL_isLetter_16 : decode cL_isLetter 16 = .ok (.iconst 0, 1) := by decide +kernel
theorem dL_isLetter_17 : decode cL_isLetter 17 = .ok (.istore 7, 2) := by decide +kernel
theorem dL_isLetter_19 : decode cL_isLetter 19 = .ok (.iload 7, 2) := by decide +kernel
theorem dL_isLetter_21 : decode cL_isLetter 21 = .ok (.iconst 4, 1) := by decide +kernel
theorem dL_isLetter_22 : decode cL_isLetter 22 = .ok (.if_icmp .ge 17, 3) := by decide +kernel
theorem dL_isLetter_25 : decode cL_isLetter 25 = .ok (.aload_n 2, 1) := by decide +kernel
theorem dL_isLetter_26 : decode cL_isLetter 26 = .ok (.iload 7, 2) := by decide +kernel
theorem dL_isLetter_28 : decode cL_isLetter 28 = .ok (.iload 7, 2) := by decide +kernel
theorem dL_isLetter_30 : decode cL_isLetter 30 = .ok (.iconst 1, 1) := by decide +kernel
theorem dL_isLetter_31 : decode cL_isLetter 31 = .ok (.iadd, 1) := by decide +kernel
theorem dL_isLetter_32 : decode cL_isLetter 32 = .ok (.iastore, 1) := by decide +kernel
theorem dL_isLetter_33 : decode cL_isLetter 33 = .ok (.iinc 7 1, 3) := by decide +kernel
theorem dL_isLetter_36 : decode cL_isLetter 36 = .ok (.goto (-17), 3) := by decide +kernel
theorem dL_isLetter_39 : decode cL_isLetter 39 = .ok (.aload_n 0, 1) := by decide +kernel
theorem dL_isLetter_40 : decode cL_isLetter 40 = .ok (.iload_n 1, 1) := by decide +kernel
theorem dL_isLetter_41 : decode cL_isLetter 41 = .ok (.iconst 2, 1) := by decide +kernel
theorem dL_isLetter_42 : decode cL_isLetter 42 = .ok (.invokevirtual 8, 3) := by decide +kernel
theorem dL_isLetter_45 : decode cL_isLetter 45 = .ok (.istore 7, 2) := by decide +kernel
theorem dL_isLetter_47 : decode cL_isLetter 47 = .ok (.iconst 0, 1) := by decide +kernel
theorem dL_isLetter_48 : decode cL_isLetter 48 = .ok (.istore 8, 2) := by decide +kernel
theorem dL_isLetter_50 : decode cL_isLetter 50 = .ok (.iload 8, 2) := by decide +kernel
theorem dL_isLetter_52 : decode cL_isLetter 52 = .ok (.iload 7, 2) := by decide +kernel
theorem dL_isLetter_54 : decode cL_isLetter 54 = .ok (.if_icmp .ge 44, 3) := by decide +kernel
theorem dL_isLetter_57 : decode cL_isLetter 57 = .ok (.iload 8, 2) := by decide +kernel
theorem dL_isLetter_59 : decode cL_isLetter 59 = .ok (.bipush 60, 2) := by decide +kernel
theorem dL_isLetter_61 : decode cL_isLetter 61 = .ok (.if_icmp .ge 37, 3) := by decide +kernel
theorem dL_isLetter_64 : decode cL_isLetter 64 = .ok (.aload_n 0, 1) := by decide +kernel
theorem dL_isLetter_65 : decode cL_isLetter 65 = .ok (.iload_n 1, 1) := by decide +kernel
theorem dL_isLetter_66 : decode cL_isLetter 66 = .ok (.iload 8, 2) := by decide +kernel
theorem dL_isLetter_68 : decode cL_isLetter 68 = .ok (.invokevirtual 14, 3) := by decide +kernel
theorem dL_isLetter_71 : decode cL_isLetter 71 = .ok (.istore 9, 2) := by decide +kernel
theorem dL_isLetter_73 : decode cL_isLetter 73 = .ok (.iload 9, 2) := by decide +kernel
theorem dL_isLetter_75 : decode cL_isLetter 75 = .ok (.ifCond .lt 9, 3) := by decide +kernel
theorem dL_isLetter_78 : decode cL_isLetter 78 = .ok (.iload 9, 2) := by decide +kernel
theorem dL_isLetter_80 : decode cL_isLetter 80 = .ok (.iconst 3, 1) := by decide +kernel
theorem dL_isLetter_81 : decode cL_isLetter 81 = .ok (.if_icmp .le 5, 3) := by decide +kernel
theorem dL_isLetter_84 : decode cL_isLetter 84 = .ok (.iconst 0, 1) := by decide +kernel
theorem dL_isLetter_85 : decode cL_isLetter 85 = .ok (.ireturn, 1) := by decide +kernel
theorem dL_isLetter_86 : decode cL_isLetter 86 = .ok (.aload_n 2, 1) := by decide +kernel
theorem dL_isLetter_87 : decode cL_isLetter 87 = .ok (.iload 9, 2) := by decide +kernel
theorem dL_isLetter_89 : decode cL_isLetter 89 = .ok (.invokestatic 17, 3) := by decide +kernel
theorem dL_isLetter_92 : decode cL_isLetter 92 = .ok (.iinc 8 1, 3) := by decide +kernel
theorem dL_isLetter_95 : decode cL_isLetter 95 = .ok (.goto (-45), 3) := by decide +kernel
theorem dL_isLetter_98 : decode cL_isLetter 98 = .ok (.iconst 0, 1) := by decide +kernel
theorem dL_isLetter_99 : decode cL_isLetter 99 = .ok (.istore 8, 2) := by decide +kernel
theorem dL_isLetter_101 : decode cL_isLetter 101 = .ok (.iload 8, 2) := by decide +kernel
theorem dL_isLetter_103 : decode cL_isLetter 103 = .ok (.iconst 4, 1) := by decide +kernel
theorem dL_isLetter_104 : decode cL_isLetter 104 = .ok (.if_icmp .ge 100, 3) := by decide +kernel
theorem dL_isLetter_107 : decode cL_isLetter 107 = .ok (.aload_n 0, 1) := by decide +kernel
theorem dL_isLetter_108 : decode cL_isLetter 108 = .ok (.iload_n 1, 1) := by decide +kernel
theorem dL_isLetter_109 : decode cL_isLetter 109 = .ok (.iload 8, 2) := by decide +kernel
theorem dL_isLetter_111 : decode cL_isLetter 111 = .ok (.invokevirtual 23, 3) := by decide +kernel
theorem dL_isLetter_114 : decode cL_isLetter 114 = .ok (.istore 9, 2) := by decide +kernel
theorem dL_isLetter_116 : decode cL_isLetter 116 = .ok (.iload 4, 2) := by decide +kernel
theorem dL_isLetter_118 : decode cL_isLetter 118 = .ok (.iconst 1, 1) := by decide +kernel
theorem dL_isLetter_119 : decode cL_isLetter 119 = .ok (.iload 9, 2) := by decide +kernel
theorem dL_isLetter_121 : decode cL_isLetter 121 = .ok (.invokestatic 26, 3) := by decide +kernel
theorem dL_isLetter_124 : decode cL_isLetter 124 = .ok (.ishl, 1) := by decide +kernel
theorem dL_isLetter_125 : decode cL_isLetter 125 = .ok (.ior, 1) := by decide +kernel
theorem dL_isLetter_126 : decode cL_isLetter 126 = .ok (.istore 4, 2) := by decide +kernel
theorem dL_isLetter_128 : decode cL_isLetter 128 = .ok (.iload 5, 2) := by decide +kernel
theorem dL_isLetter_130 : decode cL_isLetter 130 = .ok (.iload 9, 2) := by decide +kernel
theorem dL_isLetter_132 : decode cL_isLetter 132 = .ok (.iload 8, 2) := by decide +kernel
theorem dL_isLetter_134 : decode cL_isLetter 134 = .ok (.iconst 1, 1) := by decide +kernel
theorem dL_isLetter_135 : decode cL_isLetter 135 = .ok (.iadd, 1) := by decide +kernel
theorem dL_isLetter_136 : decode cL_isLetter 136 = .ok (.if_icmp .ne 7, 3) := by decide +kernel
theorem dL_isLetter_139 : decode cL_isLetter 139 = .ok (.iconst 1, 1) := by decide +kernel
theorem dL_isLetter_140 : decode cL_isLetter 140 = .ok (.goto 4, 3) := by decide +kernel
theorem dL_isLetter_143 : decode cL_isLetter 143 = .ok (.iconst 0, 1) := by decide +kernel
theorem dL_isLetter_144 : decode cL_isLetter 144 = .ok (.iadd, 1) := by decide +kernel
theorem dL_isLetter_145 : decode cL_isLetter 145 = .ok (.istore 5, 2) := by decide +kernel
theorem dL_isLetter_147 : decode cL_isLetter 147 = .ok (.iload 6, 2) := by decide +kernel
theorem dL_isLetter_149 : decode cL_isLetter 149 = .ok (.iload 9, 2) := by decide +kernel
theorem dL_isLetter_151 : decode cL_isLetter 151 = .ok (.ifCond .ge 7, 3) := by decide +kernel
theorem dL_isLetter_154 : decode cL_isLetter 154 = .ok (.iconst 1, 1) := by decide +kernel
theorem dL_isLetter_155 : decode cL_isLetter 155 = .ok (.goto 4, 3) := by decide +kernel
theorem dL_isLetter_158 : decode cL_isLetter 158 = .ok (.iconst 0, 1) := by decide +kernel
theorem dL_isLetter_159 : decode cL_isLetter 159 = .ok (.iadd, 1) := by decide +kernel
theorem dL_isLetter_160 : decode cL_isLetter 160 = .ok (.istore 6, 2) := by decide +kernel
theorem dL_isLetter_162 : decode cL_isLetter 162 = .ok (.iload 9, 2) := by decide +kernel
theorem dL_isLetter_164 : decode cL_isLetter 164 = .ok (.aload_n 2, 1) := by decide +kernel
theorem dL_isLetter_165 : decode cL_isLetter 165 = .ok (.iload 8, 2) := by decide +kernel
theorem dL_isLetter_167 : decode cL_isLetter 167 = .ok (.iaload, 1) := by decide +kernel
theorem dL_isLetter_168 : decode cL_isLetter 168 = .ok (.if_icmp .ne 28, 3) := by decide +kernel
theorem dL_isLetter_171 : decode cL_isLetter 171 = .ok (.aload_n 0, 1) := by decide +kernel
theorem dL_isLetter_172 : decode cL_isLetter 172 = .ok (.iload_n 1, 1) := by decide +kernel
theorem dL_isLetter_173 : decode cL_isLetter 173 = .ok (.bipush 7, 2) := by decide +kernel
theorem dL_isLetter_175 : decode cL_isLetter 175 = .ok (.invokevirtual 8, 3) := by decide +kernel
theorem dL_isLetter_178 : decode cL_isLetter 178 = .ok (.iload 8, 2) := by decide +kernel
theorem dL_isLetter_180 : decode cL_isLetter 180 = .ok (.ishr, 1) := by decide +kernel
theorem dL_isLetter_181 : decode cL_isLetter 181 = .ok (.iconst 1, 1) := by decide +kernel
theorem dL_isLetter_182 : decode cL_isLetter 182 = .ok (.iand, 1) := by decide +kernel
theorem dL_isLetter_183 : decode cL_isLetter 183 = .ok (.iconst 1, 1) := by decide +kernel
theorem dL_isLetter_184 : decode cL_isLetter 184 = .ok (.if_icmp .ne 14, 3) := by decide +kernel
theorem dL_isLetter_187 : decode cL_isLetter 187 = .ok (.iload 9, 2) := by decide +kernel
theorem dL_isLetter_189 : decode cL_isLetter 189 = .ok (.iload 8, 2) := by decide +kernel
theorem dL_isLetter_191 : decode cL_isLetter 191 = .ok (.iconst 1, 1) := by decide +kernel
theorem dL_isLetter_192 : decode cL_isLetter 192 = .ok (.iadd, 1) := by decide +kernel
theorem dL_isLetter_193 : decode cL_isLetter 193 = .ok (.if_icmp .eq 5, 3) := by decide +kernel
theorem dL_isLetter_196 : decode cL_isLetter 196 = .ok (.iconst 0, 1) := by decide +kernel
theorem dL_isLetter_197 : decode cL_isLetter 197 = .ok (.ireturn, 1) := by decide +kernel
theorem dL_isLetter_198 : decode cL_isLetter 198 = .ok (.iinc 8 1, 3) := by decide +kernel
theorem dL_isLetter_201 : decode cL_isLetter 201 = .ok (.goto (-100), 3) := by decide +kernel
theorem dL_isLetter_204 : decode cL_isLetter 204 = .ok (.iload 4, 2) := by decide +kernel
theorem dL_isLetter_206 : decode cL_isLetter 206 = .ok (.bipush 30, 2) := by decide +kernel
theorem dL_isLetter_208 : decode cL_isLetter 208 = .ok (.if_icmp .ne 59, 3) := by decide +kernel
theorem dL_isLetter_211 : decode cL_isLetter 211 = .ok (.iload_n 3, 1) := by decide +kernel
theorem dL_isLetter_212 : decode cL_isLetter 212 = .ok (.aload_n 2, 1) := by decide +kernel
theorem dL_isLetter_213 : decode cL_isLetter 213 = .ok (.invokestatic 30, 3) := by decide +kernel
theorem dL_isLetter_216 : decode cL_isLetter 216 = .ok (.if_icmp .ne 51, 3) := by decide +kernel
theorem dL_isLetter_219 : decode cL_isLetter 219 = .ok (.aload_n 0, 1) := by decide +kernel
theorem dL_isLetter_220 : decode cL_isLetter 220 = .ok (.iload_n 1, 1) := by decide +kernel
theorem dL_isLetter_221 : decode cL_isLetter 221 = .ok (.iconst 1, 1) := by decide +kernel
theorem dL_isLetter_222 : decode cL_isLetter 222 = .ok (.invokevirtual 8, 3) := by decide +kernel
theorem dL_isLetter_225 : decode cL_isLetter 225 = .ok (.iload_n 3, 1) := by decide +kernel
theorem dL_isLetter_226 : decode cL_isLetter 226 = .ok (.if_icmp .ne 41, 3) := by decide +kernel
theorem dL_isLetter_229 : decode cL_isLetter 229 = .ok (.aload_n 0, 1) := by decide +kernel
theorem dL_isLetter_230 : decode cL_isLetter 230 = .ok (.iload_n 1, 1) := by decide +kernel
theorem dL_isLetter_231 : decode cL_isLetter 231 = .ok (.iconst 5, 1) := by decide +kernel
theorem dL_isLetter_232 : decode cL_isLetter 232 = .ok (.invokevirtual 8, 3) := by decide +kernel
theorem dL_isLetter_235 : decode cL_isLetter 235 = .ok (.iload 5, 2) := by decide +kernel
theorem dL_isLetter_237 : decode cL_isLetter 237 = .ok (.if_icmp .ne 30, 3) := by decide +kernel
theorem dL_isLetter_240 : decode cL_isLetter 240 = .ok (.aload_n 0, 1) := by decide +kernel
theorem dL_isLetter_241 : decode cL_isLetter 241 = .ok (.iload_n 1, 1) := by decide +kernel
theorem dL_isLetter_242 : decode cL_isLetter 242 = .ok (.bipush 6, 2) := by decide +kernel
theorem dL_isLetter_244 : decode cL_isLetter 244 = .ok (.invokevirtual 8, 3) := by decide +kernel
theorem dL_isLetter_247 : decode cL_isLetter 247 = .ok (.iload 6, 2) := by decide +kernel
theorem dL_isLetter_249 : decode cL_isLetter 249 = .ok (.if_icmp .ne 18, 3) := by decide +kernel
theorem dL_isLetter_252 : decode cL_isLetter 252 = .ok (.iload 7, 2) := by decide +kernel
theorem dL_isLetter_254 : decode cL_isLetter 254 = .ok (.iload_n 3, 1) := by decide +kernel
theorem dL_isLetter_255 : decode cL_isLetter 255 = .ok (.if_icmp .lt 12, 3) := by decide +kernel
theorem dL_isLetter_258 : decode cL_isLetter 258 = .ok (.iload 7, 2) := by decide +kernel
theorem dL_isLetter_260 : decode cL_isLetter 260 = .ok (.iload_n 3, 1) := by decide +kernel
theorem dL_isLetter_261 : decode cL_isLetter 261 = .ok (.isub, 1) := by decide +kernel
theorem dL_isLetter_262 : decode cL_isLetter 262 = .ok (.iconst 2, 1) := by decide +kernel
theorem dL_isLetter_263 : decode cL_isLetter 263 = .ok (.irem, 1) := by decide +kernel
theorem dL_isLetter_264 : decode cL_isLetter 264 = .ok (.ifCond .eq 5, 3) := by decide +kernel
theorem dL_isLetter_267 : decode cL_isLetter 267 = .ok (.iconst 0, 1) := by decide +kernel
theorem dL_isLetter_268 : decode cL_isLetter 268 = .ok (.ireturn, 1) := by decide +kernel
theorem dL_isLetter_269 : decode cL_isLetter 269 = .ok (.iconst 0, 1) := by decide +kernel
theorem dL_isLetter_270 : decode cL_isLetter 270 = .ok (.istore 8, 2) := by decide +kernel
theorem dL_isLetter_272 : decode cL_isLetter 272 = .ok (.iconst 0, 1) := by decide +kernel
theorem dL_isLetter_273 : decode cL_isLetter 273 = .ok (.istore 9, 2) := by decide +kernel
theorem dL_isLetter_275 : decode cL_isLetter 275 = .ok (.iconst 0, 1) := by decide +kernel
theorem dL_isLetter_276 : decode cL_isLetter 276 = .ok (.istore 10, 2) := by decide +kernel
theorem dL_isLetter_278 : decode cL_isLetter 278 = .ok (.iload 10, 2) := by decide +kernel
theorem dL_isLetter_280 : decode cL_isLetter 280 = .ok (.iconst 4, 1) := by decide +kernel
theorem dL_isLetter_281 : decode cL_isLetter 281 = .ok (.if_icmp .ge 173, 3) := by decide +kernel
theorem dL_isLetter_284 : decode cL_isLetter 284 = .ok (.aload_n 2, 1) := by decide +kernel
theorem dL_isLetter_285 : decode cL_isLetter 285 = .ok (.iload 10, 2) := by decide +kernel
theorem dL_isLetter_287 : decode cL_isLetter 287 = .ok (.invokestatic 17, 3) := by decide +kernel
theorem dL_isLetter_290 : decode cL_isLetter 290 = .ok (.aload_n 2, 1) := by decide +kernel
theorem dL_isLetter_291 : decode cL_isLetter 291 = .ok (.invokestatic 30, 3) := by decide +kernel
theorem dL_isLetter_294 : decode cL_isLetter 294 = .ok (.istore 11, 2) := by decide +kernel
theorem dL_isLetter_296 : decode cL_isLetter 296 = .ok (.aload_n 2, 1) := by decide +kernel
theorem dL_isLetter_297 : decode cL_isLetter 297 = .ok (.iload 10, 2) := by decide +kernel
theorem dL_isLetter_299 : decode cL_isLetter 299 = .ok (.invokestatic 17, 3) := by decide +kernel
theorem dL_isLetter_302 : decode cL_isLetter 302 = .ok (.iload 8, 2) := by decide +kernel
theorem dL_isLetter_304 : decode cL_isLetter 304 = .ok (.iload 11, 2) := by decide +kernel
theorem dL_isLetter_306 : decode cL_isLetter 306 = .ok (.iload_n 3, 1) := by decide +kernel
theorem dL_isLetter_307 : decode cL_isLetter 307 = .ok (.if_icmp .ge 10, 3) := by decide +kernel
theorem dL_isLetter_310 : decode cL_isLetter 310 = .ok (.iconst 1, 1) := by decide +kernel
theorem dL_isLetter_311 : decode cL_isLetter 311 = .ok (.iload 10, 2) := by decide +kernel
theorem dL_isLetter_313 : decode cL_isLetter 313 = .ok (.ishl, 1) := by decide +kernel
theorem dL_isLetter_314 : decode cL_isLetter 314 = .ok (.goto 4, 3) := by decide +kernel
theorem dL_isLetter_317 : decode cL_isLetter 317 = .ok (.iconst 0, 1) := by decide +kernel
theorem dL_isLetter_318 : decode cL_isLetter 318 = .ok (.ior, 1) := by decide +kernel
theorem dL_isLetter_319 : decode cL_isLetter 319 = .ok (.istore 8, 2) := by decide +kernel
theorem dL_isLetter_321 : decode cL_isLetter 321 = .ok (.aload_n 0, 1) := by decide +kernel
theorem dL_isLetter_322 : decode cL_isLetter 322 = .ok (.iload_n 1, 1) := by decide +kernel
theorem dL_isLetter_323 : decode cL_isLetter 323 = .ok (.bipush 7, 2) := by decide +kernel
theorem dL_isLetter_325 : decode cL_isLetter 325 = .ok (.invokevirtual 8, 3) := by decide +kernel
theorem dL_isLetter_328 : decode cL_isLetter 328 = .ok (.istore 12, 2) := by decide +kernel
theorem dL_isLetter_330 : decode cL_isLetter 330 = .ok (.iload 10, 2) := by decide +kernel
theorem dL_isLetter_332 : decode cL_isLetter 332 = .ok (.ifCond .ne 19, 3) := by decide +kernel
theorem dL_isLetter_335 : decode cL_isLetter 335 = .ok (.iload 12, 2) := by decide +kernel
theorem dL_isLetter_337 : decode cL_isLetter 337 = .ok (.iconst 1, 1) := by decide +kernel
theorem dL_isLetter_338 : decode cL_isLetter 338 = .ok (.iand, 1) := by decide +kernel
theorem dL_isLetter_339 : decode cL_isLetter 339 = .ok (.iconst 1, 1) := by decide +kernel
theorem dL_isLetter_340 : decode cL_isLetter 340 = .ok (.if_icmp .ne 7, 3) := by decide +kernel
theorem dL_isLetter_343 : decode cL_isLetter 343 = .ok (.iconst 1, 1) := by decide +kernel
theorem dL_isLetter_344 : decode cL_isLetter 344 = .ok (.goto 24, 3) := by decide +kernel
theorem dL_isLetter_347 : decode cL_isLetter 347 = .ok (.iconst 0, 1) := by decide +kernel
theorem dL_isLetter_348 : decode cL_isLetter 348 = .ok (.goto 20, 3) := by decide +kernel
theorem dL_isLetter_351 : decode cL_isLetter 351 = .ok (.iload 12, 2) := by decide +kernel
theorem dL_isLetter_353 : decode cL_isLetter 353 = .ok (.iload 10, 2) := by decide +kernel
theorem dL_isLetter_355 : decode cL_isLetter 355 = .ok (.iconst 1, 1) := by decide +kernel
theorem dL_isLetter_356 : decode cL_isLetter 356 = .ok (.isub, 1) := by decide +kernel
theorem dL_isLetter_357 : decode cL_isLetter 357 = .ok (.ishr, 1) := by decide +kernel
theorem dL_isLetter_358 : decode cL_isLetter 358 = .ok (.iconst 3, 1) := by decide +kernel
theorem dL_isLetter_359 : decode cL_isLetter 359 = .ok (.iand, 1) := by decide +kernel
theorem dL_isLetter_360 : decode cL_isLetter 360 = .ok (.ifCond .eq 7, 3) := by decide +kernel
theorem dL_isLetter_363 : decode cL_isLetter 363 = .ok (.iconst 1, 1) := by decide +kernel
theorem dL_isLetter_364 : decode cL_isLetter 364 = .ok (.goto 4, 3) := by decide +kernel
theorem dL_isLetter_367 : decode cL_isLetter 367 = .ok (.iconst 0, 1) := by decide +kernel
theorem dL_isLetter_368 : decode cL_isLetter 368 = .ok (.istore 13, 2) := by decide +kernel
theorem dL_isLetter_370 : decode cL_isLetter 370 = .ok (.iload 7, 2) := by decide +kernel
theorem dL_isLetter_372 : decode cL_isLetter 372 = .ok (.bipush 60, 2) := by decide +kernel
theorem dL_isLetter_374 : decode cL_isLetter 374 = .ok (.if_icmp .ne 7, 3) := by decide +kernel
theorem dL_isLetter_377 : decode cL_isLetter 377 = .ok (.iconst 1, 1) := by decide +kernel
theorem dL_isLetter_378 : decode cL_isLetter 378 = .ok (.goto 13, 3) := by decide +kernel
theorem dL_isLetter_381 : decode cL_isLetter 381 = .ok (.iload 13, 2) := by decide +kernel
theorem dL_isLetter_383 : decode cL_isLetter 383 = .ok (.ifCond .eq 7, 3) := by decide +kernel
theorem dL_isLetter_386 : decode cL_isLetter 386 = .ok (.iconst 2, 1) := by decide +kernel
theorem dL_isLetter_387 : decode cL_isLetter 387 = .ok (.goto 4, 3) := by decide +kernel
theorem dL_isLetter_390 : decode cL_isLetter 390 = .ok (.iconst 0, 1) := by decide +kernel
theorem dL_isLetter_391 : decode cL_isLetter 391 = .ok (.istore 14, 2) := by decide +kernel
theorem dL_isLetter_393 : decode cL_isLetter 393 = .ok (.iload 9, 2) := by decide +kernel
theorem dL_isLetter_395 : decode cL_isLetter 395 = .ok (.iload 14, 2) := by decide +kernel
theorem dL_isLetter_397 : decode cL_isLetter 397 = .ok (.ifCond .le 10, 3) := by decide +kernel
theorem dL_isLetter_400 : decode cL_isLetter 400 = .ok (.iconst 1, 1) := by decide +kernel
theorem dL_isLetter_401 : decode cL_isLetter 401 = .ok (.iload 10, 2) := by decide +kernel
theorem dL_isLetter_403 : decode cL_isLetter 403 = .ok (.ishl, 1) := by decide +kernel
theorem dL_isLetter_404 : decode cL_isLetter 404 = .ok (.goto 4, 3) := by decide +kernel
theorem dL_isLetter_407 : decode cL_isLetter 407 = .ok (.iconst 0, 1) := by decide +kernel
theorem dL_isLetter_408 : decode cL_isLetter 408 = .ok (.ior, 1) := by decide +kernel
theorem dL_isLetter_409 : decode cL_isLetter 409 = .ok (.istore 9, 2) := by decide +kernel
theorem dL_isLetter_411 : decode cL_isLetter 411 = .ok (.aload_n 0, 1) := by decide +kernel
theorem dL_isLetter_412 : decode cL_isLetter 412 = .ok (.iload_n 1, 1) := by decide +kernel
theorem dL_isLetter_413 : decode cL_isLetter 413 = .ok (.iload 10, 2) := by decide +kernel
theorem dL_isLetter_415 : decode cL_isLetter 415 = .ok (.invokevirtual 34, 3) := by decide +kernel
theorem dL_isLetter_418 : decode cL_isLetter 418 = .ok (.iload 11, 2) := by decide +kernel
theorem dL_isLetter_420 : decode cL_isLetter 420 = .ok (.if_icmp .ne 26, 3) := by decide +kernel
theorem dL_isLetter_423 : decode cL_isLetter 423 = .ok (.iload 11, 2) := by decide +kernel
theorem dL_isLetter_425 : decode cL_isLetter 425 = .ok (.iload_n 3, 1) := by decide +kernel
theorem dL_isLetter_426 : decode cL_isLetter 426 = .ok (.isub, 1) := by decide +kernel
theorem dL_isLetter_427 : decode cL_isLetter 427 = .ok (.invokestatic 26, 3) := by decide +kernel
theorem dL_isLetter_430 : decode cL_isLetter 430 = .ok (.iconst 1, 1) := by decide +kernel
theorem dL_isLetter_431 : decode cL_isLetter 431 = .ok (.if_icmp .ne 15, 3) := by decide +kernel
theorem dL_isLetter_434 : decode cL_isLetter 434 = .ok (.aload_n 0, 1) := by decide +kernel
theorem dL_isLetter_435 : decode cL_isLetter 435 = .ok (.iload_n 1, 1) := by decide +kernel
theorem dL_isLetter_436 : decode cL_isLetter 436 = .ok (.iload 10, 2) := by decide +kernel
theorem dL_isLetter_438 : decode cL_isLetter 438 = .ok (.invokevirtual 37, 3) := by decide +kernel
theorem dL_isLetter_441 : decode cL_isLetter 441 = .ok (.iload 14, 2) := by decide +kernel
theorem dL_isLetter_443 : decode cL_isLetter 443 = .ok (.if_icmp .eq 5, 3) := by decide +kernel
theorem dL_isLetter_446 : decode cL_isLetter 446 = .ok (.iconst 0, 1) := by decide +kernel
theorem dL_isLetter_447 : decode cL_isLetter 447 = .ok (.ireturn, 1) := by decide +kernel
theorem dL_isLetter_448 : decode cL_isLetter 448 = .ok (.iinc 10 1, 3) := by decide +kernel
theorem dL_isLetter_451 : decode cL_isLetter 451 = .ok (.goto (-173), 3) := by decide +kernel
theorem dL_isLetter_454 : decode cL_isLetter 454 = .ok (.aload_n 0, 1) := by decide +kernel
theorem dL_isLetter_455 : decode cL_isLetter 455 = .ok (.iload_n 1, 1) := by decide +kernel
theorem dL_isLetter_456 : decode cL_isLetter 456 = .ok (.bipush 8, 2) := by decide +kernel
theorem dL_isLetter_458 : decode cL_isLetter 458 = .ok (.invokevirtual 8, 3) := by decide +kernel
theorem dL_isLetter_461 : decode cL_isLetter 461 = .ok (.iload 8, 2) := by decide +kernel
theorem dL_isLetter_463 : decode cL_isLetter 463 = .ok (.if_icmp .ne 31, 3) := by decide +kernel
theorem dL_isLetter_466 : decode cL_isLetter 466 = .ok (.aload_n 0, 1) := by decide +kernel
theorem dL_isLetter_467 : decode cL_isLetter 467 = .ok (.iload_n 1, 1) := by decide +kernel
theorem dL_isLetter_468 : decode cL_isLetter 468 = .ok (.bipush 9, 2) := by decide +kernel
theorem dL_isLetter_470 : decode cL_isLetter 470 = .ok (.invokevirtual 8, 3) := by decide +kernel
theorem dL_isLetter_473 : decode cL_isLetter 473 = .ok (.iload 9, 2) := by decide +kernel
theorem dL_isLetter_475 : decode cL_isLetter 475 = .ok (.if_icmp .ne 19, 3) := by decide +kernel
theorem dL_isLetter_478 : decode cL_isLetter 478 = .ok (.aload_n 0, 1) := by decide +kernel
theorem dL_isLetter_479 : decode cL_isLetter 479 = .ok (.iload_n 1, 1) := by decide +kernel
theorem dL_isLetter_480 : decode cL_isLetter 480 = .ok (.iload 7, 2) := by decide +kernel
theorem dL_isLetter_482 : decode cL_isLetter 482 = .ok (.invokevirtual 14, 3) := by decide +kernel
theorem dL_isLetter_485 : decode cL_isLetter 485 = .ok (.bipush (-10), 2) := by decide +kernel
theorem dL_isLetter_487 : decode cL_isLetter 487 = .ok (.if_icmp .ne 7, 3) := by decide +kernel
theorem dL_isLetter_490 : decode cL_isLetter 490 = .ok (.iconst 1, 1) := by decide +kernel
theorem dL_isLetter_491 : decode cL_isLetter 491 = .ok (.goto 4, 3) := by decide +kernel
theorem dL_isLetter_494 : decode cL_isLetter 494 = .ok (.iconst 0, 1) := by decide +kernel
theorem dL_isLetter_495 : decode cL_isLetter 495 = .ok (.ireturn, 1) := by decide +kernel
theorem dL_isLeast_0 : decode cL_isLeast 0 = .ok (.aload_n 0, 1) := by decide +kernel
theorem dL_isLeast_1 : decode cL_isLeast 1 = .ok (.iload_n 1, 1) := by decide +kernel
theorem dL_isLeast_2 : decode cL_isLeast 2 = .ok (.iconst 0, 1) := by decide +kernel
theorem dL_isLeast_3 : decode cL_isLeast 3 = .ok (.invokevirtual 8, 3) := by decide +kernel
theorem dL_isLeast_6 : decode cL_isLeast 6 = .ok (.istore_n 3, 1) := by decide +kernel
theorem dL_isLeast_7 : decode cL_isLeast 7 = .ok (.iconst 0, 1) := by decide +kernel
theorem dL_isLeast_8 : decode cL_isLeast 8 = .ok (.istore 4, 2) := by decide +kernel
theorem dL_isLeast_10 : decode cL_isLeast 10 = .ok (.iload 4, 2) := by decide +kernel
theorem dL_isLeast_12 : decode cL_isLeast 12 = .ok (.iconst 4, 1) := by decide +kernel
theorem dL_isLeast_13 : decode cL_isLeast 13 = .ok (.if_icmp .ge 17, 3) := by decide +kernel
theorem dL_isLeast_16 : decode cL_isLeast 16 = .ok (.aload_n 2, 1) := by decide +kernel
theorem dL_isLeast_17 : decode cL_isLeast 17 = .ok (.iload 4, 2) := by decide +kernel
theorem dL_isLeast_19 : decode cL_isLeast 19 = .ok (.iload 4, 2) := by decide +kernel
theorem dL_isLeast_21 : decode cL_isLeast 21 = .ok (.iconst 1, 1) := by decide +kernel
theorem dL_isLeast_22 : decode cL_isLeast 22 = .ok (.iadd, 1) := by decide +kernel
theorem dL_isLeast_23 : decode cL_isLeast 23 = .ok (.iastore, 1) := by decide +kernel
theorem dL_isLeast_24 : decode cL_isLeast 24 = .ok (.iinc 4 1, 3) := by decide +kernel
theorem dL_isLeast_27 : decode cL_isLeast 27 = .ok (.goto (-17), 3) := by decide +kernel
theorem dL_isLeast_30 : decode cL_isLeast 30 = .ok (.iconst 0, 1) := by decide +kernel
theorem dL_isLeast_31 : decode cL_isLeast 31 = .ok (.istore 4, 2) := by decide +kernel
theorem dL_isLeast_33 : decode cL_isLeast 33 = .ok (.iload 4, 2) := by decide +kernel
theorem dL_isLeast_35 : decode cL_isLeast 35 = .ok (.iload_n 3, 1) := by decide +kernel
theorem dL_isLeast_36 : decode cL_isLeast 36 = .ok (.if_icmp .ge 44, 3) := by decide +kernel
theorem dL_isLeast_39 : decode cL_isLeast 39 = .ok (.iload 4, 2) := by decide +kernel
theorem dL_isLeast_41 : decode cL_isLeast 41 = .ok (.bipush 16, 2) := by decide +kernel
theorem dL_isLeast_43 : decode cL_isLeast 43 = .ok (.if_icmp .ge 37, 3) := by decide +kernel
theorem dL_isLeast_46 : decode cL_isLeast 46 = .ok (.aload_n 0, 1) := by decide +kernel
theorem dL_isLeast_47 : decode cL_isLeast 47 = .ok (.iload_n 1, 1) := by decide +kernel
theorem dL_isLeast_48 : decode cL_isLeast 48 = .ok (.iload 4, 2) := by decide +kernel
theorem dL_isLeast_50 : decode cL_isLeast 50 = .ok (.invokevirtual 40, 3) := by decide +kernel
theorem dL_isLeast_53 : decode cL_isLeast 53 = .ok (.istore 5, 2) := by decide +kernel
theorem dL_isLeast_55 : decode cL_isLeast 55 = .ok (.iload 5, 2) := by decide +kernel
theorem dL_isLeast_57 : decode cL_isLeast 57 = .ok (.ifCond .lt 9, 3) := by decide +kernel
theorem dL_isLeast_60 : decode cL_isLeast 60 = .ok (.iload 5, 2) := by decide +kernel
theorem dL_isLeast_62 : decode cL_isLeast 62 = .ok (.iconst 3, 1) := by decide +kernel
theorem dL_isLeast_63 : decode cL_isLeast 63 = .ok (.if_icmp .le 5, 3) := by decide +kernel
theorem dL_isLeast_66 : decode cL_isLeast 66 = .ok (.iconst 0, 1) := by decide +kernel
theorem dL_isLeast_67 : decode cL_isLeast 67 = .ok (.ireturn, 1) := by decide +kernel
theorem dL_isLeast_68 : decode cL_isLeast 68 = .ok (.aload_n 2, 1) := by decide +kernel
theorem dL_isLeast_69 : decode cL_isLeast 69 = .ok (.iload 5, 2) := by decide +kernel
theorem dL_isLeast_71 : decode cL_isLeast 71 = .ok (.invokestatic 17, 3) := by decide +kernel
theorem dL_isLeast_74 : decode cL_isLeast 74 = .ok (.iinc 4 1, 3) := by decide +kernel
theorem dL_isLeast_77 : decode cL_isLeast 77 = .ok (.goto (-44), 3) := by decide +kernel
theorem dL_isLeast_80 : decode cL_isLeast 80 = .ok (.aload_n 0, 1) := by decide +kernel
theorem dL_isLeast_81 : decode cL_isLeast 81 = .ok (.iload_n 1, 1) := by decide +kernel
theorem dL_isLeast_82 : decode cL_isLeast 82 = .ok (.iload_n 3, 1) := by decide +kernel
theorem dL_isLeast_83 : decode cL_isLeast 83 = .ok (.invokevirtual 40, 3) := by decide +kernel
theorem dL_isLeast_86 : decode cL_isLeast 86 = .ok (.bipush (-10), 2) := by decide +kernel
theorem dL_isLeast_88 : decode cL_isLeast 88 = .ok (.if_icmp .ne 13, 3) := by decide +kernel
theorem dL_isLeast_91 : decode cL_isLeast 91 = .ok (.iload_n 3, 1) := by decide +kernel
theorem dL_isLeast_92 : decode cL_isLeast 92 = .ok (.bipush 16, 2) := by decide +kernel
theorem dL_isLeast_94 : decode cL_isLeast 94 = .ok (.if_icmp .gt 7, 3) := by decide +kernel
theorem dL_isLeast_97 : decode cL_isLeast 97 = .ok (.iconst 1, 1) := by decide +kernel
theorem dL_isLeast_98 : decode cL_isLeast 98 = .ok (.goto 4, 3) := by decide +kernel
theorem dL_isLeast_101 : decode cL_isLeast 101 = .ok (.iconst 0, 1) := by decide +kernel
theorem dL_isLeast_102 : decode cL_isLeast 102 = .ok (.istore 4, 2) := by decide +kernel
theorem dL_isLeast_104 : decode cL_isLeast 104 = .ok (.iconst 0, 1) := by decide +kernel
theorem dL_isLeast_105 : decode cL_isLeast 105 = .ok (.istore 5, 2) := by decide +kernel
theorem dL_isLeast_107 : decode cL_isLeast 107 = .ok (.iload 5, 2) := by decide +kernel
theorem dL_isLeast_109 : decode cL_isLeast 109 = .ok (.iconst 4, 1) := by decide +kernel
theorem dL_isLeast_110 : decode cL_isLeast 110 = .ok (.if_icmp .ge 35, 3) := by decide +kernel
theorem dL_isLeast_113 : decode cL_isLeast 113 = .ok (.iload 4, 2) := by decide +kernel
theorem dL_isLeast_115 : decode cL_isLeast 115 = .ok (.ifCond .eq 21, 3) := by decide +kernel
theorem dL_isLeast_118 : decode cL_isLeast 118 = .ok (.aload_n 2, 1) := by decide +kernel
theorem dL_isLeast_119 : decode cL_isLeast 119 = .ok (.iload 5, 2) := by decide +kernel
theorem dL_isLeast_121 : decode cL_isLeast 121 = .ok (.iaload, 1) := by decide +kernel
theorem dL_isLeast_122 : decode cL_isLeast 122 = .ok (.aload_n 0, 1) := by decide +kernel
theorem dL_isLeast_123 : decode cL_isLeast 123 = .ok (.iload_n 1, 1) := by decide +kernel
theorem dL_isLeast_124 : decode cL_isLeast 124 = .ok (.iload 5, 2) := by decide +kernel
theorem dL_isLeast_126 : decode cL_isLeast 126 = .ok (.invokevirtual 23, 3) := by decide +kernel
theorem dL_isLeast_129 : decode cL_isLeast 129 = .ok (.if_icmp .ne 7, 3) := by decide +kernel
theorem dL_isLeast_132 : decode cL_isLeast 132 = .ok (.iconst 1, 1) := by decide +kernel
theorem dL_isLeast_133 : decode cL_isLeast 133 = .ok (.goto 4, 3) := by decide +kernel
theorem dL_isLeast_136 : decode cL_isLeast 136 = .ok (.iconst 0, 1) := by decide +kernel
theorem dL_isLeast_137 : decode cL_isLeast 137 = .ok (.istore 4, 2) := by decide +kernel
theorem dL_isLeast_139 : decode cL_isLeast 139 = .ok (.iinc 5 1, 3) := by decide +kernel
theorem dL_isLeast_142 : decode cL_isLeast 142 = .ok (.goto (-35), 3) := by decide +kernel
theorem dL_isLeast_145 : decode cL_isLeast 145 = .ok (.iconst 0, 1) := by decide +kernel
theorem dL_isLeast_146 : decode cL_isLeast 146 = .ok (.istore 5, 2) := by decide +kernel
theorem dL_isLeast_148 : decode cL_isLeast 148 = .ok (.iload 5, 2) := by decide +kernel
theorem dL_isLeast_150 : decode cL_isLeast 150 = .ok (.iload_n 3, 1) := by decide +kernel
theorem dL_isLeast_151 : decode cL_isLeast 151 = .ok (.if_icmp .ge 64, 3) := by decide +kernel
theorem dL_isLeast_154 : decode cL_isLeast 154 = .ok (.iload 4, 2) := by decide +kernel
theorem dL_isLeast_156 : decode cL_isLeast 156 = .ok (.ifCond .eq 59, 3) := by decide +kernel
theorem dL_isLeast_159 : decode cL_isLeast 159 = .ok (.iconst 0, 1) := by decide +kernel
theorem dL_isLeast_160 : decode cL_isLeast 160 = .ok (.istore 6, 2) := by decide +kernel
theorem dL_isLeast_162 : decode cL_isLeast 162 = .ok (.iload 6, 2) := by decide +kernel
theorem dL_isLeast_164 : decode cL_isLeast 164 = .ok (.aload_n 0, 1) := by decide +kernel
theorem dL_isLeast_165 : decode cL_isLeast 165 = .ok (.iload_n 1, 1) := by decide +kernel
theorem dL_isLeast_166 : decode cL_isLeast 166 = .ok (.iload 5, 2) := by decide +kernel
theorem dL_isLeast_168 : decode cL_isLeast 168 = .ok (.invokevirtual 40, 3) := by decide +kernel
theorem dL_isLeast_171 : decode cL_isLeast 171 = .ok (.if_icmp .ge 38, 3) := by decide +kernel
theorem dL_isLeast_174 : decode cL_isLeast 174 = .ok (.iload 4, 2) := by decide +kernel
theorem dL_isLeast_176 : decode cL_isLeast 176 = .ok (.ifCond .eq 24, 3) := by decide +kernel
theorem dL_isLeast_179 : decode cL_isLeast 179 = .ok (.aload_n 0, 1) := by decide +kernel
theorem dL_isLeast_180 : decode cL_isLeast 180 = .ok (.iload_n 1, 1) := by decide +kernel
theorem dL_isLeast_181 : decode cL_isLeast 181 = .ok (.iload 5, 2) := by decide +kernel
theorem dL_isLeast_183 : decode cL_isLeast 183 = .ok (.iload 6, 2) := by decide +kernel
theorem dL_isLeast_185 : decode cL_isLeast 185 = .ok (.aload_n 2, 1) := by decide +kernel
theorem dL_isLeast_186 : decode cL_isLeast 186 = .ok (.invokestatic 43, 3) := by decide +kernel
theorem dL_isLeast_189 : decode cL_isLeast 189 = .ok (.iload_n 3, 1) := by decide +kernel
theorem dL_isLeast_190 : decode cL_isLeast 190 = .ok (.iload 5, 2) := by decide +kernel
theorem dL_isLeast_192 : decode cL_isLeast 192 = .ok (.isub, 1) := by decide +kernel
theorem dL_isLeast_193 : decode cL_isLeast 193 = .ok (.if_icmp .le 7, 3) := by decide +kernel
theorem dL_isLeast_196 : decode cL_isLeast 196 = .ok (.iconst 1, 1) := by decide +kernel
theorem dL_isLeast_197 : decode cL_isLeast 197 = .ok (.goto 4, 3) := by decide +kernel
theorem dL_isLeast_200 : decode cL_isLeast 200 = .ok (.iconst 0, 1) := by decide +kernel
theorem dL_isLeast_201 : decode cL_isLeast 201 = .ok (.istore 4, 2) := by decide +kernel
theorem dL_isLeast_203 : decode cL_isLeast 203 = .ok (.iinc 6 1, 3) := by decide +kernel
theorem dL_isLeast_206 : decode cL_isLeast 206 = .ok (.goto (-44), 3) := by decide +kernel
theorem dL_isLeast_209 : decode cL_isLeast 209 = .ok (.iinc 5 1, 3) := by decide +kernel
theorem dL_isLeast_212 : decode cL_isLeast 212 = .ok (.goto (-64), 3) := by decide +kernel
theorem dL_isLeast_215 : decode cL_isLeast 215 = .ok (.iload 4, 2) := by decide +kernel
theorem dL_isLeast_217 : decode cL_isLeast 217 = .ok (.ireturn, 1) := by decide +kernel
theorem dL_rest_0 : decode cL_rest 0 = .ok (.iconst 0, 1) := by decide +kernel
theorem dL_rest_1 : decode cL_rest 1 = .ok (.istore 5, 2) := by decide +kernel
theorem dL_rest_3 : decode cL_rest 3 = .ok (.iload 5, 2) := by decide +kernel
theorem dL_rest_5 : decode cL_rest 5 = .ok (.iconst 4, 1) := by decide +kernel
theorem dL_rest_6 : decode cL_rest 6 = .ok (.if_icmp .ge 18, 3) := by decide +kernel
theorem dL_rest_9 : decode cL_rest 9 = .ok (.aload 4, 2) := by decide +kernel
theorem dL_rest_11 : decode cL_rest 11 = .ok (.iload 5, 2) := by decide +kernel
theorem dL_rest_13 : decode cL_rest 13 = .ok (.iload 5, 2) := by decide +kernel
theorem dL_rest_15 : decode cL_rest 15 = .ok (.iconst 1, 1) := by decide +kernel
theorem dL_rest_16 : decode cL_rest 16 = .ok (.iadd, 1) := by decide +kernel
theorem dL_rest_17 : decode cL_rest 17 = .ok (.iastore, 1) := by decide +kernel
theorem dL_rest_18 : decode cL_rest 18 = .ok (.iinc 5 1, 3) := by decide +kernel
theorem dL_rest_21 : decode cL_rest 21 = .ok (.goto (-18), 3) := by decide +kernel
theorem dL_rest_24 : decode cL_rest 24 = .ok (.aload 4, 2) := by decide +kernel
theorem dL_rest_26 : decode cL_rest 26 = .ok (.iload_n 3, 1) := by decide +kernel
theorem dL_rest_27 : decode cL_rest 27 = .ok (.invokestatic 17, 3) := by decide +kernel
theorem dL_rest_30 : decode cL_rest 30 = .ok (.iload_n 2, 1) := by decide +kernel
theorem dL_rest_31 : decode cL_rest 31 = .ok (.istore 5, 2) := by decide +kernel
theorem dL_rest_33 : decode cL_rest 33 = .ok (.iload 5, 2) := by decide +kernel
theorem dL_rest_35 : decode cL_rest 35 = .ok (.aload_n 0, 1) := by decide +kernel
theorem dL_rest_36 : decode cL_rest 36 = .ok (.iload_n 1, 1) := by decide +kernel
theorem dL_rest_37 : decode cL_rest 37 = .ok (.iconst 0, 1) := by decide +kernel
theorem dL_rest_38 : decode cL_rest 38 = .ok (.invokevirtual 8, 3) := by decide +kernel
theorem dL_rest_41 : decode cL_rest 41 = .ok (.if_icmp .ge 21, 3) := by decide +kernel
theorem dL_rest_44 : decode cL_rest 44 = .ok (.aload 4, 2) := by decide +kernel
theorem dL_rest_46 : decode cL_rest 46 = .ok (.aload_n 0, 1) := by decide +kernel
theorem dL_rest_47 : decode cL_rest 47 = .ok (.iload_n 1, 1) := by decide +kernel
theorem dL_rest_48 : decode cL_rest 48 = .ok (.iload 5, 2) := by decide +kernel
theorem dL_rest_50 : decode cL_rest 50 = .ok (.invokevirtual 40, 3) := by decide +kernel
theorem dL_rest_53 : decode cL_rest 53 = .ok (.invokestatic 17, 3) := by decide +kernel
theorem dL_rest_56 : decode cL_rest 56 = .ok (.iinc 5 1, 3) := by decide +kernel
theorem dL_rest_59 : decode cL_rest 59 = .ok (.goto (-26), 3) := by decide +kernel
theorem dL_rest_62 : decode cL_rest 62 = .ok (.aload 4, 2) := by decide +kernel
theorem dL_rest_64 : decode cL_rest 64 = .ok (.invokestatic 30, 3) := by decide +kernel
theorem dL_rest_67 : decode cL_rest 67 = .ok (.ireturn, 1) := by decide +kernel
theorem dL_isStore_0 : decode cL_isStore 0 = .ok (.iconst 0, 1) := by decide +kernel
theorem dL_isStore_1 : decode cL_isStore 1 = .ok (.istore_n 1, 1) := by decide +kernel
theorem dL_isStore_2 : decode cL_isStore 2 = .ok (.iconst 0, 1) := by decide +kernel
theorem dL_isStore_3 : decode cL_isStore 3 = .ok (.istore_n 2, 1) := by decide +kernel
theorem dL_isStore_4 : decode cL_isStore 4 = .ok (.iconst 0, 1) := by decide +kernel
theorem dL_isStore_5 : decode cL_isStore 5 = .ok (.istore_n 3, 1) := by decide +kernel
theorem dL_isStore_6 : decode cL_isStore 6 = .ok (.iconst 0, 1) := by decide +kernel
theorem dL_isStore_7 : decode cL_isStore 7 = .ok (.istore 4, 2) := by decide +kernel
theorem dL_isStore_9 : decode cL_isStore 9 = .ok (.iconst 0, 1) := by decide +kernel
theorem dL_isStore_10 : decode cL_isStore 10 = .ok (.istore 5, 2) := by decide +kernel
theorem dL_isStore_12 : decode cL_isStore 12 = .ok (.iconst 0, 1) := by decide +kernel
theorem dL_isStore_13 : decode cL_isStore 13 = .ok (.istore 6, 2) := by decide +kernel
theorem dL_isStore_15 : decode cL_isStore 15 = .ok (.iconst 0, 1) := by decide +kernel
theorem dL_isStore_16 : decode cL_isStore 16 = .ok (.istore 7, 2) := by decide +kernel
theorem dL_isStore_18 : decode cL_isStore 18 = .ok (.iconst 0, 1) := by decide +kernel
theorem dL_isStore_19 : decode cL_isStore 19 = .ok (.istore 8, 2) := by decide +kernel
theorem dL_isStore_21 : decode cL_isStore 21 = .ok (.iload 8, 2) := by decide +kernel
theorem dL_isStore_23 : decode cL_isStore 23 = .ok (.iconst 5, 1) := by decide +kernel
theorem dL_isStore_24 : decode cL_isStore 24 = .ok (.if_icmp .ge 181, 3) := by decide +kernel
theorem dL_isStore_27 : decode cL_isStore 27 = .ok (.iconst 1, 1) := by decide +kernel
theorem dL_isStore_28 : decode cL_isStore 28 = .ok (.istore 9, 2) := by decide +kernel
theorem dL_isStore_30 : decode cL_isStore 30 = .ok (.iconst 0, 1) := by decide +kernel
theorem dL_isStore_31 : decode cL_isStore 31 = .ok (.istore 10, 2) := by decide +kernel
theorem dL_isStore_33 : decode cL_isStore 33 = .ok (.iload 10, 2) := by decide +kernel
theorem dL_isStore_35 : decode cL_isStore 35 = .ok (.iload 8, 2) := by decide +kernel
theorem dL_isStore_37 : decode cL_isStore 37 = .ok (.if_icmp .ge 32, 3) := by decide +kernel
theorem dL_isStore_40 : decode cL_isStore 40 = .ok (.iload 9, 2) := by decide +kernel
theorem dL_isStore_42 : decode cL_isStore 42 = .ok (.ifCond .eq 18, 3) := by decide +kernel
theorem dL_isStore_45 : decode cL_isStore 45 = .ok (.aload_n 0, 1) := by decide +kernel
theorem dL_isStore_46 : decode cL_isStore 46 = .ok (.iload 8, 2) := by decide +kernel
theorem dL_isStore_48 : decode cL_isStore 48 = .ok (.iload 10, 2) := by decide +kernel
theorem dL_isStore_50 : decode cL_isStore 50 = .ok (.invokevirtual 47, 3) := by decide +kernel
theorem dL_isStore_53 : decode cL_isStore 53 = .ok (.ifCond .le 7, 3) := by decide +kernel
theorem dL_isStore_56 : decode cL_isStore 56 = .ok (.iconst 1, 1) := by decide +kernel
theorem dL_isStore_57 : decode cL_isStore 57 = .ok (.goto 4, 3) := by decide +kernel
theorem dL_isStore_60 : decode cL_isStore 60 = .ok (.iconst 0, 1) := by decide +kernel
theorem dL_isStore_61 : decode cL_isStore 61 = .ok (.istore 9, 2) := by decide +kernel
theorem dL_isStore_63 : decode cL_isStore 63 = .ok (.iinc 10 1, 3) := by decide +kernel
theorem dL_isStore_66 : decode cL_isStore 66 = .ok (.goto (-33), 3) := by decide +kernel
theorem dL_isStore_69 : decode cL_isStore 69 = .ok (.iload_n 1, 1) := by decide +kernel
theorem dL_isStore_70 : decode cL_isStore 70 = .ok (.aload_n 0, 1) := by decide +kernel
theorem dL_isStore_71 : decode cL_isStore 71 = .ok (.iload 8, 2) := by decide +kernel
theorem dL_isStore_73 : decode cL_isStore 73 = .ok (.bipush 10, 2) := by decide +kernel
theorem dL_isStore_75 : decode cL_isStore 75 = .ok (.invokevirtual 8, 3) := by decide +kernel
theorem dL_isStore_78 : decode cL_isStore 78 = .ok (.iadd, 1) := by decide +kernel
theorem dL_isStore_79 : decode cL_isStore 79 = .ok (.istore_n 1, 1) := by decide +kernel
theorem dL_isStore_80 : decode cL_isStore 80 = .ok (.iload_n 2, 1) := by decide +kernel
theorem dL_isStore_81 : decode cL_isStore 81 = .ok (.aload_n 0, 1) := by decide +kernel
theorem dL_isStore_82 : decode cL_isStore 82 = .ok (.iload 8, 2) := by decide +kernel
theorem dL_isStore_84 : decode cL_isStore 84 = .ok (.iconst 0, 1) := by decide +kernel
theorem dL_isStore_85 : decode cL_isStore 85 = .ok (.invokevirtual 8, 3) := by decide +kernel
theorem dL_isStore_88 : decode cL_isStore 88 = .ok (.ifCond .ne 7, 3) := by decide +kernel
theorem dL_isStore_91 : decode cL_isStore 91 = .ok (.iconst 1, 1) := by decide +kernel
theorem dL_isStore_92 : decode cL_isStore 92 = .ok (.goto 4, 3) := by decide +kernel
theorem dL_isStore_95 : decode cL_isStore 95 = .ok (.iconst 0, 1) := by decide +kernel
theorem dL_isStore_96 : decode cL_isStore 96 = .ok (.iadd, 1) := by decide +kernel
theorem dL_isStore_97 : decode cL_isStore 97 = .ok (.istore_n 2, 1) := by decide +kernel
theorem dL_isStore_98 : decode cL_isStore 98 = .ok (.iload_n 3, 1) := by decide +kernel
theorem dL_isStore_99 : decode cL_isStore 99 = .ok (.aload_n 0, 1) := by decide +kernel
theorem dL_isStore_100 : decode cL_isStore 100 = .ok (.iload 8, 2) := by decide +kernel
theorem dL_isStore_102 : decode cL_isStore 102 = .ok (.iconst 4, 1) := by decide +kernel
theorem dL_isStore_103 : decode cL_isStore 103 = .ok (.invokevirtual 8, 3) := by decide +kernel
theorem dL_isStore_106 : decode cL_isStore 106 = .ok (.iadd, 1) := by decide +kernel
theorem dL_isStore_107 : decode cL_isStore 107 = .ok (.istore_n 3, 1) := by decide +kernel
theorem dL_isStore_108 : decode cL_isStore 108 = .ok (.iload 4, 2) := by decide +kernel
theorem dL_isStore_110 : decode cL_isStore 110 = .ok (.aload_n 0, 1) := by decide +kernel
theorem dL_isStore_111 : decode cL_isStore 111 = .ok (.iload 8, 2) := by decide +kernel
theorem dL_isStore_113 : decode cL_isStore 113 = .ok (.iconst 0, 1) := by decide +kernel
theorem dL_isStore_114 : decode cL_isStore 114 = .ok (.invokevirtual 8, 3) := by decide +kernel
theorem dL_isStore_117 : decode cL_isStore 117 = .ok (.iadd, 1) := by decide +kernel
theorem dL_isStore_118 : decode cL_isStore 118 = .ok (.istore 4, 2) := by decide +kernel
theorem dL_isStore_120 : decode cL_isStore 120 = .ok (.iload 5, 2) := by decide +kernel
theorem dL_isStore_122 : decode cL_isStore 122 = .ok (.aload_n 0, 1) := by decide +kernel
theorem dL_isStore_123 : decode cL_isStore 123 = .ok (.iload 8, 2) := by decide +kernel
theorem dL_isStore_125 : decode cL_isStore 125 = .ok (.bipush 7, 2) := by decide +kernel
theorem dL_isStore_127 : decode cL_isStore 127 = .ok (.invokevirtual 8, 3) := by decide +kernel
theorem dL_isStore_130 : decode cL_isStore 130 = .ok (.invokestatic 50, 3) := by decide +kernel
theorem dL_isStore_133 : decode cL_isStore 133 = .ok (.iadd, 1) := by decide +kernel
theorem dL_isStore_134 : decode cL_isStore 134 = .ok (.istore 5, 2) := by decide +kernel
theorem dL_isStore_136 : decode cL_isStore 136 = .ok (.iload 6, 2) := by decide +kernel
theorem dL_isStore_138 : decode cL_isStore 138 = .ok (.iload 9, 2) := by decide +kernel
theorem dL_isStore_140 : decode cL_isStore 140 = .ok (.ifCond .eq 7, 3) := by decide +kernel
theorem dL_isStore_143 : decode cL_isStore 143 = .ok (.iconst 1, 1) := by decide +kernel
theorem dL_isStore_144 : decode cL_isStore 144 = .ok (.goto 4, 3) := by decide +kernel
theorem dL_isStore_147 : decode cL_isStore 147 = .ok (.iconst 0, 1) := by decide +kernel
theorem dL_isStore_148 : decode cL_isStore 148 = .ok (.iadd, 1) := by decide +kernel
theorem dL_isStore_149 : decode cL_isStore 149 = .ok (.istore 6, 2) := by decide +kernel
theorem dL_isStore_151 : decode cL_isStore 151 = .ok (.iload 7, 2) := by decide +kernel
theorem dL_isStore_153 : decode cL_isStore 153 = .ok (.aload_n 0, 1) := by decide +kernel
theorem dL_isStore_154 : decode cL_isStore 154 = .ok (.iload 8, 2) := by decide +kernel
theorem dL_isStore_156 : decode cL_isStore 156 = .ok (.iconst 2, 1) := by decide +kernel
theorem dL_isStore_157 : decode cL_isStore 157 = .ok (.invokevirtual 8, 3) := by decide +kernel
theorem dL_isStore_160 : decode cL_isStore 160 = .ok (.iadd, 1) := by decide +kernel
theorem dL_isStore_161 : decode cL_isStore 161 = .ok (.istore 7, 2) := by decide +kernel
theorem dL_isStore_163 : decode cL_isStore 163 = .ok (.aload_n 0, 1) := by decide +kernel
theorem dL_isStore_164 : decode cL_isStore 164 = .ok (.iload 8, 2) := by decide +kernel
theorem dL_isStore_166 : decode cL_isStore 166 = .ok (.iconst 4, 1) := by decide +kernel
theorem dL_isStore_167 : decode cL_isStore 167 = .ok (.invokevirtual 8, 3) := by decide +kernel
theorem dL_isStore_170 : decode cL_isStore 170 = .ok (.iconst 1, 1) := by decide +kernel
theorem dL_isStore_171 : decode cL_isStore 171 = .ok (.if_icmp .ne 28, 3) := by decide +kernel
theorem dL_isStore_174 : decode cL_isStore 174 = .ok (.aload_n 0, 1) := by decide +kernel
theorem dL_isStore_175 : decode cL_isStore 175 = .ok (.iload 8, 2) := by decide +kernel
theorem dL_isStore_177 : decode cL_isStore 177 = .ok (.iconst 3, 1) := by decide +kernel
theorem dL_isStore_178 : decode cL_isStore 178 = .ok (.invokevirtual 8, 3) := by decide +kernel
theorem dL_isStore_181 : decode cL_isStore 181 = .ok (.iconst 2, 1) := by decide +kernel
theorem dL_isStore_182 : decode cL_isStore 182 = .ok (.if_icmp .ne 15, 3) := by decide +kernel
theorem dL_isStore_185 : decode cL_isStore 185 = .ok (.aload_n 0, 1) := by decide +kernel
theorem dL_isStore_186 : decode cL_isStore 186 = .ok (.iload 8, 2) := by decide +kernel
theorem dL_isStore_188 : decode cL_isStore 188 = .ok (.iconst 0, 1) := by decide +kernel
theorem dL_isStore_189 : decode cL_isStore 189 = .ok (.invokevirtual 8, 3) := by decide +kernel
theorem dL_isStore_192 : decode cL_isStore 192 = .ok (.iconst 2, 1) := by decide +kernel
theorem dL_isStore_193 : decode cL_isStore 193 = .ok (.irem, 1) := by decide +kernel
theorem dL_isStore_194 : decode cL_isStore 194 = .ok (.ifCond .ne 5, 3) := by decide +kernel
theorem dL_isStore_197 : decode cL_isStore 197 = .ok (.iconst 0, 1) := by decide +kernel
theorem dL_isStore_198 : decode cL_isStore 198 = .ok (.ireturn, 1) := by decide +kernel
theorem dL_isStore_199 : decode cL_isStore 199 = .ok (.iinc 8 1, 3) := by decide +kernel
theorem dL_isStore_202 : decode cL_isStore 202 = .ok (.goto (-181), 3) := by decide +kernel
theorem dL_isStore_205 : decode cL_isStore 205 = .ok (.aload_n 0, 1) := by decide +kernel
theorem dL_isStore_206 : decode cL_isStore 206 = .ok (.iconst 0, 1) := by decide +kernel
theorem dL_isStore_207 : decode cL_isStore 207 = .ok (.invokevirtual 53, 3) := by decide +kernel
theorem dL_isStore_210 : decode cL_isStore 210 = .ok (.iload_n 1, 1) := by decide +kernel
theorem dL_isStore_211 : decode cL_isStore 211 = .ok (.if_icmp .ne 93, 3) := by decide +kernel
theorem dL_isStore_214 : decode cL_isStore 214 = .ok (.aload_n 0, 1) := by decide +kernel
theorem dL_isStore_215 : decode cL_isStore 215 = .ok (.iconst 1, 1) := by decide +kernel
theorem dL_isStore_216 : decode cL_isStore 216 = .ok (.invokevirtual 53, 3) := by decide +kernel
theorem dL_isStore_219 : decode cL_isStore 219 = .ok (.iload_n 2, 1) := by decide +kernel
theorem dL_isStore_220 : decode cL_isStore 220 = .ok (.if_icmp .ne 84, 3) := by decide +kernel
theorem dL_isStore_223 : decode cL_isStore 223 = .ok (.aload_n 0, 1) := by decide +kernel
theorem dL_isStore_224 : decode cL_isStore 224 = .ok (.iconst 2, 1) := by decide +kernel
theorem dL_isStore_225 : decode cL_isStore 225 = .ok (.invokevirtual 53, 3) := by decide +kernel
theorem dL_isStore_228 : decode cL_isStore 228 = .ok (.iload_n 3, 1) := by decide +kernel
theorem dL_isStore_229 : decode cL_isStore 229 = .ok (.if_icmp .ne 75, 3) := by decide +kernel
theorem dL_isStore_232 : decode cL_isStore 232 = .ok (.aload_n 0, 1) := by decide +kernel
theorem dL_isStore_233 : decode cL_isStore 233 = .ok (.iconst 3, 1) := by decide +kernel
theorem dL_isStore_234 : decode cL_isStore 234 = .ok (.invokevirtual 53, 3) := by decide +kernel
theorem dL_isStore_237 : decode cL_isStore 237 = .ok (.iload 4, 2) := by decide +kernel
theorem dL_isStore_239 : decode cL_isStore 239 = .ok (.if_icmp .ne 65, 3) := by decide +kernel
theorem dL_isStore_242 : decode cL_isStore 242 = .ok (.aload_n 0, 1) := by decide +kernel
theorem dL_isStore_243 : decode cL_isStore 243 = .ok (.iconst 4, 1) := by decide +kernel
theorem dL_isStore_244 : decode cL_isStore 244 = .ok (.invokevirtual 53, 3) := by decide +kernel
theorem dL_isStore_247 : decode cL_isStore 247 = .ok (.iload 5, 2) := by decide +kernel
theorem dL_isStore_249 : decode cL_isStore 249 = .ok (.if_icmp .ne 55, 3) := by decide +kernel
theorem dL_isStore_252 : decode cL_isStore 252 = .ok (.aload_n 0, 1) := by decide +kernel
theorem dL_isStore_253 : decode cL_isStore 253 = .ok (.iconst 5, 1) := by decide +kernel
theorem dL_isStore_254 : decode cL_isStore 254 = .ok (.invokevirtual 53, 3) := by decide +kernel
theorem dL_isStore_257 : decode cL_isStore 257 = .ok (.iload 6, 2) := by decide +kernel
theorem dL_isStore_259 : decode cL_isStore 259 = .ok (.if_icmp .ne 45, 3) := by decide +kernel
theorem dL_isStore_262 : decode cL_isStore 262 = .ok (.aload_n 0, 1) := by decide +kernel
theorem dL_isStore_263 : decode cL_isStore 263 = .ok (.invokevirtual 56, 3) := by decide +kernel
theorem dL_isStore_266 : decode cL_isStore 266 = .ok (.iload 7, 2) := by decide +kernel
theorem dL_isStore_268 : decode cL_isStore 268 = .ok (.ifCond .ne 7, 3) := by decide +kernel
theorem dL_isStore_271 : decode cL_isStore 271 = .ok (.dconst 1, 1) := by decide +kernel
theorem dL_isStore_272 : decode cL_isStore 272 = .ok (.goto 10, 3) := by decide +kernel
theorem dL_isStore_275 : decode cL_isStore 275 = .ok (.iload 4, 2) := by decide +kernel
theorem dL_isStore_277 : decode cL_isStore 277 = .ok (.i2d, 1) := by decide +kernel
theorem dL_isStore_278 : decode cL_isStore 278 = .ok (.iload 7, 2) := by decide +kernel
theorem dL_isStore_280 : decode cL_isStore 280 = .ok (.i2d, 1) := by decide +kernel
theorem dL_isStore_281 : decode cL_isStore 281 = .ok (.ddiv, 1) := by decide +kernel
theorem dL_isStore_282 : decode cL_isStore 282 = .ok (.dcmp .l, 1) := by decide +kernel
theorem dL_isStore_283 : decode cL_isStore 283 = .ok (.ifCond .ne 21, 3) := by decide +kernel
theorem dL_isStore_286 : decode cL_isStore 286 = .ok (.aload_n 0, 1) := by decide +kernel
theorem dL_isStore_287 : decode cL_isStore 287 = .ok (.invokevirtual 60, 3) := by decide +kernel
theorem dL_isStore_290 : decode cL_isStore 290 = .ok (.iload 4, 2) := by decide +kernel
theorem dL_isStore_292 : decode cL_isStore 292 = .ok (.i2f, 1) := by decide +kernel
theorem dL_isStore_293 : decode cL_isStore 293 = .ok (.ldc 64, 2) := by decide +kernel
theorem dL_isStore_295 : decode cL_isStore 295 = .ok (.fdiv, 1) := by decide +kernel
theorem dL_isStore_296 : decode cL_isStore 296 = .ok (.fcmp .l, 1) := by decide +kernel
theorem dL_isStore_297 : decode cL_isStore 297 = .ok (.ifCond .ne 7, 3) := by decide +kernel
theorem dL_isStore_300 : decode cL_isStore 300 = .ok (.iconst 1, 1) := by decide +kernel
theorem dL_isStore_301 : decode cL_isStore 301 = .ok (.goto 4, 3) := by decide +kernel
theorem dL_isStore_304 : decode cL_isStore 304 = .ok (.iconst 0, 1) := by decide +kernel
theorem dL_isStore_305 : decode cL_isStore 305 = .ok (.ireturn, 1) := by decide +kernel
theorem dL_areNear_0 : decode cL_areNear 0 = .ok (.bipush (-10), 2) := by decide +kernel
theorem dL_areNear_2 : decode cL_areNear 2 = .ok (.istore_n 2, 1) := by decide +kernel
theorem dL_areNear_3 : decode cL_areNear 3 = .ok (.bipush 99, 2) := by decide +kernel
theorem dL_areNear_5 : decode cL_areNear 5 = .ok (.istore_n 3, 1) := by decide +kernel
theorem dL_areNear_6 : decode cL_areNear 6 = .ok (.iconst 0, 1) := by decide +kernel
theorem dL_areNear_7 : decode cL_areNear 7 = .ok (.istore 4, 2) := by decide +kernel
theorem dL_areNear_9 : decode cL_areNear 9 = .ok (.iload 4, 2) := by decide +kernel
theorem dL_areNear_11 : decode cL_areNear 11 = .ok (.iconst 5, 1) := by decide +kernel
theorem dL_areNear_12 : decode cL_areNear 12 = .ok (.if_icmp .ge 119, 3) := by decide +kernel
theorem dL_areNear_15 : decode cL_areNear 15 = .ok (.aload_n 0, 1) := by decide +kernel
theorem dL_areNear_16 : decode cL_areNear 16 = .ok (.iload_n 1, 1) := by decide +kernel
theorem dL_areNear_17 : decode cL_areNear 17 = .ok (.iload 4, 2) := by decide +kernel
theorem dL_areNear_19 : decode cL_areNear 19 = .ok (.invokevirtual 47, 3) := by decide +kernel
theorem dL_areNear_22 : decode cL_areNear 22 = .ok (.istore 5, 2) := by decide +kernel
theorem dL_areNear_24 : decode cL_areNear 24 = .ok (.iload 5, 2) := by decide +kernel
theorem dL_areNear_26 : decode cL_areNear 26 = .ok (.aload_n 0, 1) := by decide +kernel
theorem dL_areNear_27 : decode cL_areNear 27 = .ok (.iload 4, 2) := by decide +kernel
theorem dL_areNear_29 : decode cL_areNear 29 = .ok (.iload_n 1, 1) := by decide +kernel
theorem dL_areNear_30 : decode cL_areNear 30 = .ok (.invokevirtual 47, 3) := by decide +kernel
theorem dL_areNear_33 : decode cL_areNear 33 = .ok (.if_icmp .ne 14, 3) := by decide +kernel
theorem dL_areNear_36 : decode cL_areNear 36 = .ok (.iload 4, 2) := by decide +kernel
theorem dL_areNear_38 : decode cL_areNear 38 = .ok (.iload_n 1, 1) := by decide +kernel
theorem dL_areNear_39 : decode cL_areNear 39 = .ok (.if_icmp .ne 10, 3) := by decide +kernel
theorem dL_areNear_42 : decode cL_areNear 42 = .ok (.iload 5, 2) := by decide +kernel
theorem dL_areNear_44 : decode cL_areNear 44 = .ok (.ifCond .eq 5, 3) := by decide +kernel
theorem dL_areNear_47 : decode cL_areNear 47 = .ok (.iconst 0, 1) := by decide +kernel
theorem dL_areNear_48 : decode cL_areNear 48 = .ok (.ireturn, 1) := by decide +kernel
theorem dL_areNear_49 : decode cL_areNear 49 = .ok (.iconst 0, 1) := by decide +kernel
theorem dL_areNear_50 : decode cL_areNear 50 = .ok (.istore 6, 2) := by decide +kernel
theorem dL_areNear_52 : decode cL_areNear 52 = .ok (.iload 6, 2) := by decide +kernel
theorem dL_areNear_54 : decode cL_areNear 54 = .ok (.iconst 5, 1) := by decide +kernel
theorem dL_areNear_55 : decode cL_areNear 55 = .ok (.if_icmp .ge 32, 3) := by decide +kernel
theorem dL_areNear_58 : decode cL_areNear 58 = .ok (.iload 5, 2) := by decide +kernel
theorem dL_areNear_60 : decode cL_areNear 60 = .ok (.aload_n 0, 1) := by decide +kernel
theorem dL_areNear_61 : decode cL_areNear 61 = .ok (.iload_n 1, 1) := by decide +kernel
theorem dL_areNear_62 : decode cL_areNear 62 = .ok (.iload 6, 2) := by decide +kernel
theorem dL_areNear_64 : decode cL_areNear 64 = .ok (.invokevirtual 47, 3) := by decide +kernel
theorem dL_areNear_67 : decode cL_areNear 67 = .ok (.aload_n 0, 1) := by decide +kernel
theorem dL_areNear_68 : decode cL_areNear 68 = .ok (.iload 6, 2) := by decide +kernel
theorem dL_areNear_70 : decode cL_areNear 70 = .ok (.iload 4, 2) := by decide +kernel
theorem dL_areNear_72 : decode cL_areNear 72 = .ok (.invokevirtual 47, 3) := by decide +kernel
theorem dL_areNear_75 : decode cL_areNear 75 = .ok (.iadd, 1) := by decide +kernel
theorem dL_areNear_76 : decode cL_areNear 76 = .ok (.if_icmp .le 5, 3) := by decide +kernel
theorem dL_areNear_79 : decode cL_areNear 79 = .ok (.iconst 0, 1) := by decide +kernel
theorem dL_areNear_80 : decode cL_areNear 80 = .ok (.ireturn, 1) := by decide +kernel
theorem dL_areNear_81 : decode cL_areNear 81 = .ok (.iinc 6 1, 3) := by decide +kernel
theorem dL_areNear_84 : decode cL_areNear 84 = .ok (.goto (-32), 3) := by decide +kernel
theorem dL_areNear_87 : decode cL_areNear 87 = .ok (.iload 4, 2) := by decide +kernel
theorem dL_areNear_89 : decode cL_areNear 89 = .ok (.iload_n 1, 1) := by decide +kernel
theorem dL_areNear_90 : decode cL_areNear 90 = .ok (.if_icmp .eq 14, 3) := by decide +kernel
theorem dL_areNear_93 : decode cL_areNear 93 = .ok (.iload 5, 2) := by decide +kernel
theorem dL_areNear_95 : decode cL_areNear 95 = .ok (.iload_n 3, 1) := by decide +kernel
theorem dL_areNear_96 : decode cL_areNear 96 = .ok (.if_icmp .ge 8, 3) := by decide +kernel
theorem dL_areNear_99 : decode cL_areNear 99 = .ok (.iload 4, 2) := by decide +kernel
theorem dL_areNear_101 : decode cL_areNear 101 = .ok (.goto 4, 3) := by decide +kernel
theorem dL_areNear_104 : decode cL_areNear 104 = .ok (.iload_n 2, 1) := by decide +kernel
theorem dL_areNear_105 : decode cL_areNear 105 = .ok (.istore_n 2, 1) := by decide +kernel
theorem dL_areNear_106 : decode cL_areNear 106 = .ok (.iload 4, 2) := by decide +kernel
theorem dL_areNear_108 : decode cL_areNear 108 = .ok (.iload_n 1, 1) := by decide +kernel
theorem dL_areNear_109 : decode cL_areNear 109 = .ok (.if_icmp .eq 14, 3) := by decide +kernel
theorem dL_areNear_112 : decode cL_areNear 112 = .ok (.iload 5, 2) := by decide +kernel
theorem dL_areNear_114 : decode cL_areNear 114 = .ok (.iload_n 3, 1) := by decide +kernel
theorem dL_areNear_115 : decode cL_areNear 115 = .ok (.if_icmp .ge 8, 3) := by decide +kernel
theorem dL_areNear_118 : decode cL_areNear 118 = .ok (.iload 5, 2) := by decide +kernel
theorem dL_areNear_120 : decode cL_areNear 120 = .ok (.goto 4, 3) := by decide +kernel
theorem dL_areNear_123 : decode cL_areNear 123 = .ok (.iload_n 3, 1) := by decide +kernel
theorem dL_areNear_124 : decode cL_areNear 124 = .ok (.istore_n 3, 1) := by decide +kernel
theorem dL_areNear_125 : decode cL_areNear 125 = .ok (.iinc 4 1, 3) := by decide +kernel
theorem dL_areNear_128 : decode cL_areNear 128 = .ok (.goto (-119), 3) := by decide +kernel
theorem dL_areNear_131 : decode cL_areNear 131 = .ok (.aload_n 0, 1) := by decide +kernel
theorem dL_areNear_132 : decode cL_areNear 132 = .ok (.iload_n 1, 1) := by decide +kernel
theorem dL_areNear_133 : decode cL_areNear 133 = .ok (.invokevirtual 65, 3) := by decide +kernel
theorem dL_areNear_136 : decode cL_areNear 136 = .ok (.iload_n 2, 1) := by decide +kernel
theorem dL_areNear_137 : decode cL_areNear 137 = .ok (.if_icmp .ne 7, 3) := by decide +kernel
theorem dL_areNear_140 : decode cL_areNear 140 = .ok (.iconst 1, 1) := by decide +kernel
theorem dL_areNear_141 : decode cL_areNear 141 = .ok (.goto 4, 3) := by decide +kernel
theorem dL_areNear_144 : decode cL_areNear 144 = .ok (.iconst 0, 1) := by decide +kernel
theorem dL_areNear_145 : decode cL_areNear 145 = .ok (.ireturn, 1) := by decide +kernel
theorem dL_areProducts_0 : decode cL_areProducts 0 = .ok (.aload_n 0, 1) := by decide +kernel
theorem dL_areProducts_1 : decode cL_areProducts 1 = .ok (.iload_n 3, 1) := by decide +kernel
theorem dL_areProducts_2 : decode cL_areProducts 2 = .ok (.iload_n 1, 1) := by decide +kernel
theorem dL_areProducts_3 : decode cL_areProducts 3 = .ok (.iload_n 2, 1) := by decide +kernel
theorem dL_areProducts_4 : decode cL_areProducts 4 = .ok (.invokevirtual 68, 3) := by decide +kernel
theorem dL_areProducts_7 : decode cL_areProducts 7 = .ok (.istore 4, 2) := by decide +kernel
theorem dL_areProducts_9 : decode cL_areProducts 9 = .ok (.iload 4, 2) := by decide +kernel
theorem dL_areProducts_11 : decode cL_areProducts 11 = .ok (.aload_n 0, 1) := by decide +kernel
theorem dL_areProducts_12 : decode cL_areProducts 12 = .ok (.iload_n 3, 1) := by decide +kernel
theorem dL_areProducts_13 : decode cL_areProducts 13 = .ok (.iconst 0, 1) := by decide +kernel
theorem dL_areProducts_14 : decode cL_areProducts 14 = .ok (.invokevirtual 8, 3) := by decide +kernel
theorem dL_areProducts_17 : decode cL_areProducts 17 = .ok (.if_icmp .ne 28, 3) := by decide +kernel
theorem dL_areProducts_20 : decode cL_areProducts 20 = .ok (.aload_n 0, 1) := by decide +kernel
theorem dL_areProducts_21 : decode cL_areProducts 21 = .ok (.iload_n 3, 1) := by decide +kernel
theorem dL_areProducts_22 : decode cL_areProducts 22 = .ok (.iconst 2, 1) := by decide +kernel
theorem dL_areProducts_23 : decode cL_areProducts 23 = .ok (.invokevirtual 8, 3) := by decide +kernel
theorem dL_areProducts_26 : decode cL_areProducts 26 = .ok (.iload 4, 2) := by decide +kernel
theorem dL_areProducts_28 : decode cL_areProducts 28 = .ok (.if_icmp .ne 17, 3) := by decide +kernel
theorem dL_areProducts_31 : decode cL_areProducts 31 = .ok (.aload_n 0, 1) := by decide +kernel
theorem dL_areProducts_32 : decode cL_areProducts 32 = .ok (.iload_n 3, 1) := by decide +kernel
theorem dL_areProducts_33 : decode cL_areProducts 33 = .ok (.bipush 7, 2) := by decide +kernel
theorem dL_areProducts_35 : decode cL_areProducts 35 = .ok (.invokevirtual 8, 3) := by decide +kernel
theorem dL_areProducts_38 : decode cL_areProducts 38 = .ok (.ifCond .ne 7, 3) := by decide +kernel
theorem dL_areProducts_41 : decode cL_areProducts 41 = .ok (.iconst 1, 1) := by decide +kernel
theorem dL_areProducts_42 : decode cL_areProducts 42 = .ok (.goto 4, 3) := by decide +kernel
theorem dL_areProducts_45 : decode cL_areProducts 45 = .ok (.iconst 0, 1) := by decide +kernel
theorem dL_areProducts_46 : decode cL_areProducts 46 = .ok (.istore 5, 2) := by decide +kernel
theorem dL_areProducts_48 : decode cL_areProducts 48 = .ok (.aload_n 0, 1) := by decide +kernel
theorem dL_areProducts_49 : decode cL_areProducts 49 = .ok (.iload_n 3, 1) := by decide +kernel
theorem dL_areProducts_50 : decode cL_areProducts 50 = .ok (.iload_n 3, 1) := by decide +kernel
theorem dL_areProducts_51 : decode cL_areProducts 51 = .ok (.invokevirtual 72, 3) := by decide +kernel
theorem dL_areProducts_54 : decode cL_areProducts 54 = .ok (.istore 6, 2) := by decide +kernel
theorem dL_areProducts_56 : decode cL_areProducts 56 = .ok (.iload 5, 2) := by decide +kernel
theorem dL_areProducts_58 : decode cL_areProducts 58 = .ok (.ifCond .eq 25, 3) := by decide +kernel
theorem dL_areProducts_61 : decode cL_areProducts 61 = .ok (.iload 6, 2) := by decide +kernel
theorem dL_areProducts_63 : decode cL_areProducts 63 = .ok (.iload 4, 2) := by decide +kernel
theorem dL_areProducts_65 : decode cL_areProducts 65 = .ok (.if_icmp .ne 18, 3) := by decide +kernel
theorem dL_areProducts_68 : decode cL_areProducts 68 = .ok (.aload_n 0, 1) := by decide +kernel
theorem dL_areProducts_69 : decode cL_areProducts 69 = .ok (.iload_n 3, 1) := by decide +kernel
theorem dL_areProducts_70 : decode cL_areProducts 70 = .ok (.iload_n 3, 1) := by decide +kernel
theorem dL_areProducts_71 : decode cL_areProducts 71 = .ok (.invokevirtual 72, 3) := by decide +kernel
theorem dL_areProducts_74 : decode cL_areProducts 74 = .ok (.iload 4, 2) := by decide +kernel
theorem dL_areProducts_76 : decode cL_areProducts 76 = .ok (.if_icmp .ne 7, 3) := by decide +kernel
theorem dL_areProducts_79 : decode cL_areProducts 79 = .ok (.iconst 1, 1) := by decide +kernel
theorem dL_areProducts_80 : decode cL_areProducts 80 = .ok (.goto 4, 3) := by decide +kernel
theorem dL_areProducts_83 : decode cL_areProducts 83 = .ok (.iconst 0, 1) := by decide +kernel
theorem dL_areProducts_84 : decode cL_areProducts 84 = .ok (.istore 5, 2) := by decide +kernel
theorem dL_areProducts_86 : decode cL_areProducts 86 = .ok (.aload_n 0, 1) := by decide +kernel
theorem dL_areProducts_87 : decode cL_areProducts 87 = .ok (.iload_n 3, 1) := by decide +kernel
theorem dL_areProducts_88 : decode cL_areProducts 88 = .ok (.iconst 3, 1) := by decide +kernel
theorem dL_areProducts_89 : decode cL_areProducts 89 = .ok (.invokevirtual 8, 3) := by decide +kernel
theorem dL_areProducts_92 : decode cL_areProducts 92 = .ok (.istore 7, 2) := by decide +kernel
theorem dL_areProducts_94 : decode cL_areProducts 94 = .ok (.iload_n 3, 1) := by decide +kernel
theorem dL_areProducts_95 : decode cL_areProducts 95 = .ok (.iconst 1, 1) := by decide +kernel
theorem dL_areProducts_96 : decode cL_areProducts 96 = .ok (.iadd, 1) := by decide +kernel
theorem dL_areProducts_97 : decode cL_areProducts 97 = .ok (.iconst 5, 1) := by decide +kernel
theorem dL_areProducts_98 : decode cL_areProducts 98 = .ok (.irem, 1) := by decide +kernel
theorem dL_areProducts_99 : decode cL_areProducts 99 = .ok (.istore 8, 2) := by decide +kernel
theorem dL_areProducts_101 : decode cL_areProducts 101 = .ok (.iconst 1, 1) := by decide +kernel
theorem dL_areProducts_102 : decode cL_areProducts 102 = .ok (.istore 9, 2) := by decide +kernel
theorem dL_areProducts_104 : decode cL_areProducts 104 = .ok (.aload_n 0, 1) := by decide +kernel
theorem dL_areProducts_105 : decode cL_areProducts 105 = .ok (.iload 8, 2) := by decide +kernel
theorem dL_areProducts_107 : decode cL_areProducts 107 = .ok (.iload_n 3, 1) := by decide +kernel
theorem dL_areProducts_108 : decode cL_areProducts 108 = .ok (.iload_n 3, 1) := by decide +kernel
theorem dL_areProducts_109 : decode cL_areProducts 109 = .ok (.invokevirtual 68, 3) := by decide +kernel
theorem dL_areProducts_112 : decode cL_areProducts 112 = .ok (.istore 10, 2) := by decide +kernel
theorem dL_areProducts_114 : decode cL_areProducts 114 = .ok (.iload 5, 2) := by decide +kernel
theorem dL_areProducts_116 : decode cL_areProducts 116 = .ok (.ifCond .eq 43, 3) := by decide +kernel
theorem dL_areProducts_119 : decode cL_areProducts 119 = .ok (.iload 7, 2) := by decide +kernel
theorem dL_areProducts_121 : decode cL_areProducts 121 = .ok (.iconst 1, 1) := by decide +kernel
theorem dL_areProducts_122 : decode cL_areProducts 122 = .ok (.if_icmp .ne 7, 3) := by decide +kernel
theorem dL_areProducts_125 : decode cL_areProducts 125 = .ok (.iconst 1, 1) := by decide +kernel
theorem dL_areProducts_126 : decode cL_areProducts 126 = .ok (.goto 4, 3) := by decide +kernel
theorem dL_areProducts_129 : decode cL_areProducts 129 = .ok (.iconst 0, 1) := by decide +kernel
theorem dL_areProducts_130 : decode cL_areProducts 130 = .ok (.iload 4, 2) := by decide +kernel
theorem dL_areProducts_132 : decode cL_areProducts 132 = .ok (.ifCond .ne 7, 3) := by decide +kernel
theorem dL_areProducts_135 : decode cL_areProducts 135 = .ok (.iconst 1, 1) := by decide +kernel
theorem dL_areProducts_136 : decode cL_areProducts 136 = .ok (.goto 4, 3) := by decide +kernel
theorem dL_areProducts_139 : decode cL_areProducts 139 = .ok (.iconst 0, 1) := by decide +kernel
theorem dL_areProducts_140 : decode cL_areProducts 140 = .ok (.if_icmp .ne 19, 3) := by decide +kernel
theorem dL_areProducts_143 : decode cL_areProducts 143 = .ok (.iload 7, 2) := by decide +kernel
theorem dL_areProducts_145 : decode cL_areProducts 145 = .ok (.ifCond .le 14, 3) := by decide +kernel
theorem dL_areProducts_148 : decode cL_areProducts 148 = .ok (.iload 7, 2) := by decide +kernel
theorem dL_areProducts_150 : decode cL_areProducts 150 = .ok (.bipush 8, 2) := by decide +kernel
theorem dL_areProducts_152 : decode cL_areProducts 152 = .ok (.if_icmp .gt 7, 3) := by decide +kernel
theorem dL_areProducts_155 : decode cL_areProducts 155 = .ok (.iconst 1, 1) := by decide +kernel
theorem dL_areProducts_156 : decode cL_areProducts 156 = .ok (.goto 4, 3) := by decide +kernel
theorem dL_areProducts_159 : decode cL_areProducts 159 = .ok (.iconst 0, 1) := by decide +kernel
theorem dL_areProducts_160 : decode cL_areProducts 160 = .ok (.istore 5, 2) := by decide +kernel
theorem dL_areProducts_162 : decode cL_areProducts 162 = .ok (.iload 5, 2) := by decide +kernel
theorem dL_areProducts_164 : decode cL_areProducts 164 = .ok (.ifCond .eq 48, 3) := by decide +kernel
theorem dL_areProducts_167 : decode cL_areProducts 167 = .ok (.iload 9, 2) := by decide +kernel
theorem dL_areProducts_169 : decode cL_areProducts 169 = .ok (.iload 7, 2) := by decide +kernel
theorem dL_areProducts_171 : decode cL_areProducts 171 = .ok (.iconst 1, 1) := by decide +kernel
theorem dL_areProducts_172 : decode cL_areProducts 172 = .ok (.isub, 1) := by decide +kernel
theorem dL_areProducts_173 : decode cL_areProducts 173 = .ok (.if_icmp .ge 39, 3) := by decide +kernel
theorem dL_areProducts_176 : decode cL_areProducts 176 = .ok (.iload 9, 2) := by decide +kernel
theorem dL_areProducts_178 : decode cL_areProducts 178 = .ok (.bipush 9, 2) := by decide +kernel
theorem dL_areProducts_180 : decode cL_areProducts 180 = .ok (.if_icmp .ge 32, 3) := by decide +kernel
theorem dL_areProducts_183 : decode cL_areProducts 183 = .ok (.iload 10, 2) := by decide +kernel
theorem dL_areProducts_185 : decode cL_areProducts 185 = .ok (.ifCond .le 7, 3) := by decide +kernel
theorem dL_areProducts_188 : decode cL_areProducts 188 = .ok (.iconst 1, 1) := by decide +kernel
theorem dL_areProducts_189 : decode cL_areProducts 189 = .ok (.goto 4, 3) := by decide +kernel
theorem dL_areProducts_192 : decode cL_areProducts 192 = .ok (.iconst 0, 1) := by decide +kernel
theorem dL_areProducts_193 : decode cL_areProducts 193 = .ok (.istore 5, 2) := by decide +kernel
theorem dL_areProducts_195 : decode cL_areProducts 195 = .ok (.aload_n 0, 1) := by decide +kernel
theorem dL_areProducts_196 : decode cL_areProducts 196 = .ok (.iload 8, 2) := by decide +kernel
theorem dL_areProducts_198 : decode cL_areProducts 198 = .ok (.iload 8, 2) := by decide +kernel
theorem dL_areProducts_200 : decode cL_areProducts 200 = .ok (.iload_n 3, 1) := by decide +kernel
theorem dL_areProducts_201 : decode cL_areProducts 201 = .ok (.invokevirtual 68, 3) := by decide +kernel
theorem dL_areProducts_204 : decode cL_areProducts 204 = .ok (.istore 10, 2) := by decide +kernel
theorem dL_areProducts_206 : decode cL_areProducts 206 = .ok (.iinc 9 1, 3) := by decide +kernel
theorem dL_areProducts_209 : decode cL_areProducts 209 = .ok (.goto (-47), 3) := by decide +kernel
theorem dL_areProducts_212 : decode cL_areProducts 212 = .ok (.iload 5, 2) := by decide +kernel
theorem dL_areProducts_214 : decode cL_areProducts 214 = .ok (.ifCond .eq 18, 3) := by decide +kernel
theorem dL_areProducts_217 : decode cL_areProducts 217 = .ok (.iload 7, 2) := by decide +kernel
theorem dL_areProducts_219 : decode cL_areProducts 219 = .ok (.iconst 1, 1) := by decide +kernel
theorem dL_areProducts_220 : decode cL_areProducts 220 = .ok (.if_icmp .eq 8, 3) := by decide +kernel
theorem dL_areProducts_223 : decode cL_areProducts 223 = .ok (.iload 10, 2) := by decide +kernel
theorem dL_areProducts_225 : decode cL_areProducts 225 = .ok (.ifCond .ne 7, 3) := by decide +kernel
theorem dL_areProducts_228 : decode cL_areProducts 228 = .ok (.iconst 1, 1) := by decide +kernel
theorem dL_areProducts_229 : decode cL_areProducts 229 = .ok (.goto 4, 3) := by decide +kernel
theorem dL_areProducts_232 : decode cL_areProducts 232 = .ok (.iconst 0, 1) := by decide +kernel
theorem dL_areProducts_233 : decode cL_areProducts 233 = .ok (.ireturn, 1) := by decide +kernel
theorem dL_does_0 : decode cL_does 0 = .ok (.iload_n 1, 1) := by decide +kernel
theorem dL_does_1 : decode cL_does 1 = .ok (.iconst 5, 1) := by decide +kernel
theorem dL_does_2 : decode cL_does 2 = .ok (.ishr, 1) := by decide +kernel
theorem dL_does_3 : decode cL_does 3 = .ok (.iconst 5, 1) := by decide +kernel
theorem dL_does_4 : decode cL_does 4 = .ok (.invokestatic 75, 3) := by decide +kernel
theorem dL_does_7 : decode cL_does 7 = .ok (.istore_n 3, 1) := by decide +kernel
theorem dL_does_8 : decode cL_does 8 = .ok (.iload_n 1, 1) := by decide +kernel
theorem dL_does_9 : decode cL_does 9 = .ok (.bipush 8, 2) := by decide +kernel
theorem dL_does_11 : decode cL_does 11 = .ok (.ishr, 1) := by decide +kernel
theorem dL_does_12 : decode cL_does 12 = .ok (.iconst 3, 1) := by decide +kernel
theorem dL_does_13 : decode cL_does 13 = .ok (.iand, 1) := by decide +kernel
theorem dL_does_14 : decode cL_does 14 = .ok (.istore 4, 2) := by decide +kernel
theorem dL_does_16 : decode cL_does 16 = .ok (.aload_n 0, 1) := by decide +kernel
theorem dL_does_17 : decode cL_does 17 = .ok (.iload_n 3, 1) := by decide +kernel
theorem dL_does_18 : decode cL_does 18 = .ok (.iconst 2, 1) := by decide +kernel
theorem dL_does_19 : decode cL_does 19 = .ok (.invokevirtual 8, 3) := by decide +kernel
theorem dL_does_22 : decode cL_does 22 = .ok (.istore 5, 2) := by decide +kernel
theorem dL_does_24 : decode cL_does 24 = .ok (.aload_n 0, 1) := by decide +kernel
theorem dL_does_25 : decode cL_does 25 = .ok (.iload_n 3, 1) := by decide +kernel
theorem dL_does_26 : decode cL_does 26 = .ok (.bipush 10, 2) := by decide +kernel
theorem dL_does_28 : decode cL_does 28 = .ok (.invokevirtual 8, 3) := by decide +kernel
theorem dL_does_31 : decode cL_does 31 = .ok (.istore 6, 2) := by decide +kernel
theorem dL_does_33 : decode cL_does 33 = .ok (.aload_n 0, 1) := by decide +kernel
theorem dL_does_34 : decode cL_does 34 = .ok (.iload_n 3, 1) := by decide +kernel
theorem dL_does_35 : decode cL_does 35 = .ok (.iconst 0, 1) := by decide +kernel
theorem dL_does_36 : decode cL_does 36 = .ok (.invokevirtual 8, 3) := by decide +kernel
theorem dL_does_39 : decode cL_does 39 = .ok (.istore 7, 2) := by decide +kernel
theorem dL_does_41 : decode cL_does 41 = .ok (.iload_n 1, 1) := by decide +kernel
theorem dL_does_42 : decode cL_does 42 = .ok (.bipush 18, 2) := by decide +kernel
theorem dL_does_44 : decode cL_does 44 = .ok (.invokestatic 75, 3) := by decide +kernel
theorem dL_does_47 : decode cL_does 47 = .ok (.tableswitch 640 0 15 #[77, 77, 77, 77, 77, 77, 77, 77, 176, 304, 354, 404, 487, 531, 531, 622], 77) := by decide +kernel
theorem dL_does_124 : decode cL_does 124 = .ok (.aload_n 0, 1) := by decide +kernel
theorem dL_does_125 : decode cL_does 125 = .ok (.iload_n 3, 1) := by decide +kernel
theorem dL_does_126 : decode cL_does 126 = .ok (.iload 4, 2) := by decide +kernel
theorem dL_does_128 : decode cL_does 128 = .ok (.invokevirtual 37, 3) := by decide +kernel
theorem dL_does_131 : decode cL_does 131 = .ok (.ifCond .le 26, 3) := by decide +kernel
theorem dL_does_134 : decode cL_does 134 = .ok (.iload 5, 2) := by decide +kernel
theorem dL_does_136 : decode cL_does 136 = .ok (.bipush 60, 2) := by decide +kernel
theorem dL_does_138 : decode cL_does 138 = .ok (.if_icmp .eq 13, 3) := by decide +kernel
theorem dL_does_141 : decode cL_does 141 = .ok (.aload_n 0, 1) := by decide +kernel
theorem dL_does_142 : decode cL_does 142 = .ok (.iload_n 3, 1) := by decide +kernel
theorem dL_does_143 : decode cL_does 143 = .ok (.bipush 7, 2) := by decide +kernel
theorem dL_does_145 : decode cL_does 145 = .ok (.invokevirtual 8, 3) := by decide +kernel
theorem dL_does_148 : decode cL_does 148 = .ok (.ifCond .le 7, 3) := by decide +kernel
theorem dL_does_151 : decode cL_does 151 = .ok (.iconst 1, 1) := by decide +kernel
theorem dL_does_152 : decode cL_does 152 = .ok (.goto 4, 3) := by decide +kernel
theorem dL_does_155 : decode cL_does 155 = .ok (.iconst 0, 1) := by decide +kernel
theorem dL_does_156 : decode cL_does 156 = .ok (.ireturn, 1) := by decide +kernel
theorem dL_does_157 : decode cL_does 157 = .ok (.aload_n 0, 1) := by decide +kernel
theorem dL_does_158 : decode cL_does 158 = .ok (.iload_n 3, 1) := by decide +kernel
theorem dL_does_159 : decode cL_does 159 = .ok (.iload 4, 2) := by decide +kernel
theorem dL_does_161 : decode cL_does 161 = .ok (.invokevirtual 34, 3) := by decide +kernel
theorem dL_does_164 : decode cL_does 164 = .ok (.istore 8, 2) := by decide +kernel
theorem dL_does_166 : decode cL_does 166 = .ok (.aload_n 0, 1) := by decide +kernel
theorem dL_does_167 : decode cL_does 167 = .ok (.iload_n 3, 1) := by decide +kernel
theorem dL_does_168 : decode cL_does 168 = .ok (.iload 4, 2) := by decide +kernel
theorem dL_does_170 : decode cL_does 170 = .ok (.invokevirtual 78, 3) := by decide +kernel
theorem dL_does_173 : decode cL_does 173 = .ok (.iload 8, 2) := by decide +kernel
theorem dL_does_175 : decode cL_does 175 = .ok (.if_icmp .ne 46, 3) := by decide +kernel
theorem dL_does_178 : decode cL_does 178 = .ok (.aload_n 0, 1) := by decide +kernel
theorem dL_does_179 : decode cL_does 179 = .ok (.iload_n 3, 1) := by decide +kernel
theorem dL_does_180 : decode cL_does 180 = .ok (.iconst 2, 1) := by decide +kernel
theorem dL_does_181 : decode cL_does 181 = .ok (.invokevirtual 8, 3) := by decide +kernel
theorem dL_does_184 : decode cL_does 184 = .ok (.iload 5, 2) := by decide +kernel
theorem dL_does_186 : decode cL_does 186 = .ok (.iconst 1, 1) := by decide +kernel
theorem dL_does_187 : decode cL_does 187 = .ok (.iadd, 1) := by decide +kernel
theorem dL_does_188 : decode cL_does 188 = .ok (.if_icmp .ne 33, 3) := by decide +kernel
theorem dL_does_191 : decode cL_does 191 = .ok (.aload_n 0, 1) := by decide +kernel
theorem dL_does_192 : decode cL_does 192 = .ok (.iload_n 3, 1) := by decide +kernel
theorem dL_does_193 : decode cL_does 193 = .ok (.iload 5, 2) := by decide +kernel
theorem dL_does_195 : decode cL_does 195 = .ok (.invokevirtual 14, 3) := by decide +kernel
theorem dL_does_198 : decode cL_does 198 = .ok (.iload 4, 2) := by decide +kernel
theorem dL_does_200 : decode cL_does 200 = .ok (.if_icmp .ne 21, 3) := by decide +kernel
theorem dL_does_203 : decode cL_does 203 = .ok (.aload_n 0, 1) := by decide +kernel
theorem dL_does_204 : decode cL_does 204 = .ok (.iload_n 3, 1) := by decide +kernel
theorem dL_does_205 : decode cL_does 205 = .ok (.bipush 10, 2) := by decide +kernel
theorem dL_does_207 : decode cL_does 207 = .ok (.invokevirtual 8, 3) := by decide +kernel
theorem dL_does_210 : decode cL_does 210 = .ok (.iload 6, 2) := by decide +kernel
theorem dL_does_212 : decode cL_does 212 = .ok (.iconst 1, 1) := by decide +kernel
theorem dL_does_213 : decode cL_does 213 = .ok (.iadd, 1) := by decide +kernel
theorem dL_does_214 : decode cL_does 214 = .ok (.if_icmp .ne 7, 3) := by decide +kernel
theorem dL_does_217 : decode cL_does 217 = .ok (.iconst 1, 1) := by decide +kernel
theorem dL_does_218 : decode cL_does 218 = .ok (.goto 4, 3) := by decide +kernel
theorem dL_does_221 : decode cL_does 221 = .ok (.iconst 0, 1) := by decide +kernel
theorem dL_does_222 : decode cL_does 222 = .ok (.ireturn, 1) := by decide +kernel
theorem dL_does_223 : decode cL_does 223 = .ok (.iload 5, 2) := by decide +kernel
theorem dL_does_225 : decode cL_does 225 = .ok (.ifCond .ne 8, 3) := by decide +kernel
theorem dL_does_228 : decode cL_does 228 = .ok (.bipush (-10), 2) := by decide +kernel
theorem dL_does_230 : decode cL_does 230 = .ok (.goto 12, 3) := by decide +kernel
theorem dL_does_233 : decode cL_does 233 = .ok (.aload_n 0, 1) := by decide +kernel
theorem dL_does_234 : decode cL_does 234 = .ok (.iload_n 3, 1) := by decide +kernel
theorem dL_does_235 : decode cL_does 235 = .ok (.iload 5, 2) := by decide +kernel
theorem dL_does_237 : decode cL_does 237 = .ok (.iconst 1, 1) := by decide +kernel
theorem dL_does_238 : decode cL_does 238 = .ok (.isub, 1) := by decide +kernel
theorem dL_does_239 : decode cL_does 239 = .ok (.invokevirtual 14, 3) := by decide +kernel
theorem dL_does_242 : decode cL_does 242 = .ok (.istore 9, 2) := by decide +kernel
theorem dL_does_244 : decode cL_does 244 = .ok (.aload_n 0, 1) := by decide +kernel
theorem dL_does_245 : decode cL_does 245 = .ok (.iload_n 3, 1) := by decide +kernel
theorem dL_does_246 : decode cL_does 246 = .ok (.bipush 7, 2) := by decide +kernel
theorem dL_does_248 : decode cL_does 248 = .ok (.invokevirtual 8, 3) := by decide +kernel
theorem dL_does_251 : decode cL_does 251 = .ok (.istore 10, 2) := by decide +kernel
theorem dL_does_253 : decode cL_does 253 = .ok (.iload 9, 2) := by decide +kernel
theorem dL_does_255 : decode cL_does 255 = .ok (.ifCond .ne 19, 3) := by decide +kernel
theorem dL_does_258 : decode cL_does 258 = .ok (.iload 10, 2) := by decide +kernel
theorem dL_does_260 : decode cL_does 260 = .ok (.iconst 1, 1) := by decide +kernel
theorem dL_does_261 : decode cL_does 261 = .ok (.iand, 1) := by decide +kernel
theorem dL_does_262 : decode cL_does 262 = .ok (.iconst 1, 1) := by decide +kernel
theorem dL_does_263 : decode cL_does 263 = .ok (.if_icmp .ne 7, 3) := by decide +kernel
theorem dL_does_266 : decode cL_does 266 = .ok (.iconst 1, 1) := by decide +kernel
theorem dL_does_267 : decode cL_does 267 = .ok (.goto 29, 3) := by decide +kernel
theorem dL_does_270 : decode cL_does 270 = .ok (.iconst 0, 1) := by decide +kernel
theorem dL_does_271 : decode cL_does 271 = .ok (.goto 25, 3) := by decide +kernel
theorem dL_does_274 : decode cL_does 274 = .ok (.iload 9, 2) := by decide +kernel
theorem dL_does_276 : decode cL_does 276 = .ok (.ifCond .le 19, 3) := by decide +kernel
theorem dL_does_279 : decode cL_does 279 = .ok (.iload 10, 2) := by decide +kernel
theorem dL_does_281 : decode cL_does 281 = .ok (.iload 9, 2) := by decide +kernel
theorem dL_does_283 : decode cL_does 283 = .ok (.iconst 1, 1) := by decide +kernel
theorem dL_does_284 : decode cL_does 284 = .ok (.isub, 1) := by decide +kernel
theorem dL_does_285 : decode cL_does 285 = .ok (.ishr, 1) := by decide +kernel
theorem dL_does_286 : decode cL_does 286 = .ok (.iconst 3, 1) := by decide +kernel
theorem dL_does_287 : decode cL_does 287 = .ok (.iand, 1) := by decide +kernel
theorem dL_does_288 : decode cL_does 288 = .ok (.ifCond .eq 7, 3) := by decide +kernel
theorem dL_does_291 : decode cL_does 291 = .ok (.iconst 1, 1) := by decide +kernel
theorem dL_does_292 : decode cL_does 292 = .ok (.goto 4, 3) := by decide +kernel
theorem dL_does_295 : decode cL_does 295 = .ok (.iconst 0, 1) := by decide +kernel
theorem dL_does_296 : decode cL_does 296 = .ok (.istore 11, 2) := by decide +kernel
theorem dL_does_298 : decode cL_does 298 = .ok (.iload 9, 2) := by decide +kernel
theorem dL_does_300 : decode cL_does 300 = .ok (.ifCond .lt 45, 3) := by decide +kernel
theorem dL_does_303 : decode cL_does 303 = .ok (.iload 11, 2) := by decide +kernel
theorem dL_does_305 : decode cL_does 305 = .ok (.ifCond .ne 40, 3) := by decide +kernel
theorem dL_does_308 : decode cL_does 308 = .ok (.aload_n 0, 1) := by decide +kernel
theorem dL_does_309 : decode cL_does 309 = .ok (.iload_n 3, 1) := by decide +kernel
theorem dL_does_310 : decode cL_does 310 = .ok (.invokevirtual 81, 3) := by decide +kernel
theorem dL_does_313 : decode cL_does 313 = .ok (.iload 9, 2) := by decide +kernel
theorem dL_does_315 : decode cL_does 315 = .ok (.if_icmp .ne 34, 3) := by decide +kernel
theorem dL_does_318 : decode cL_does 318 = .ok (.aload_n 0, 1) := by decide +kernel
theorem dL_does_319 : decode cL_does 319 = .ok (.iload_n 3, 1) := by decide +kernel
theorem dL_does_320 : decode cL_does 320 = .ok (.iconst 2, 1) := by decide +kernel
theorem dL_does_321 : decode cL_does 321 = .ok (.invokevirtual 8, 3) := by decide +kernel
theorem dL_does_324 : decode cL_does 324 = .ok (.iload 5, 2) := by decide +kernel
theorem dL_does_326 : decode cL_does 326 = .ok (.iconst 1, 1) := by decide +kernel
theorem dL_does_327 : decode cL_does 327 = .ok (.isub, 1) := by decide +kernel
theorem dL_does_328 : decode cL_does 328 = .ok (.if_icmp .ne 21, 3) := by decide +kernel
theorem dL_does_331 : decode cL_does 331 = .ok (.aload_n 0, 1) := by decide +kernel
theorem dL_does_332 : decode cL_does 332 = .ok (.iload_n 3, 1) := by decide +kernel
theorem dL_does_333 : decode cL_does 333 = .ok (.bipush 10, 2) := by decide +kernel
theorem dL_does_335 : decode cL_does 335 = .ok (.invokevirtual 8, 3) := by decide +kernel
theorem dL_does_338 : decode cL_does 338 = .ok (.iload 6, 2) := by decide +kernel
theorem dL_does_340 : decode cL_does 340 = .ok (.iconst 1, 1) := by decide +kernel
theorem dL_does_341 : decode cL_does 341 = .ok (.iadd, 1) := by decide +kernel
theorem dL_does_342 : decode cL_does 342 = .ok (.if_icmp .ne 7, 3) := by decide +kernel
theorem dL_does_345 : decode cL_does 345 = .ok (.iconst 1, 1) := by decide +kernel
theorem dL_does_346 : decode cL_does 346 = .ok (.goto 4, 3) := by decide +kernel
theorem dL_does_349 : decode cL_does 349 = .ok (.iconst 0, 1) := by decide +kernel
theorem dL_does_350 : decode cL_does 350 = .ok (.ireturn, 1) := by decide +kernel
theorem dL_does_351 : decode cL_does 351 = .ok (.aload_n 0, 1) := by decide +kernel
theorem dL_does_352 : decode cL_does 352 = .ok (.iload_n 3, 1) := by decide +kernel
theorem dL_does_353 : decode cL_does 353 = .ok (.invokevirtual 84, 3) := by decide +kernel
theorem dL_does_356 : decode cL_does 356 = .ok (.iload 5, 2) := by decide +kernel
theorem dL_does_358 : decode cL_does 358 = .ok (.iload 7, 2) := by decide +kernel
theorem dL_does_360 : decode cL_does 360 = .ok (.isub, 1) := by decide +kernel
theorem dL_does_361 : decode cL_does 361 = .ok (.if_icmp .ne 38, 3) := by decide +kernel
theorem dL_does_364 : decode cL_does 364 = .ok (.aload_n 0, 1) := by decide +kernel
theorem dL_does_365 : decode cL_does 365 = .ok (.iload_n 3, 1) := by decide +kernel
theorem dL_does_366 : decode cL_does 366 = .ok (.iconst 2, 1) := by decide +kernel
theorem dL_does_367 : decode cL_does 367 = .ok (.invokevirtual 8, 3) := by decide +kernel
theorem dL_does_370 : decode cL_does 370 = .ok (.iload 7, 2) := by decide +kernel
theorem dL_does_372 : decode cL_does 372 = .ok (.if_icmp .ne 27, 3) := by decide +kernel
theorem dL_does_375 : decode cL_does 375 = .ok (.aload_n 0, 1) := by decide +kernel
theorem dL_does_376 : decode cL_does 376 = .ok (.iload_n 3, 1) := by decide +kernel
theorem dL_does_377 : decode cL_does 377 = .ok (.bipush 10, 2) := by decide +kernel
theorem dL_does_379 : decode cL_does 379 = .ok (.invokevirtual 8, 3) := by decide +kernel
theorem dL_does_382 : decode cL_does 382 = .ok (.iload 6, 2) := by decide +kernel
theorem dL_does_384 : decode cL_does 384 = .ok (.if_icmp .ne 15, 3) := by decide +kernel
theorem dL_does_387 : decode cL_does 387 = .ok (.aload_n 0, 1) := by decide +kernel
theorem dL_does_388 : decode cL_does 388 = .ok (.iload_n 3, 1) := by decide +kernel
theorem dL_does_389 : decode cL_does 389 = .ok (.invokevirtual 84, 3) := by decide +kernel
theorem dL_does_392 : decode cL_does 392 = .ok (.ifCond .ne 7, 3) := by decide +kernel
theorem dL_does_395 : decode cL_does 395 = .ok (.iconst 1, 1) := by decide +kernel
theorem dL_does_396 : decode cL_does 396 = .ok (.goto 4, 3) := by decide +kernel
theorem dL_does_399 : decode cL_does 399 = .ok (.iconst 0, 1) := by decide +kernel
theorem dL_does_400 : decode cL_does 400 = .ok (.ireturn, 1) := by decide +kernel
theorem dL_does_401 : decode cL_does 401 = .ok (.iload_n 2, 1) := by decide +kernel
theorem dL_does_402 : decode cL_does 402 = .ok (.iconst 3, 1) := by decide +kernel
theorem dL_does_403 : decode cL_does 403 = .ok (.iand, 1) := by decide +kernel
theorem dL_does_404 : decode cL_does 404 = .ok (.ifCond .ne 41, 3) := by decide +kernel
theorem dL_does_407 : decode cL_does 407 = .ok (.aload_n 0, 1) := by decide +kernel
theorem dL_does_408 : decode cL_does 408 = .ok (.iload_n 3, 1) := by decide +kernel
theorem dL_does_409 : decode cL_does 409 = .ok (.invokevirtual 87, 3) := by decide +kernel
theorem dL_does_412 : decode cL_does 412 = .ok (.iload 7, 2) := by decide +kernel
theorem dL_does_414 : decode cL_does 414 = .ok (.if_icmp .ne 35, 3) := by decide +kernel
theorem dL_does_417 : decode cL_does 417 = .ok (.aload_n 0, 1) := by decide +kernel
theorem dL_does_418 : decode cL_does 418 = .ok (.iload_n 3, 1) := by decide +kernel
theorem dL_does_419 : decode cL_does 419 = .ok (.iconst 0, 1) := by decide +kernel
theorem dL_does_420 : decode cL_does 420 = .ok (.invokevirtual 8, 3) := by decide +kernel
theorem dL_does_423 : decode cL_does 423 = .ok (.ifCond .ne 26, 3) := by decide +kernel
theorem dL_does_426 : decode cL_does 426 = .ok (.aload_n 0, 1) := by decide +kernel
theorem dL_does_427 : decode cL_does 427 = .ok (.iload_n 3, 1) := by decide +kernel
theorem dL_does_428 : decode cL_does 428 = .ok (.iconst 2, 1) := by decide +kernel
theorem dL_does_429 : decode cL_does 429 = .ok (.invokevirtual 8, 3) := by decide +kernel
theorem dL_does_432 : decode cL_does 432 = .ok (.ifCond .ne 17, 3) := by decide +kernel
theorem dL_does_435 : decode cL_does 435 = .ok (.aload_n 0, 1) := by decide +kernel
theorem dL_does_436 : decode cL_does 436 = .ok (.iload_n 3, 1) := by decide +kernel
theorem dL_does_437 : decode cL_does 437 = .ok (.bipush 7, 2) := by decide +kernel
theorem dL_does_439 : decode cL_does 439 = .ok (.invokevirtual 8, 3) := by decide +kernel
theorem dL_does_442 : decode cL_does 442 = .ok (.ifCond .ne 7, 3) := by decide +kernel
theorem dL_does_445 : decode cL_does 445 = .ok (.iconst 1, 1) := by decide +kernel
theorem dL_does_446 : decode cL_does 446 = .ok (.goto 4, 3) := by decide +kernel
theorem dL_does_449 : decode cL_does 449 = .ok (.iconst 0, 1) := by decide +kernel
theorem dL_does_450 : decode cL_does 450 = .ok (.ireturn, 1) := by decide +kernel
theorem dL_does_451 : decode cL_does 451 = .ok (.iload_n 2, 1) := by decide +kernel
theorem dL_does_452 : decode cL_does 452 = .ok (.iconst 5, 1) := by decide +kernel
theorem dL_does_453 : decode cL_does 453 = .ok (.invokestatic 75, 3) := by decide +kernel
theorem dL_does_456 : decode cL_does 456 = .ok (.istore 12, 2) := by decide +kernel
theorem dL_does_458 : decode cL_does 458 = .ok (.iload_n 2, 1) := by decide +kernel
theorem dL_does_459 : decode cL_does 459 = .ok (.iconst 3, 1) := by decide +kernel
theorem dL_does_460 : decode cL_does 460 = .ok (.ishr, 1) := by decide +kernel
theorem dL_does_461 : decode cL_does 461 = .ok (.iconst 5, 1) := by decide +kernel
theorem dL_does_462 : decode cL_does 462 = .ok (.invokestatic 75, 3) := by decide +kernel
theorem dL_does_465 : decode cL_does 465 = .ok (.istore 13, 2) := by decide +kernel
theorem dL_does_467 : decode cL_does 467 = .ok (.aload_n 0, 1) := by decide +kernel
theorem dL_does_468 : decode cL_does 468 = .ok (.iload 12, 2) := by decide +kernel
theorem dL_does_470 : decode cL_does 470 = .ok (.iconst 0, 1) := by decide +kernel
theorem dL_does_471 : decode cL_does 471 = .ok (.invokevirtual 8, 3) := by decide +kernel
theorem dL_does_474 : decode cL_does 474 = .ok (.aload_n 0, 1) := by decide +kernel
theorem dL_does_475 : decode cL_does 475 = .ok (.iload 13, 2) := by decide +kernel
theorem dL_does_477 : decode cL_does 477 = .ok (.iconst 0, 1) := by decide +kernel
theorem dL_does_478 : decode cL_does 478 = .ok (.invokevirtual 8, 3) := by decide +kernel
theorem dL_does_481 : decode cL_does 481 = .ok (.iadd, 1) := by decide +kernel
theorem dL_does_482 : decode cL_does 482 = .ok (.iconst 2, 1) := by decide +kernel
theorem dL_does_483 : decode cL_does 483 = .ok (.irem, 1) := by decide +kernel
theorem dL_does_484 : decode cL_does 484 = .ok (.istore 14, 2) := by decide +kernel
theorem dL_does_486 : decode cL_does 486 = .ok (.aload_n 0, 1) := by decide +kernel
theorem dL_does_487 : decode cL_does 487 = .ok (.iload_n 3, 1) := by decide +kernel
theorem dL_does_488 : decode cL_does 488 = .ok (.iload 12, 2) := by decide +kernel
theorem dL_does_490 : decode cL_does 490 = .ok (.iload 13, 2) := by decide +kernel
theorem dL_does_492 : decode cL_does 492 = .ok (.invokevirtual 68, 3) := by decide +kernel
theorem dL_does_495 : decode cL_does 495 = .ok (.istore 15, 2) := by decide +kernel
theorem dL_does_497 : decode cL_does 497 = .ok (.iload 15, 2) := by decide +kernel
theorem dL_does_499 : decode cL_does 499 = .ok (.aload_n 0, 1) := by decide +kernel
theorem dL_does_500 : decode cL_does 500 = .ok (.iload_n 3, 1) := by decide +kernel
theorem dL_does_501 : decode cL_does 501 = .ok (.iconst 0, 1) := by decide +kernel
theorem dL_does_502 : decode cL_does 502 = .ok (.invokevirtual 8, 3) := by decide +kernel
theorem dL_does_505 : decode cL_does 505 = .ok (.if_icmp .ne 27, 3) := by decide +kernel
theorem dL_does_508 : decode cL_does 508 = .ok (.iload 15, 2) := by decide +kernel
theorem dL_does_510 : decode cL_does 510 = .ok (.iconst 2, 1) := by decide +kernel
theorem dL_does_511 : decode cL_does 511 = .ok (.irem, 1) := by decide +kernel
theorem dL_does_512 : decode cL_does 512 = .ok (.iload 14, 2) := by decide +kernel
theorem dL_does_514 : decode cL_does 514 = .ok (.if_icmp .ne 18, 3) := by decide +kernel
theorem dL_does_517 : decode cL_does 517 = .ok (.aload_n 0, 1) := by decide +kernel
theorem dL_does_518 : decode cL_does 518 = .ok (.iload_n 3, 1) := by decide +kernel
theorem dL_does_519 : decode cL_does 519 = .ok (.iconst 2, 1) := by decide +kernel
theorem dL_does_520 : decode cL_does 520 = .ok (.invokevirtual 8, 3) := by decide +kernel
theorem dL_does_523 : decode cL_does 523 = .ok (.iload 15, 2) := by decide +kernel
theorem dL_does_525 : decode cL_does 525 = .ok (.if_icmp .ne 7, 3) := by decide +kernel
theorem dL_does_528 : decode cL_does 528 = .ok (.iconst 1, 1) := by decide +kernel
theorem dL_does_529 : decode cL_does 529 = .ok (.goto 4, 3) := by decide +kernel
theorem dL_does_532 : decode cL_does 532 = .ok (.iconst 0, 1) := by decide +kernel
theorem dL_does_533 : decode cL_does 533 = .ok (.ireturn, 1) := by decide +kernel
theorem dL_does_534 : decode cL_does 534 = .ok (.iload_n 2, 1) := by decide +kernel
theorem dL_does_535 : decode cL_does 535 = .ok (.iconst 5, 1) := by decide +kernel
theorem dL_does_536 : decode cL_does 536 = .ok (.invokestatic 75, 3) := by decide +kernel
theorem dL_does_539 : decode cL_does 539 = .ok (.istore 16, 2) := by decide +kernel
theorem dL_does_541 : decode cL_does 541 = .ok (.aload_n 0, 1) := by decide +kernel
theorem dL_does_542 : decode cL_does 542 = .ok (.iload 16, 2) := by decide +kernel
theorem dL_does_544 : decode cL_does 544 = .ok (.iconst 0, 1) := by decide +kernel
theorem dL_does_545 : decode cL_does 545 = .ok (.invokevirtual 8, 3) := by decide +kernel
theorem dL_does_548 : decode cL_does 548 = .ok (.istore 17, 2) := by decide +kernel
theorem dL_does_550 : decode cL_does 550 = .ok (.aload_n 0, 1) := by decide +kernel
theorem dL_does_551 : decode cL_does 551 = .ok (.iload_n 3, 1) := by decide +kernel
theorem dL_does_552 : decode cL_does 552 = .ok (.iload 16, 2) := by decide +kernel
theorem dL_does_554 : decode cL_does 554 = .ok (.invokevirtual 72, 3) := by decide +kernel
theorem dL_does_557 : decode cL_does 557 = .ok (.iload 17, 2) := by decide +kernel
theorem dL_does_559 : decode cL_does 559 = .ok (.if_icmp .ne 17, 3) := by decide +kernel
theorem dL_does_562 : decode cL_does 562 = .ok (.aload_n 0, 1) := by decide +kernel
theorem dL_does_563 : decode cL_does 563 = .ok (.iload_n 3, 1) := by decide +kernel
theorem dL_does_564 : decode cL_does 564 = .ok (.bipush 7, 2) := by decide +kernel
theorem dL_does_566 : decode cL_does 566 = .ok (.invokevirtual 8, 3) := by decide +kernel
theorem dL_does_569 : decode cL_does 569 = .ok (.ifCond .ne 7, 3) := by decide +kernel
theorem dL_does_572 : decode cL_does 572 = .ok (.iconst 1, 1) := by decide +kernel
theorem dL_does_573 : decode cL_does 573 = .ok (.goto 4, 3) := by decide +kernel
theorem dL_does_576 : decode cL_does 576 = .ok (.iconst 0, 1) := by decide +kernel
theorem dL_does_577 : decode cL_does 577 = .ok (.ireturn, 1) := by decide +kernel
theorem dL_does_578 : decode cL_does 578 = .ok (.iload_n 2, 1) := by decide +kernel
theorem dL_does_579 : decode cL_does 579 = .ok (.iconst 3, 1) := by decide +kernel
theorem dL_does_580 : decode cL_does 580 = .ok (.iand, 1) := by decide +kernel
theorem dL_does_581 : decode cL_does 581 = .ok (.istore 18, 2) := by decide +kernel
theorem dL_does_583 : decode cL_does 583 = .ok (.aload_n 0, 1) := by decide +kernel
theorem dL_does_584 : decode cL_does 584 = .ok (.iload_n 3, 1) := by decide +kernel
theorem dL_does_585 : decode cL_does 585 = .ok (.bipush 7, 2) := by decide +kernel
theorem dL_does_587 : decode cL_does 587 = .ok (.invokevirtual 8, 3) := by decide +kernel
theorem dL_does_590 : decode cL_does 590 = .ok (.iload 18, 2) := by decide +kernel
theorem dL_does_592 : decode cL_does 592 = .ok (.ishr, 1) := by decide +kernel
theorem dL_does_593 : decode cL_does 593 = .ok (.iconst 1, 1) := by decide +kernel
theorem dL_does_594 : decode cL_does 594 = .ok (.iand, 1) := by decide +kernel
theorem dL_does_595 : decode cL_does 595 = .ok (.iconst 1, 1) := by decide +kernel
theorem dL_does_596 : decode cL_does 596 = .ok (.if_icmp .ne 7, 3) := by decide +kernel
theorem dL_does_599 : decode cL_does 599 = .ok (.iconst 1, 1) := by decide +kernel
theorem dL_does_600 : decode cL_does 600 = .ok (.goto 4, 3) := by decide +kernel
theorem dL_does_603 : decode cL_does 603 = .ok (.iconst 0, 1) := by decide +kernel
theorem dL_does_604 : decode cL_does 604 = .ok (.istore 19, 2) := by decide +kernel
theorem dL_does_606 : decode cL_does 606 = .ok (.aload_n 0, 1) := by decide +kernel
theorem dL_does_607 : decode cL_does 607 = .ok (.iload_n 3, 1) := by decide +kernel
theorem dL_does_608 : decode cL_does 608 = .ok (.bipush 7, 2) := by decide +kernel
theorem dL_does_610 : decode cL_does 610 = .ok (.invokevirtual 8, 3) := by decide +kernel
theorem dL_does_613 : decode cL_does 613 = .ok (.invokestatic 50, 3) := by decide +kernel
theorem dL_does_616 : decode cL_does 616 = .ok (.istore 20, 2) := by decide +kernel
theorem dL_does_618 : decode cL_does 618 = .ok (.iload 19, 2) := by decide +kernel
theorem dL_does_620 : decode cL_does 620 = .ok (.ifCond .ne 17, 3) := by decide +kernel
theorem dL_does_623 : decode cL_does 623 = .ok (.aload_n 0, 1) := by decide +kernel
theorem dL_does_624 : decode cL_does 624 = .ok (.iload_n 3, 1) := by decide +kernel
theorem dL_does_625 : decode cL_does 625 = .ok (.iload 18, 2) := by decide +kernel
theorem dL_does_627 : decode cL_does 627 = .ok (.invokevirtual 23, 3) := by decide +kernel
theorem dL_does_630 : decode cL_does 630 = .ok (.iload 18, 2) := by decide +kernel
theorem dL_does_632 : decode cL_does 632 = .ok (.iconst 1, 1) := by decide +kernel
theorem dL_does_633 : decode cL_does 633 = .ok (.iadd, 1) := by decide +kernel
theorem dL_does_634 : decode cL_does 634 = .ok (.if_icmp .ne 29, 3) := by decide +kernel
theorem dL_does_637 : decode cL_does 637 = .ok (.aload_n 0, 1) := by decide +kernel
theorem dL_does_638 : decode cL_does 638 = .ok (.iload_n 3, 1) := by decide +kernel
theorem dL_does_639 : decode cL_does 639 = .ok (.iload 18, 2) := by decide +kernel
theorem dL_does_641 : decode cL_does 641 = .ok (.invokevirtual 90, 3) := by decide +kernel
theorem dL_does_644 : decode cL_does 644 = .ok (.iload 19, 2) := by decide +kernel
theorem dL_does_646 : decode cL_does 646 = .ok (.ifCond .eq 10, 3) := by decide +kernel
theorem dL_does_649 : decode cL_does 649 = .ok (.iload 20, 2) := by decide +kernel
theorem dL_does_651 : decode cL_does 651 = .ok (.iconst 1, 1) := by decide +kernel
theorem dL_does_652 : decode cL_does 652 = .ok (.isub, 1) := by decide +kernel
theorem dL_does_653 : decode cL_does 653 = .ok (.goto 7, 3) := by decide +kernel
theorem dL_does_656 : decode cL_does 656 = .ok (.iload 20, 2) := by decide +kernel
theorem dL_does_658 : decode cL_does 658 = .ok (.iconst 1, 1) := by decide +kernel
theorem dL_does_659 : decode cL_does 659 = .ok (.iadd, 1) := by decide +kernel
theorem dL_does_660 : decode cL_does 660 = .ok (.if_icmp .ne 7, 3) := by decide +kernel
theorem dL_does_663 : decode cL_does 663 = .ok (.iconst 1, 1) := by decide +kernel
theorem dL_does_664 : decode cL_does 664 = .ok (.goto 4, 3) := by decide +kernel
theorem dL_does_667 : decode cL_does 667 = .ok (.iconst 0, 1) := by decide +kernel
theorem dL_does_668 : decode cL_does 668 = .ok (.ireturn, 1) := by decide +kernel
theorem dL_does_669 : decode cL_does 669 = .ok (.aload_n 0, 1) := by decide +kernel
theorem dL_does_670 : decode cL_does 670 = .ok (.iload_n 2, 1) := by decide +kernel
theorem dL_does_671 : decode cL_does 671 = .ok (.iconst 5, 1) := by decide +kernel
theorem dL_does_672 : decode cL_does 672 = .ok (.invokestatic 75, 3) := by decide +kernel
theorem dL_does_675 : decode cL_does 675 = .ok (.iload_n 2, 1) := by decide +kernel
theorem dL_does_676 : decode cL_does 676 = .ok (.iconst 3, 1) := by decide +kernel
theorem dL_does_677 : decode cL_does 677 = .ok (.ishr, 1) := by decide +kernel
theorem dL_does_678 : decode cL_does 678 = .ok (.iconst 5, 1) := by decide +kernel
theorem dL_does_679 : decode cL_does 679 = .ok (.invokestatic 75, 3) := by decide +kernel
theorem dL_does_682 : decode cL_does 682 = .ok (.iload_n 3, 1) := by decide +kernel
theorem dL_does_683 : decode cL_does 683 = .ok (.invokestatic 93, 3) := by decide +kernel
theorem dL_does_686 : decode cL_does 686 = .ok (.ireturn, 1) := by decide +kernel
theorem dL_does_687 : decode cL_does 687 = .ok (.aload_n 0, 1) := by decide +kernel
theorem dL_does_688 : decode cL_does 688 = .ok (.iload_n 3, 1) := by decide +kernel
theorem dL_does_689 : decode cL_does 689 = .ok (.invokestatic 97, 3) := by decide +kernel
theorem dL_does_692 : decode cL_does 692 = .ok (.ireturn, 1) := by decide +kernel
theorem dL_law_0 : decode cL_law 0 = .ok (.new 9, 3) := by decide +kernel
theorem dL_law_3 : decode cL_law 3 = .ok (.dup, 1) := by decide +kernel
theorem dL_law_4 : decode cL_law 4 = .ok (.invokespecial 101, 3) := by decide +kernel
theorem dL_law_7 : decode cL_law 7 = .ok (.astore_n 1, 1) := by decide +kernel
theorem dL_law_8 : decode cL_law 8 = .ok (.iconst 4, 1) := by decide +kernel
theorem dL_law_9 : decode cL_law 9 = .ok (.newarray .int, 2) := by decide +kernel
theorem dL_law_11 : decode cL_law 11 = .ok (.astore_n 2, 1) := by decide +kernel
theorem dL_law_12 : decode cL_law 12 = .ok (.iconst 0, 1) := by decide +kernel
theorem dL_law_13 : decode cL_law 13 = .ok (.istore_n 3, 1) := by decide +kernel
theorem dL_law_14 : decode cL_law 14 = .ok (.iconst 0, 1) := by decide +kernel
theorem dL_law_15 : decode cL_law 15 = .ok (.istore 4, 2) := by decide +kernel
theorem dL_law_17 : decode cL_law 17 = .ok (.iload 4, 2) := by decide +kernel
theorem dL_law_19 : decode cL_law 19 = .ok (.bipush 20, 2) := by decide +kernel
theorem dL_law_21 : decode cL_law 21 = .ok (.if_icmp .gt 71, 3) := by decide +kernel
theorem dL_law_24 : decode cL_law 24 = .ok (.aload_n 1, 1) := by decide +kernel
theorem dL_law_25 : decode cL_law 25 = .ok (.iload 4, 2) := by decide +kernel
theorem dL_law_27 : decode cL_law 27 = .ok (.iconst 0, 1) := by decide +kernel
theorem dL_law_28 : decode cL_law 28 = .ok (.invokevirtual 102, 3) := by decide +kernel
theorem dL_law_31 : decode cL_law 31 = .ok (.istore 5, 2) := by decide +kernel
theorem dL_law_33 : decode cL_law 33 = .ok (.iload_n 3, 1) := by decide +kernel
theorem dL_law_34 : decode cL_law 34 = .ok (.iload 5, 2) := by decide +kernel
theorem dL_law_36 : decode cL_law 36 = .ok (.iadd, 1) := by decide +kernel
theorem dL_law_37 : decode cL_law 37 = .ok (.istore_n 3, 1) := by decide +kernel
theorem dL_law_38 : decode cL_law 38 = .ok (.iload 5, 2) := by decide +kernel
theorem dL_law_40 : decode cL_law 40 = .ok (.aload_n 1, 1) := by decide +kernel
theorem dL_law_41 : decode cL_law 41 = .ok (.iload 4, 2) := by decide +kernel
theorem dL_law_43 : decode cL_law 43 = .ok (.iconst 1, 1) := by decide +kernel
theorem dL_law_44 : decode cL_law 44 = .ok (.invokevirtual 102, 3) := by decide +kernel
theorem dL_law_47 : decode cL_law 47 = .ok (.if_icmp .ne 37, 3) := by decide +kernel
theorem dL_law_50 : decode cL_law 50 = .ok (.iload 4, 2) := by decide +kernel
theorem dL_law_52 : decode cL_law 52 = .ok (.bipush 16, 2) := by decide +kernel
theorem dL_law_54 : decode cL_law 54 = .ok (.if_icmp .le 8, 3) := by decide +kernel
theorem dL_law_57 : decode cL_law 57 = .ok (.iload 5, 2) := by decide +kernel
theorem dL_law_59 : decode cL_law 59 = .ok (.ifCond .ne 25, 3) := by decide +kernel
theorem dL_law_62 : decode cL_law 62 = .ok (.iload 4, 2) := by decide +kernel
theorem dL_law_64 : decode cL_law 64 = .ok (.bipush 16, 2) := by decide +kernel
theorem dL_law_66 : decode cL_law 66 = .ok (.if_icmp .gt 20, 3) := by decide +kernel
theorem dL_law_69 : decode cL_law 69 = .ok (.iload 5, 2) := by decide +kernel
theorem dL_law_71 : decode cL_law 71 = .ok (.aload_n 1, 1) := by decide +kernel
theorem dL_law_72 : decode cL_law 72 = .ok (.bipush 16, 2) := by decide +kernel
theorem dL_law_74 : decode cL_law 74 = .ok (.iload 4, 2) := by decide +kernel
theorem dL_law_76 : decode cL_law 76 = .ok (.isub, 1) := by decide +kernel
theorem dL_law_77 : decode cL_law 77 = .ok (.iconst 0, 1) := by decide +kernel
theorem dL_law_78 : decode cL_law 78 = .ok (.invokevirtual 102, 3) := by decide +kernel
theorem dL_law_81 : decode cL_law 81 = .ok (.if_icmp .eq 5, 3) := by decide +kernel
theorem dL_law_84 : decode cL_law 84 = .ok (.iconst 0, 1) := by decide +kernel
theorem dL_law_85 : decode cL_law 85 = .ok (.ireturn, 1) := by decide +kernel
theorem dL_law_86 : decode cL_law 86 = .ok (.iinc 4 1, 3) := by decide +kernel
theorem dL_law_89 : decode cL_law 89 = .ok (.goto (-72), 3) := by decide +kernel
theorem dL_law_92 : decode cL_law 92 = .ok (.iload_n 3, 1) := by decide +kernel
theorem dL_law_93 : decode cL_law 93 = .ok (.sipush 384, 3) := by decide +kernel
theorem dL_law_96 : decode cL_law 96 = .ok (.if_icmp .ne 19, 3) := by decide +kernel
theorem dL_law_99 : decode cL_law 99 = .ok (.aload_n 1, 1) := by decide +kernel
theorem dL_law_100 : decode cL_law 100 = .ok (.invokestatic 105, 3) := by decide +kernel
theorem dL_law_103 : decode cL_law 103 = .ok (.ifCond .eq 12, 3) := by decide +kernel
theorem dL_law_106 : decode cL_law 106 = .ok (.aload_n 1, 1) := by decide +kernel
theorem dL_law_107 : decode cL_law 107 = .ok (.bipush 6, 2) := by decide +kernel
theorem dL_law_109 : decode cL_law 109 = .ok (.invokevirtual 53, 3) := by decide +kernel
theorem dL_law_112 : decode cL_law 112 = .ok (.ifCond .eq 5, 3) := by decide +kernel
theorem dL_law_115 : decode cL_law 115 = .ok (.iconst 0, 1) := by decide +kernel
theorem dL_law_116 : decode cL_law 116 = .ok (.ireturn, 1) := by decide +kernel
theorem dL_law_117 : decode cL_law 117 = .ok (.iconst 0, 1) := by decide +kernel
theorem dL_law_118 : decode cL_law 118 = .ok (.istore 4, 2) := by decide +kernel
theorem dL_law_120 : decode cL_law 120 = .ok (.iload 4, 2) := by decide +kernel
theorem dL_law_122 : decode cL_law 122 = .ok (.bipush 90, 2) := by decide +kernel
theorem dL_law_124 : decode cL_law 124 = .ok (.if_icmp .ge 96, 3) := by decide +kernel
theorem dL_law_127 : decode cL_law 127 = .ok (.aload_n 0, 1) := by decide +kernel
theorem dL_law_128 : decode cL_law 128 = .ok (.iconst 2, 1) := by decide +kernel
theorem dL_law_129 : decode cL_law 129 = .ok (.iload 4, 2) := by decide +kernel
theorem dL_law_131 : decode cL_law 131 = .ok (.imul, 1) := by decide +kernel
theorem dL_law_132 : decode cL_law 132 = .ok (.invokestatic 109, 3) := by decide +kernel
theorem dL_law_135 : decode cL_law 135 = .ok (.istore 5, 2) := by decide +kernel
theorem dL_law_137 : decode cL_law 137 = .ok (.aload_n 1, 1) := by decide +kernel
theorem dL_law_138 : decode cL_law 138 = .ok (.iload 5, 2) := by decide +kernel
theorem dL_law_140 : decode cL_law 140 = .ok (.aload_n 0, 1) := by decide +kernel
theorem dL_law_141 : decode cL_law 141 = .ok (.iconst 2, 1) := by decide +kernel
theorem dL_law_142 : decode cL_law 142 = .ok (.iload 4, 2) := by decide +kernel
theorem dL_law_144 : decode cL_law 144 = .ok (.imul, 1) := by decide +kernel
theorem dL_law_145 : decode cL_law 145 = .ok (.iconst 1, 1) := by decide +kernel
theorem dL_law_146 : decode cL_law 146 = .ok (.iadd, 1) := by decide +kernel
theorem dL_law_147 : decode cL_law 147 = .ok (.invokestatic 109, 3) := by decide +kernel
theorem dL_law_150 : decode cL_law 150 = .ok (.invokestatic 113, 3) := by decide +kernel
theorem dL_law_153 : decode cL_law 153 = .ok (.ifCond .eq 59, 3) := by decide +kernel
theorem dL_law_156 : decode cL_law 156 = .ok (.aload_n 1, 1) := by decide +kernel
theorem dL_law_157 : decode cL_law 157 = .ok (.iload 5, 2) := by decide +kernel
theorem dL_law_159 : decode cL_law 159 = .ok (.iconst 5, 1) := by decide +kernel
theorem dL_law_160 : decode cL_law 160 = .ok (.ishr, 1) := by decide +kernel
theorem dL_law_161 : decode cL_law 161 = .ok (.iconst 5, 1) := by decide +kernel
theorem dL_law_162 : decode cL_law 162 = .ok (.invokestatic 75, 3) := by decide +kernel
theorem dL_law_165 : decode cL_law 165 = .ok (.aload_n 2, 1) := by decide +kernel
theorem dL_law_166 : decode cL_law 166 = .ok (.invokestatic 117, 3) := by decide +kernel
theorem dL_law_169 : decode cL_law 169 = .ok (.ifCond .eq 43, 3) := by decide +kernel
theorem dL_law_172 : decode cL_law 172 = .ok (.iload 4, 2) := by decide +kernel
theorem dL_law_174 : decode cL_law 174 = .ok (.iconst 4, 1) := by decide +kernel
theorem dL_law_175 : decode cL_law 175 = .ok (.irem, 1) := by decide +kernel
theorem dL_law_176 : decode cL_law 176 = .ok (.iconst 1, 1) := by decide +kernel
theorem dL_law_177 : decode cL_law 177 = .ok (.if_icmp .ne 10, 3) := by decide +kernel
theorem dL_law_180 : decode cL_law 180 = .ok (.aload_n 1, 1) := by decide +kernel
theorem dL_law_181 : decode cL_law 181 = .ok (.invokestatic 105, 3) := by decide +kernel
theorem dL_law_184 : decode cL_law 184 = .ok (.ifCond .eq 28, 3) := by decide +kernel
theorem dL_law_187 : decode cL_law 187 = .ok (.iload 4, 2) := by decide +kernel
theorem dL_law_189 : decode cL_law 189 = .ok (.iconst 5, 1) := by decide +kernel
theorem dL_law_190 : decode cL_law 190 = .ok (.irem, 1) := by decide +kernel
theorem dL_law_191 : decode cL_law 191 = .ok (.iconst 2, 1) := by decide +kernel
theorem dL_law_192 : decode cL_law 192 = .ok (.if_icmp .ne 22, 3) := by decide +kernel
theorem dL_law_195 : decode cL_law 195 = .ok (.aload_n 1, 1) := by decide +kernel
theorem dL_law_196 : decode cL_law 196 = .ok (.iload 5, 2) := by decide +kernel
theorem dL_law_198 : decode cL_law 198 = .ok (.bipush 9, 2) := by decide +kernel
theorem dL_law_200 : decode cL_law 200 = .ok (.ishr, 1) := by decide +kernel
theorem dL_law_201 : decode cL_law 201 = .ok (.iconst 5, 1) := by decide +kernel
theorem dL_law_202 : decode cL_law 202 = .ok (.invokestatic 75, 3) := by decide +kernel
theorem dL_law_205 : decode cL_law 205 = .ok (.aload_n 2, 1) := by decide +kernel
theorem dL_law_206 : decode cL_law 206 = .ok (.invokestatic 121, 3) := by decide +kernel
theorem dL_law_209 : decode cL_law 209 = .ok (.ifCond .ne 5, 3) := by decide +kernel
theorem dL_law_212 : decode cL_law 212 = .ok (.iconst 0, 1) := by decide +kernel
theorem dL_law_213 : decode cL_law 213 = .ok (.ireturn, 1) := by decide +kernel
theorem dL_law_214 : decode cL_law 214 = .ok (.iinc 4 1, 3) := by decide +kernel
theorem dL_law_217 : decode cL_law 217 = .ok (.goto (-97), 3) := by decide +kernel
theorem dL_law_220 : decode cL_law 220 = .ok (.iconst 1, 1) := by decide +kernel
theorem dL_law_221 : decode cL_law 221 = .ok (.ireturn, 1) := by decide +kernel
