theorem dX11_init_0 : decode cX11_init 0 = .ok (.aload_n 0, 1) := by decide +kernel
theorem dX11_init_1 : decode cX11_init 1 = .ok (.invokespecial 1, 3) := by decide +kernel
theorem dX11_init_4 : decode cX11_init 4 = .ok (.aload_n 0, 1) := by decide +kernel
theorem dX11_init_5 : decode cX11_init 5 = .ok (.sipush 335, 3) := by decide +kernel
theorem dX11_init_8 : decode cX11_init 8 = .ok (.newarray .int, 2) := by decide +kernel
theorem dX11_init_10 : decode cX11_init 10 = .ok (.putfield 7, 3) := by decide +kernel
theorem dX11_init_13 : decode cX11_init 13 = .ok (.aload_n 0, 1) := by decide +kernel
theorem dX11_init_14 : decode cX11_init 14 = .ok (.sipush 2010, 3) := by decide +kernel
theorem dX11_init_17 : decode cX11_init 17 = .ok (.newarray .int, 2) := by decide +kernel
theorem dX11_init_19 : decode cX11_init 19 = .ok (.putfield 13, 3) := by decide +kernel
theorem dX11_init_22 : decode cX11_init 22 = .ok (.aload_n 0, 1) := by decide +kernel
theorem dX11_init_23 : decode cX11_init 23 = .ok (.sipush 335, 3) := by decide +kernel
theorem dX11_init_26 : decode cX11_init 26 = .ok (.newarray .int, 2) := by decide +kernel
theorem dX11_init_28 : decode cX11_init 28 = .ok (.putfield 16, 3) := by decide +kernel
theorem dX11_init_31 : decode cX11_init 31 = .ok (.aload_n 0, 1) := by decide +kernel
theorem dX11_init_32 : decode cX11_init 32 = .ok (.bipush 60, 2) := by decide +kernel
theorem dX11_init_34 : decode cX11_init 34 = .ok (.newarray .int, 2) := by decide +kernel
theorem dX11_init_36 : decode cX11_init 36 = .ok (.putfield 19, 3) := by decide +kernel
theorem dX11_init_39 : decode cX11_init 39 = .ok (.aload_n 0, 1) := by decide +kernel
theorem dX11_init_40 : decode cX11_init 40 = .ok (.iconst 4, 1) := by decide +kernel
theorem dX11_init_41 : decode cX11_init 41 = .ok (.newarray .int, 2) := by decide +kernel
theorem dX11_init_43 : decode cX11_init 43 = .ok (.putfield 22, 3) := by decide +kernel
theorem dX11_init_46 : decode cX11_init 46 = .ok (.aload_n 0, 1) := by decide +kernel
theorem dX11_init_47 : decode cX11_init 47 = .ok (.iconst 4, 1) := by decide +kernel
theorem dX11_init_48 : decode cX11_init 48 = .ok (.newarray .int, 2) := by decide +kernel
theorem dX11_init_50 : decode cX11_init 50 = .ok (.putfield 25, 3) := by decide +kernel
theorem dX11_init_53 : decode cX11_init 53 = .ok (.aload_n 0, 1) := by decide +kernel
theorem dX11_init_54 : decode cX11_init 54 = .ok (.iconst 4, 1) := by decide +kernel
theorem dX11_init_55 : decode cX11_init 55 = .ok (.newarray .int, 2) := by decide +kernel
theorem dX11_init_57 : decode cX11_init 57 = .ok (.putfield 28, 3) := by decide +kernel
theorem dX11_init_60 : decode cX11_init 60 = .ok (.aload_n 0, 1) := by decide +kernel
theorem dX11_init_61 : decode cX11_init 61 = .ok (.bipush 20, 2) := by decide +kernel
theorem dX11_init_63 : decode cX11_init 63 = .ok (.newarray .int, 2) := by decide +kernel
theorem dX11_init_65 : decode cX11_init 65 = .ok (.putfield 31, 3) := by decide +kernel
theorem dX11_init_68 : decode cX11_init 68 = .ok (.aload_n 0, 1) := by decide +kernel
theorem dX11_init_69 : decode cX11_init 69 = .ok (.bipush 6, 2) := by decide +kernel
theorem dX11_init_71 : decode cX11_init 71 = .ok (.newarray .int, 2) := by decide +kernel
theorem dX11_init_73 : decode cX11_init 73 = .ok (.putfield 34, 3) := by decide +kernel
theorem dX11_init_76 : decode cX11_init 76 = .ok (.aload_n 0, 1) := by decide +kernel
theorem dX11_init_77 : decode cX11_init 77 = .ok (.bipush 6, 2) := by decide +kernel
theorem dX11_init_79 : decode cX11_init 79 = .ok (.newarray .int, 2) := by decide +kernel
theorem dX11_init_81 : decode cX11_init 81 = .ok (.putfield 37, 3) := by decide +kernel
theorem dX11_init_84 : decode cX11_init 84 = .ok (.aload_n 0, 1) := by decide +kernel
theorem dX11_init_85 : decode cX11_init 85 = .ok (.sipush 6561, 3) := by decide +kernel
theorem dX11_init_88 : decode cX11_init 88 = .ok (.newarray .int, 2) := by decide +kernel
theorem dX11_init_90 : decode cX11_init 90 = .ok (.putfield 40, 3) := by decide +kernel
theorem dX11_init_93 : decode cX11_init 93 = .ok (.aload_n 0, 1) := by decide +kernel
theorem dX11_init_94 : decode cX11_init 94 = .ok (.sipush 400, 3) := by decide +kernel
theorem dX11_init_97 : decode cX11_init 97 = .ok (.newarray .int, 2) := by decide +kernel
theorem dX11_init_99 : decode cX11_init 99 = .ok (.putfield 43, 3) := by decide +kernel
theorem dX11_init_102 : decode cX11_init 102 = .ok (.iconst 0, 1) := by decide +kernel
theorem dX11_init_103 : decode cX11_init 103 = .ok (.istore_n 1, 1) := by decide +kernel
theorem dX11_init_104 : decode cX11_init 104 = .ok (.iload_n 1, 1) := by decide +kernel
theorem dX11_init_105 : decode cX11_init 105 = .ok (.bipush 20, 2) := by decide +kernel
theorem dX11_init_107 : decode cX11_init 107 = .ok (.if_icmp .ge 29, 3) := by decide +kernel
theorem dX11_init_110 : decode cX11_init 110 = .ok (.aload_n 0, 1) := by decide +kernel
theorem dX11_init_111 : decode cX11_init 111 = .ok (.getfield 7, 3) := by decide +kernel
theorem dX11_init_114 : decode cX11_init 114 = .ok (.bipush 67, 2) := by decide +kernel
theorem dX11_init_116 : decode cX11_init 116 = .ok (.iload_n 1, 1) := by decide +kernel
theorem dX11_init_117 : decode cX11_init 117 = .ok (.iconst 4, 1) := by decide +kernel
theorem dX11_init_118 : decode cX11_init 118 = .ok (.idiv, 1) := by decide +kernel
theorem dX11_init_119 : decode cX11_init 119 = .ok (.imul, 1) := by decide +kernel
theorem dX11_init_120 : decode cX11_init 120 = .ok (.iload_n 1, 1) := by decide +kernel
theorem dX11_init_121 : decode cX11_init 121 = .ok (.iconst 4, 1) := by decide +kernel
theorem dX11_init_122 : decode cX11_init 122 = .ok (.irem, 1) := by decide +kernel
theorem dX11_init_123 : decode cX11_init 123 = .ok (.iadd, 1) := by decide +kernel
theorem dX11_init_124 : decode cX11_init 124 = .ok (.iload_n 1, 1) := by decide +kernel
theorem dX11_init_125 : decode cX11_init 125 = .ok (.iconst 4, 1) := by decide +kernel
theorem dX11_init_126 : decode cX11_init 126 = .ok (.irem, 1) := by decide +kernel
theorem dX11_init_127 : decode cX11_init 127 = .ok (.iconst 1, 1) := by decide +kernel
theorem dX11_init_128 : decode cX11_init 128 = .ok (.iadd, 1) := by decide +kernel
theorem dX11_init_129 : decode cX11_init 129 = .ok (.iastore, 1) := by decide +kernel
theorem dX11_init_130 : decode cX11_init 130 = .ok (.iinc 1 1, 3) := by decide +kernel
theorem dX11_init_133 : decode cX11_init 133 = .ok (.goto (-29), 3) := by decide +kernel
theorem dX11_init_136 : decode cX11_init 136 = .ok (.return_, 1) := by decide +kernel
theorem dX11_thrown_0 : decode cX11_thrown 0 = .ok (.aload_n 0, 1) := by decide +kernel
theorem dX11_thrown_1 : decode cX11_thrown 1 = .ok (.getfield 46, 3) := by decide +kernel
theorem dX11_thrown_4 : decode cX11_thrown 4 = .ok (.ireturn, 1) := by decide +kernel
theorem dX11_throwsAt_0 : decode cX11_throwsAt 0 = .ok (.aload_n 0, 1) := by decide +kernel
theorem dX11_throwsAt_1 : decode cX11_throwsAt 1 = .ok (.iload_n 1, 1) := by decide +kernel
theorem dX11_throwsAt_2 : decode cX11_throwsAt 2 = .ok (.putfield 46, 3) := by decide +kernel
theorem dX11_throwsAt_5 : decode cX11_throwsAt 5 = .ok (.iload_n 1, 1) := by decide +kernel
theorem dX11_throwsAt_6 : decode cX11_throwsAt 6 = .ok (.ifCond .le 7, 3) := by decide +kernel
theorem dX11_throwsAt_9 : decode cX11_throwsAt 9 = .ok (.iconst 1, 1) := by decide +kernel
theorem dX11_throwsAt_10 : decode cX11_throwsAt 10 = .ok (.goto 4, 3) := by decide +kernel
theorem dX11_throwsAt_13 : decode cX11_throwsAt 13 = .ok (.iconst 0, 1) := by decide +kernel
theorem dX11_throwsAt_14 : decode cX11_throwsAt 14 = .ok (.ireturn, 1) := by decide +kernel
theorem dX11_in_0 : decode cX11_in 0 = .ok (.iload_n 0, 1) := by decide +kernel
theorem dX11_in_1 : decode cX11_in 1 = .ok (.iload_n 1, 1) := by decide +kernel
theorem dX11_in_2 : decode cX11_in 2 = .ok (.if_icmp .lt 12, 3) := by decide +kernel
theorem dX11_in_5 : decode cX11_in 5 = .ok (.iload_n 0, 1) := by decide +kernel
theorem dX11_in_6 : decode cX11_in 6 = .ok (.iload_n 2, 1) := by decide +kernel
theorem dX11_in_7 : decode cX11_in 7 = .ok (.if_icmp .gt 7, 3) := by decide +kernel
theorem dX11_in_10 : decode cX11_in 10 = .ok (.iconst 1, 1) := by decide +kernel
theorem dX11_in_11 : decode cX11_in 11 = .ok (.goto 4, 3) := by decide +kernel
theorem dX11_in_14 : decode cX11_in 14 = .ok (.iconst 0, 1) := by decide +kernel
theorem dX11_in_15 : decode cX11_in 15 = .ok (.ireturn, 1) := by decide +kernel
theorem dX11_isLetter_0 : decode cX11_isLetter 0 = .ok (.iload_n 0, 1) := by decide +kernel
theorem dX11_isLetter_1 : decode cX11_isLetter 1 = .ok (.iconst 0, 1) := by decide +kernel
theorem dX11_isLetter_2 : decode cX11_isLetter 2 = .ok (.iconst 4, 1) := by decide +kernel
theorem dX11_isLetter_3 : decode cX11_isLetter 3 = .ok (.invokestatic 50, 3) := by decide +kernel
theorem dX11_isLetter_6 : decode cX11_isLetter 6 = .ok (.ireturn, 1) := by decide +kernel
theorem dX11_isPlace_0 : decode cX11_isPlace 0 = .ok (.iload_n 0, 1) := by decide +kernel
theorem dX11_isPlace_1 : decode cX11_isPlace 1 = .ok (.iconst 0, 1) := by decide +kernel
theorem dX11_isPlace_2 : decode cX11_isPlace 2 = .ok (.iconst 3, 1) := by decide +kernel
theorem dX11_isPlace_3 : decode cX11_isPlace 3 = .ok (.invokestatic 50, 3) := by decide +kernel
theorem dX11_isPlace_6 : decode cX11_isPlace 6 = .ok (.ireturn, 1) := by decide +kernel
theorem dX11_its_0 : decode cX11_its 0 = .ok (.aload_n 0, 1) := by decide +kernel
theorem dX11_its_1 : decode cX11_its 1 = .ok (.getfield 7, 3) := by decide +kernel
theorem dX11_its_4 : decode cX11_its 4 = .ok (.bipush 67, 2) := by decide +kernel
theorem dX11_its_6 : decode cX11_its 6 = .ok (.iload_n 1, 1) := by decide +kernel
theorem dX11_its_7 : decode cX11_its 7 = .ok (.imul, 1) := by decide +kernel
theorem dX11_its_8 : decode cX11_its 8 = .ok (.iload_n 2, 1) := by decide +kernel
theorem dX11_its_9 : decode cX11_its 9 = .ok (.iadd, 1) := by decide +kernel
theorem dX11_its_10 : decode cX11_its 10 = .ok (.iaload, 1) := by decide +kernel
theorem dX11_its_11 : decode cX11_its 11 = .ok (.ireturn, 1) := by decide +kernel
theorem dX11_size_0 : decode cX11_size 0 = .ok (.iload_n 0, 1) := by decide +kernel
theorem dX11_size_1 : decode cX11_size 1 = .ok (.ifCond .ge 8, 3) := by decide +kernel
theorem dX11_size_4 : decode cX11_size 4 = .ok (.iload_n 0, 1) := by decide +kernel
theorem dX11_size_5 : decode cX11_size 5 = .ok (.ineg, 1) := by decide +kernel
theorem dX11_size_6 : decode cX11_size 6 = .ok (.goto 4, 3) := by decide +kernel
theorem dX11_size_9 : decode cX11_size 9 = .ok (.iload_n 0, 1) := by decide +kernel
theorem dX11_size_10 : decode cX11_size 10 = .ok (.ireturn, 1) := by decide +kernel
theorem dX11_ones_0 : decode cX11_ones 0 = .ok (.iload_n 0, 1) := by decide +kernel
theorem dX11_ones_1 : decode cX11_ones 1 = .ok (.iconst 1, 1) := by decide +kernel
theorem dX11_ones_2 : decode cX11_ones 2 = .ok (.iand, 1) := by decide +kernel
theorem dX11_ones_3 : decode cX11_ones 3 = .ok (.iload_n 0, 1) := by decide +kernel
theorem dX11_ones_4 : decode cX11_ones 4 = .ok (.iconst 1, 1) := by decide +kernel
theorem dX11_ones_5 : decode cX11_ones 5 = .ok (.ishr, 1) := by decide +kernel
theorem dX11_ones_6 : decode cX11_ones 6 = .ok (.iconst 1, 1) := by decide +kernel
theorem dX11_ones_7 : decode cX11_ones 7 = .ok (.iand, 1) := by decide +kernel
theorem dX11_ones_8 : decode cX11_ones 8 = .ok (.iadd, 1) := by decide +kernel
theorem dX11_ones_9 : decode cX11_ones 9 = .ok (.iload_n 0, 1) := by decide +kernel
theorem dX11_ones_10 : decode cX11_ones 10 = .ok (.iconst 2, 1) := by decide +kernel
theorem dX11_ones_11 : decode cX11_ones 11 = .ok (.ishr, 1) := by decide +kernel
theorem dX11_ones_12 : decode cX11_ones 12 = .ok (.iconst 1, 1) := by decide +kernel
theorem dX11_ones_13 : decode cX11_ones 13 = .ok (.iand, 1) := by decide +kernel
theorem dX11_ones_14 : decode cX11_ones 14 = .ok (.iadd, 1) := by decide +kernel
theorem dX11_ones_15 : decode cX11_ones 15 = .ok (.iload_n 0, 1) := by decide +kernel
theorem dX11_ones_16 : decode cX11_ones 16 = .ok (.iconst 3, 1) := by decide +kernel
theorem dX11_ones_17 : decode cX11_ones 17 = .ok (.ishr, 1) := by decide +kernel
theorem dX11_ones_18 : decode cX11_ones 18 = .ok (.iconst 1, 1) := by decide +kernel
theorem dX11_ones_19 : decode cX11_ones 19 = .ok (.iand, 1) := by decide +kernel
theorem dX11_ones_20 : decode cX11_ones 20 = .ok (.iadd, 1) := by decide +kernel
theorem dX11_ones_21 : decode cX11_ones 21 = .ok (.ireturn, 1) := by decide +kernel
theorem dX11_saves_0 : decode cX11_saves 0 = .ok (.aload_n 0, 1) := by decide +kernel
theorem dX11_saves_1 : decode cX11_saves 1 = .ok (.getfield 54, 3) := by decide +kernel
theorem dX11_saves_4 : decode cX11_saves 4 = .ok (.bipush 6, 2) := by decide +kernel
theorem dX11_saves_6 : decode cX11_saves 6 = .ok (.if_icmp .ne 44, 3) := by decide +kernel
theorem dX11_saves_9 : decode cX11_saves 9 = .ok (.iconst 0, 1) := by decide +kernel
theorem dX11_saves_10 : decode cX11_saves 10 = .ok (.istore_n 1, 1) := by decide +kernel
theorem dX11_saves_11 : decode cX11_saves 11 = .ok (.iload_n 1, 1) := by decide +kernel
theorem dX11_saves_12 : decode cX11_saves 12 = .ok (.sipush 1675, 3) := by decide +kernel
theorem dX11_saves_15 : decode cX11_saves 15 = .ok (.if_icmp .ge 25, 3) := by decide +kernel
theorem dX11_saves_18 : decode cX11_saves 18 = .ok (.aload_n 0, 1) := by decide +kernel
theorem dX11_saves_19 : decode cX11_saves 19 = .ok (.getfield 13, 3) := by decide +kernel
theorem dX11_saves_22 : decode cX11_saves 22 = .ok (.iload_n 1, 1) := by decide +kernel
theorem dX11_saves_23 : decode cX11_saves 23 = .ok (.aload_n 0, 1) := by decide +kernel
theorem dX11_saves_24 : decode cX11_saves 24 = .ok (.getfield 13, 3) := by decide +kernel
theorem dX11_saves_27 : decode cX11_saves 27 = .ok (.sipush 335, 3) := by decide +kernel
theorem dX11_saves_30 : decode cX11_saves 30 = .ok (.iload_n 1, 1) := by decide +kernel
theorem dX11_saves_31 : decode cX11_saves 31 = .ok (.iadd, 1) := by decide +kernel
theorem dX11_saves_32 : decode cX11_saves 32 = .ok (.iaload, 1) := by decide +kernel
theorem dX11_saves_33 : decode cX11_saves 33 = .ok (.iastore, 1) := by decide +kernel
theorem dX11_saves_34 : decode cX11_saves 34 = .ok (.iinc 1 1, 3) := by decide +kernel
theorem dX11_saves_37 : decode cX11_saves 37 = .ok (.goto (-26), 3) := by decide +kernel
theorem dX11_saves_40 : decode cX11_saves 40 = .ok (.aload_n 0, 1) := by decide +kernel
theorem dX11_saves_41 : decode cX11_saves 41 = .ok (.dup, 1) := by decide +kernel
theorem dX11_saves_42 : decode cX11_saves 42 = .ok (.getfield 54, 3) := by decide +kernel
theorem dX11_saves_45 : decode cX11_saves 45 = .ok (.iconst 1, 1) := by decide +kernel
theorem dX11_saves_46 : decode cX11_saves 46 = .ok (.isub, 1) := by decide +kernel
theorem dX11_saves_47 : decode cX11_saves 47 = .ok (.putfield 54, 3) := by decide +kernel
theorem dX11_saves_50 : decode cX11_saves 50 = .ok (.iconst 0, 1) := by decide +kernel
theorem dX11_saves_51 : decode cX11_saves 51 = .ok (.istore_n 1, 1) := by decide +kernel
theorem dX11_saves_52 : decode cX11_saves 52 = .ok (.iload_n 1, 1) := by decide +kernel
theorem dX11_saves_53 : decode cX11_saves 53 = .ok (.sipush 335, 3) := by decide +kernel
theorem dX11_saves_56 : decode cX11_saves 56 = .ok (.if_icmp .ge 30, 3) := by decide +kernel
theorem dX11_saves_59 : decode cX11_saves 59 = .ok (.aload_n 0, 1) := by decide +kernel
theorem dX11_saves_60 : decode cX11_saves 60 = .ok (.getfield 13, 3) := by decide +kernel
theorem dX11_saves_63 : decode cX11_saves 63 = .ok (.sipush 335, 3) := by decide +kernel
theorem dX11_saves_66 : decode cX11_saves 66 = .ok (.aload_n 0, 1) := by decide +kernel
theorem dX11_saves_67 : decode cX11_saves 67 = .ok (.getfield 54, 3) := by decide +kernel
theorem dX11_saves_70 : decode cX11_saves 70 = .ok (.imul, 1) := by decide +kernel
theorem dX11_saves_71 : decode cX11_saves 71 = .ok (.iload_n 1, 1) := by decide +kernel
theorem dX11_saves_72 : decode cX11_saves 72 = .ok (.iadd, 1) := by decide +kernel
theorem dX11_saves_73 : decode cX11_saves 73 = .ok (.aload_n 0, 1) := by decide +kernel
theorem dX11_saves_74 : decode cX11_saves 74 = .ok (.getfield 7, 3) := by decide +kernel
theorem dX11_saves_77 : decode cX11_saves 77 = .ok (.iload_n 1, 1) := by decide +kernel
theorem dX11_saves_78 : decode cX11_saves 78 = .ok (.iaload, 1) := by decide +kernel
theorem dX11_saves_79 : decode cX11_saves 79 = .ok (.iastore, 1) := by decide +kernel
theorem dX11_saves_80 : decode cX11_saves 80 = .ok (.iinc 1 1, 3) := by decide +kernel
theorem dX11_saves_83 : decode cX11_saves 83 = .ok (.goto (-31), 3) := by decide +kernel
theorem dX11_saves_86 : decode cX11_saves 86 = .ok (.aload_n 0, 1) := by decide +kernel
theorem dX11_saves_87 : decode cX11_saves 87 = .ok (.dup, 1) := by decide +kernel
theorem dX11_saves_88 : decode cX11_saves 88 = .ok (.getfield 54, 3) := by decide +kernel
theorem dX11_saves_91 : decode cX11_saves 91 = .ok (.iconst 1, 1) := by decide +kernel
theorem dX11_saves_92 : decode cX11_saves 92 = .ok (.iadd, 1) := by decide +kernel
theorem dX11_saves_93 : decode cX11_saves 93 = .ok (.putfield 54, 3) := by decide +kernel
theorem dX11_saves_96 : decode cX11_saves 96 = .ok (.return_, 1) := by decide +kernel
theorem dX11_takes_0 : decode cX11_takes 0 = .ok (.iconst 0, 1) := by decide +kernel
theorem dX11_takes_1 : decode cX11_takes 1 = .ok (.istore_n 2, 1) := by decide +kernel
theorem dX11_takes_2 : decode cX11_takes 2 = .ok (.iload_n 2, 1) := by decide +kernel
theorem dX11_takes_3 : decode cX11_takes 3 = .ok (.iconst 4, 1) := by decide +kernel
theorem dX11_takes_4 : decode cX11_takes 4 = .ok (.if_icmp .ge 21, 3) := by decide +kernel
theorem dX11_takes_7 : decode cX11_takes 7 = .ok (.aload_n 0, 1) := by decide +kernel
theorem dX11_takes_8 : decode cX11_takes 8 = .ok (.getfield 22, 3) := by decide +kernel
theorem dX11_takes_11 : decode cX11_takes 11 = .ok (.iload_n 2, 1) := by decide +kernel
theorem dX11_takes_12 : decode cX11_takes 12 = .ok (.aload_n 0, 1) := by decide +kernel
theorem dX11_takes_13 : decode cX11_takes 13 = .ok (.iload_n 1, 1) := by decide +kernel
theorem dX11_takes_14 : decode cX11_takes 14 = .ok (.iload_n 2, 1) := by decide +kernel
theorem dX11_takes_15 : decode cX11_takes 15 = .ok (.invokevirtual 57, 3) := by decide +kernel
theorem dX11_takes_18 : decode cX11_takes 18 = .ok (.iastore, 1) := by decide +kernel
theorem dX11_takes_19 : decode cX11_takes 19 = .ok (.iinc 2 1, 3) := by decide +kernel
theorem dX11_takes_22 : decode cX11_takes 22 = .ok (.goto (-20), 3) := by decide +kernel
theorem dX11_takes_25 : decode cX11_takes 25 = .ok (.return_, 1) := by decide +kernel
theorem dX11_takesOther_0 : decode cX11_takesOther 0 = .ok (.iconst 0, 1) := by decide +kernel
theorem dX11_takesOther_1 : decode cX11_takesOther 1 = .ok (.istore_n 2, 1) := by decide +kernel
theorem dX11_takesOther_2 : decode cX11_takesOther 2 = .ok (.iload_n 2, 1) := by decide +kernel
theorem dX11_takesOther_3 : decode cX11_takesOther 3 = .ok (.iconst 4, 1) := by decide +kernel
theorem dX11_takesOther_4 : decode cX11_takesOther 4 = .ok (.if_icmp .ge 21, 3) := by decide +kernel
theorem dX11_takesOther_7 : decode cX11_takesOther 7 = .ok (.aload_n 0, 1) := by decide +kernel
theorem dX11_takesOther_8 : decode cX11_takesOther 8 = .ok (.getfield 25, 3) := by decide +kernel
theorem dX11_takesOther_11 : decode cX11_takesOther 11 = .ok (.iload_n 2, 1) := by decide +kernel
theorem dX11_takesOther_12 : decode cX11_takesOther 12 = .ok (.aload_n 0, 1) := by decide +kernel
theorem dX11_takesOther_13 : decode cX11_takesOther 13 = .ok (.iload_n 1, 1) := by decide +kernel
theorem dX11_takesOther_14 : decode cX11_takesOther 14 = .ok (.iload_n 2, 1) := by decide +kernel
theorem dX11_takesOther_15 : decode cX11_takesOther 15 = .ok (.invokevirtual 57, 3) := by decide +kernel
theorem dX11_takesOther_18 : decode cX11_takesOther 18 = .ok (.iastore, 1) := by decide +kernel
theorem dX11_takesOther_19 : decode cX11_takesOther 19 = .ok (.iinc 2 1, 3) := by decide +kernel
theorem dX11_takesOther_22 : decode cX11_takesOther 22 = .ok (.goto (-20), 3) := by decide +kernel
theorem dX11_takesOther_25 : decode cX11_takesOther 25 = .ok (.return_, 1) := by decide +kernel
theorem dX11_foldsOne_0 : decode cX11_foldsOne 0 = .ok (.iload_n 1, 1) := by decide +kernel
theorem dX11_foldsOne_1 : decode cX11_foldsOne 1 = .ok (.ifCond .ne 17, 3) := by decide +kernel
theorem dX11_foldsOne_4 : decode cX11_foldsOne 4 = .ok (.aload_n 0, 1) := by decide +kernel
theorem dX11_foldsOne_5 : decode cX11_foldsOne 5 = .ok (.getfield 22, 3) := by decide +kernel
theorem dX11_foldsOne_8 : decode cX11_foldsOne 8 = .ok (.iconst 0, 1) := by decide +kernel
theorem dX11_foldsOne_9 : decode cX11_foldsOne 9 = .ok (.aload_n 0, 1) := by decide +kernel
theorem dX11_foldsOne_10 : decode cX11_foldsOne 10 = .ok (.getfield 22, 3) := by decide +kernel
theorem dX11_foldsOne_13 : decode cX11_foldsOne 13 = .ok (.iconst 0, 1) := by decide +kernel
theorem dX11_foldsOne_14 : decode cX11_foldsOne 14 = .ok (.iaload, 1) := by decide +kernel
theorem dX11_foldsOne_15 : decode cX11_foldsOne 15 = .ok (.ineg, 1) := by decide +kernel
theorem dX11_foldsOne_16 : decode cX11_foldsOne 16 = .ok (.iastore, 1) := by decide +kernel
theorem dX11_foldsOne_17 : decode cX11_foldsOne 17 = .ok (.return_, 1) := by decide +kernel
theorem dX11_foldsOne_18 : decode cX11_foldsOne 18 = .ok (.aload_n 0, 1) := by decide +kernel
theorem dX11_foldsOne_19 : decode cX11_foldsOne 19 = .ok (.getfield 22, 3) := by decide +kernel
theorem dX11_foldsOne_22 : decode cX11_foldsOne 22 = .ok (.iload_n 1, 1) := by decide +kernel
theorem dX11_foldsOne_23 : decode cX11_foldsOne 23 = .ok (.iconst 1, 1) := by decide +kernel
theorem dX11_foldsOne_24 : decode cX11_foldsOne 24 = .ok (.isub, 1) := by decide +kernel
theorem dX11_foldsOne_25 : decode cX11_foldsOne 25 = .ok (.iaload, 1) := by decide +kernel
theorem dX11_foldsOne_26 : decode cX11_foldsOne 26 = .ok (.istore_n 2, 1) := by decide +kernel
theorem dX11_foldsOne_27 : decode cX11_foldsOne 27 = .ok (.aload_n 0, 1) := by decide +kernel
theorem dX11_foldsOne_28 : decode cX11_foldsOne 28 = .ok (.getfield 22, 3) := by decide +kernel
theorem dX11_foldsOne_31 : decode cX11_foldsOne 31 = .ok (.iload_n 1, 1) := by decide +kernel
theorem dX11_foldsOne_32 : decode cX11_foldsOne 32 = .ok (.iconst 1, 1) := by decide +kernel
theorem dX11_foldsOne_33 : decode cX11_foldsOne 33 = .ok (.isub, 1) := by decide +kernel
theorem dX11_foldsOne_34 : decode cX11_foldsOne 34 = .ok (.aload_n 0, 1) := by decide +kernel
theorem dX11_foldsOne_35 : decode cX11_foldsOne 35 = .ok (.getfield 22, 3) := by decide +kernel
theorem dX11_foldsOne_38 : decode cX11_foldsOne 38 = .ok (.iload_n 1, 1) := by decide +kernel
theorem dX11_foldsOne_39 : decode cX11_foldsOne 39 = .ok (.iaload, 1) := by decide +kernel
theorem dX11_foldsOne_40 : decode cX11_foldsOne 40 = .ok (.iastore, 1) := by decide +kernel
theorem dX11_foldsOne_41 : decode cX11_foldsOne 41 = .ok (.aload_n 0, 1) := by decide +kernel
theorem dX11_foldsOne_42 : decode cX11_foldsOne 42 = .ok (.getfield 22, 3) := by decide +kernel
theorem dX11_foldsOne_45 : decode cX11_foldsOne 45 = .ok (.iload_n 1, 1) := by decide +kernel
theorem dX11_foldsOne_46 : decode cX11_foldsOne 46 = .ok (.iload_n 2, 1) := by decide +kernel
theorem dX11_foldsOne_47 : decode cX11_foldsOne 47 = .ok (.iastore, 1) := by decide +kernel
theorem dX11_foldsOne_48 : decode cX11_foldsOne 48 = .ok (.return_, 1) := by decide +kernel
theorem dX11_foldsAhead_0 : decode cX11_foldsAhead 0 = .ok (.iconst 0, 1) := by decide +kernel
theorem dX11_foldsAhead_1 : decode cX11_foldsAhead 1 = .ok (.istore_n 2, 1) := by decide +kernel
theorem dX11_foldsAhead_2 : decode cX11_foldsAhead 2 = .ok (.iload_n 2, 1) := by decide +kernel
theorem dX11_foldsAhead_3 : decode cX11_foldsAhead 3 = .ok (.iconst 4, 1) := by decide +kernel
theorem dX11_foldsAhead_4 : decode cX11_foldsAhead 4 = .ok (.if_icmp .ge 98, 3) := by decide +kernel
theorem dX11_foldsAhead_7 : decode cX11_foldsAhead 7 = .ok (.aload_n 0, 1) := by decide +kernel
theorem dX11_foldsAhead_8 : decode cX11_foldsAhead 8 = .ok (.getfield 22, 3) := by decide +kernel
theorem dX11_foldsAhead_11 : decode cX11_foldsAhead 11 = .ok (.iload_n 2, 1) := by decide +kernel
theorem dX11_foldsAhead_12 : decode cX11_foldsAhead 12 = .ok (.iaload, 1) := by decide +kernel
theorem dX11_foldsAhead_13 : decode cX11_foldsAhead 13 = .ok (.invokestatic 61, 3) := by decide +kernel
theorem dX11_foldsAhead_16 : decode cX11_foldsAhead 16 = .ok (.istore_n 3, 1) := by decide +kernel
theorem dX11_foldsAhead_17 : decode cX11_foldsAhead 17 = .ok (.iload_n 1, 1) := by decide +kernel
theorem dX11_foldsAhead_18 : decode cX11_foldsAhead 18 = .ok (.ifCond .le 14, 3) := by decide +kernel
theorem dX11_foldsAhead_21 : decode cX11_foldsAhead 21 = .ok (.iload_n 3, 1) := by decide +kernel
theorem dX11_foldsAhead_22 : decode cX11_foldsAhead 22 = .ok (.iload_n 1, 1) := by decide +kernel
theorem dX11_foldsAhead_23 : decode cX11_foldsAhead 23 = .ok (.if_icmp .ne 9, 3) := by decide +kernel
theorem dX11_foldsAhead_26 : decode cX11_foldsAhead 26 = .ok (.iload_n 1, 1) := by decide +kernel
theorem dX11_foldsAhead_27 : decode cX11_foldsAhead 27 = .ok (.iconst 1, 1) := by decide +kernel
theorem dX11_foldsAhead_28 : decode cX11_foldsAhead 28 = .ok (.iadd, 1) := by decide +kernel
theorem dX11_foldsAhead_29 : decode cX11_foldsAhead 29 = .ok (.goto 19, 3) := by decide +kernel
theorem dX11_foldsAhead_32 : decode cX11_foldsAhead 32 = .ok (.iload_n 1, 1) := by decide +kernel
theorem dX11_foldsAhead_33 : decode cX11_foldsAhead 33 = .ok (.ifCond .le 14, 3) := by decide +kernel
theorem dX11_foldsAhead_36 : decode cX11_foldsAhead 36 = .ok (.iload_n 3, 1) := by decide +kernel
theorem dX11_foldsAhead_37 : decode cX11_foldsAhead 37 = .ok (.iload_n 1, 1) := by decide +kernel
theorem dX11_foldsAhead_38 : decode cX11_foldsAhead 38 = .ok (.iconst 1, 1) := by decide +kernel
theorem dX11_foldsAhead_39 : decode cX11_foldsAhead 39 = .ok (.iadd, 1) := by decide +kernel
theorem dX11_foldsAhead_40 : decode cX11_foldsAhead 40 = .ok (.if_icmp .ne 7, 3) := by decide +kernel
theorem dX11_foldsAhead_43 : decode cX11_foldsAhead 43 = .ok (.iload_n 1, 1) := by decide +kernel
theorem dX11_foldsAhead_44 : decode cX11_foldsAhead 44 = .ok (.goto 4, 3) := by decide +kernel
theorem dX11_foldsAhead_47 : decode cX11_foldsAhead 47 = .ok (.iload_n 3, 1) := by decide +kernel
theorem dX11_foldsAhead_48 : decode cX11_foldsAhead 48 = .ok (.istore 4, 2) := by decide +kernel
theorem dX11_foldsAhead_50 : decode cX11_foldsAhead 50 = .ok (.aload_n 0, 1) := by decide +kernel
theorem dX11_foldsAhead_51 : decode cX11_foldsAhead 51 = .ok (.getfield 22, 3) := by decide +kernel
theorem dX11_foldsAhead_54 : decode cX11_foldsAhead 54 = .ok (.iload_n 2, 1) := by decide +kernel
theorem dX11_foldsAhead_55 : decode cX11_foldsAhead 55 = .ok (.iaload, 1) := by decide +kernel
theorem dX11_foldsAhead_56 : decode cX11_foldsAhead 56 = .ok (.ifCond .ge 7, 3) := by decide +kernel
theorem dX11_foldsAhead_59 : decode cX11_foldsAhead 59 = .ok (.iconst (-1), 1) := by decide +kernel
theorem dX11_foldsAhead_60 : decode cX11_foldsAhead 60 = .ok (.goto 4, 3) := by decide +kernel
theorem dX11_foldsAhead_63 : decode cX11_foldsAhead 63 = .ok (.iconst 1, 1) := by decide +kernel
theorem dX11_foldsAhead_64 : decode cX11_foldsAhead 64 = .ok (.istore 5, 2) := by decide +kernel
theorem dX11_foldsAhead_66 : decode cX11_foldsAhead 66 = .ok (.aload_n 0, 1) := by decide +kernel
theorem dX11_foldsAhead_67 : decode cX11_foldsAhead 67 = .ok (.getfield 22, 3) := by decide +kernel
theorem dX11_foldsAhead_70 : decode cX11_foldsAhead 70 = .ok (.iload_n 2, 1) := by decide +kernel
theorem dX11_foldsAhead_71 : decode cX11_foldsAhead 71 = .ok (.iload_n 1, 1) := by decide +kernel
theorem dX11_foldsAhead_72 : decode cX11_foldsAhead 72 = .ok (.ifCond .ne 18, 3) := by decide +kernel
theorem dX11_foldsAhead_75 : decode cX11_foldsAhead 75 = .ok (.iload_n 3, 1) := by decide +kernel
theorem dX11_foldsAhead_76 : decode cX11_foldsAhead 76 = .ok (.iconst 1, 1) := by decide +kernel
theorem dX11_foldsAhead_77 : decode cX11_foldsAhead 77 = .ok (.if_icmp .ne 13, 3) := by decide +kernel
theorem dX11_foldsAhead_80 : decode cX11_foldsAhead 80 = .ok (.aload_n 0, 1) := by decide +kernel
theorem dX11_foldsAhead_81 : decode cX11_foldsAhead 81 = .ok (.getfield 22, 3) := by decide +kernel
theorem dX11_foldsAhead_84 : decode cX11_foldsAhead 84 = .ok (.iload_n 2, 1) := by decide +kernel
theorem dX11_foldsAhead_85 : decode cX11_foldsAhead 85 = .ok (.iaload, 1) := by decide +kernel
theorem dX11_foldsAhead_86 : decode cX11_foldsAhead 86 = .ok (.ineg, 1) := by decide +kernel
theorem dX11_foldsAhead_87 : decode cX11_foldsAhead 87 = .ok (.goto 8, 3) := by decide +kernel
theorem dX11_foldsAhead_90 : decode cX11_foldsAhead 90 = .ok (.iload 5, 2) := by decide +kernel
theorem dX11_foldsAhead_92 : decode cX11_foldsAhead 92 = .ok (.iload 4, 2) := by decide +kernel
theorem dX11_foldsAhead_94 : decode cX11_foldsAhead 94 = .ok (.imul, 1) := by decide +kernel
theorem dX11_foldsAhead_95 : decode cX11_foldsAhead 95 = .ok (.iastore, 1) := by decide +kernel
theorem dX11_foldsAhead_96 : decode cX11_foldsAhead 96 = .ok (.iinc 2 1, 3) := by decide +kernel
theorem dX11_foldsAhead_99 : decode cX11_foldsAhead 99 = .ok (.goto (-97), 3) := by decide +kernel
theorem dX11_foldsAhead_102 : decode cX11_foldsAhead 102 = .ok (.return_, 1) := by decide +kernel
theorem dX11_lengthOfOne_0 : decode cX11_lengthOfOne 0 = .ok (.iconst 0, 1) := by decide +kernel
theorem dX11_lengthOfOne_1 : decode cX11_lengthOfOne 1 = .ok (.istore_n 1, 1) := by decide +kernel
theorem dX11_lengthOfOne_2 : decode cX11_lengthOfOne 2 = .ok (.iconst 0, 1) := by decide +kernel
theorem dX11_lengthOfOne_3 : decode cX11_lengthOfOne 3 = .ok (.istore_n 2, 1) := by decide +kernel
theorem dX11_lengthOfOne_4 : decode cX11_lengthOfOne 4 = .ok (.iload_n 2, 1) := by decide +kernel
theorem dX11_lengthOfOne_5 : decode cX11_lengthOfOne 5 = .ok (.iconst 4, 1) := by decide +kernel
theorem dX11_lengthOfOne_6 : decode cX11_lengthOfOne 6 = .ok (.if_icmp .ge 69, 3) := by decide +kernel
theorem dX11_lengthOfOne_9 : decode cX11_lengthOfOne 9 = .ok (.iload_n 2, 1) := by decide +kernel
theorem dX11_lengthOfOne_10 : decode cX11_lengthOfOne 10 = .ok (.istore_n 3, 1) := by decide +kernel
theorem dX11_lengthOfOne_11 : decode cX11_lengthOfOne 11 = .ok (.iload_n 3, 1) := by decide +kernel
theorem dX11_lengthOfOne_12 : decode cX11_lengthOfOne 12 = .ok (.iconst 4, 1) := by decide +kernel
theorem dX11_lengthOfOne_13 : decode cX11_lengthOfOne 13 = .ok (.if_icmp .ge 56, 3) := by decide +kernel
theorem dX11_lengthOfOne_16 : decode cX11_lengthOfOne 16 = .ok (.iload_n 1, 1) := by decide +kernel
theorem dX11_lengthOfOne_17 : decode cX11_lengthOfOne 17 = .ok (.aload_n 0, 1) := by decide +kernel
theorem dX11_lengthOfOne_18 : decode cX11_lengthOfOne 18 = .ok (.getfield 22, 3) := by decide +kernel
theorem dX11_lengthOfOne_21 : decode cX11_lengthOfOne 21 = .ok (.iload_n 2, 1) := by decide +kernel
theorem dX11_lengthOfOne_22 : decode cX11_lengthOfOne 22 = .ok (.iaload, 1) := by decide +kernel
theorem dX11_lengthOfOne_23 : decode cX11_lengthOfOne 23 = .ok (.aload_n 0, 1) := by decide +kernel
theorem dX11_lengthOfOne_24 : decode cX11_lengthOfOne 24 = .ok (.getfield 22, 3) := by decide +kernel
theorem dX11_lengthOfOne_27 : decode cX11_lengthOfOne 27 = .ok (.iload_n 3, 1) := by decide +kernel
theorem dX11_lengthOfOne_28 : decode cX11_lengthOfOne 28 = .ok (.iaload, 1) := by decide +kernel
theorem dX11_lengthOfOne_29 : decode cX11_lengthOfOne 29 = .ok (.if_icmp .le 7, 3) := by decide +kernel
theorem dX11_lengthOfOne_32 : decode cX11_lengthOfOne 32 = .ok (.iconst 1, 1) := by decide +kernel
theorem dX11_lengthOfOne_33 : decode cX11_lengthOfOne 33 = .ok (.goto 4, 3) := by decide +kernel
theorem dX11_lengthOfOne_36 : decode cX11_lengthOfOne 36 = .ok (.iconst 0, 1) := by decide +kernel
theorem dX11_lengthOfOne_37 : decode cX11_lengthOfOne 37 = .ok (.iadd, 1) := by decide +kernel
theorem dX11_lengthOfOne_38 : decode cX11_lengthOfOne 38 = .ok (.istore_n 1, 1) := by decide +kernel
theorem dX11_lengthOfOne_39 : decode cX11_lengthOfOne 39 = .ok (.iload_n 1, 1) := by decide +kernel
theorem dX11_lengthOfOne_40 : decode cX11_lengthOfOne 40 = .ok (.aload_n 0, 1) := by decide +kernel
theorem dX11_lengthOfOne_41 : decode cX11_lengthOfOne 41 = .ok (.getfield 22, 3) := by decide +kernel
theorem dX11_lengthOfOne_44 : decode cX11_lengthOfOne 44 = .ok (.iload_n 2, 1) := by decide +kernel
theorem dX11_lengthOfOne_45 : decode cX11_lengthOfOne 45 = .ok (.iaload, 1) := by decide +kernel
theorem dX11_lengthOfOne_46 : decode cX11_lengthOfOne 46 = .ok (.aload_n 0, 1) := by decide +kernel
theorem dX11_lengthOfOne_47 : decode cX11_lengthOfOne 47 = .ok (.getfield 22, 3) := by decide +kernel
theorem dX11_lengthOfOne_50 : decode cX11_lengthOfOne 50 = .ok (.iload_n 3, 1) := by decide +kernel
theorem dX11_lengthOfOne_51 : decode cX11_lengthOfOne 51 = .ok (.iaload, 1) := by decide +kernel
theorem dX11_lengthOfOne_52 : decode cX11_lengthOfOne 52 = .ok (.iadd, 1) := by decide +kernel
theorem dX11_lengthOfOne_53 : decode cX11_lengthOfOne 53 = .ok (.ifCond .ge 7, 3) := by decide +kernel
theorem dX11_lengthOfOne_56 : decode cX11_lengthOfOne 56 = .ok (.iconst 1, 1) := by decide +kernel
theorem dX11_lengthOfOne_57 : decode cX11_lengthOfOne 57 = .ok (.goto 4, 3) := by decide +kernel
theorem dX11_lengthOfOne_60 : decode cX11_lengthOfOne 60 = .ok (.iconst 0, 1) := by decide +kernel
theorem dX11_lengthOfOne_61 : decode cX11_lengthOfOne 61 = .ok (.iadd, 1) := by decide +kernel
theorem dX11_lengthOfOne_62 : decode cX11_lengthOfOne 62 = .ok (.istore_n 1, 1) := by decide +kernel
theorem dX11_lengthOfOne_63 : decode cX11_lengthOfOne 63 = .ok (.iinc 3 1, 3) := by decide +kernel
theorem dX11_lengthOfOne_66 : decode cX11_lengthOfOne 66 = .ok (.goto (-55), 3) := by decide +kernel
theorem dX11_lengthOfOne_69 : decode cX11_lengthOfOne 69 = .ok (.iinc 2 1, 3) := by decide +kernel
theorem dX11_lengthOfOne_72 : decode cX11_lengthOfOne 72 = .ok (.goto (-68), 3) := by decide +kernel
theorem dX11_lengthOfOne_75 : decode cX11_lengthOfOne 75 = .ok (.iload_n 1, 1) := by decide +kernel
theorem dX11_lengthOfOne_76 : decode cX11_lengthOfOne 76 = .ok (.ireturn, 1) := by decide +kernel
theorem dX11_isFlatOne_0 : decode cX11_isFlatOne 0 = .ok (.aload_n 0, 1) := by decide +kernel
theorem dX11_isFlatOne_1 : decode cX11_isFlatOne 1 = .ok (.invokevirtual 65, 3) := by decide +kernel
theorem dX11_isFlatOne_4 : decode cX11_isFlatOne 4 = .ok (.ifCond .ne 7, 3) := by decide +kernel
theorem dX11_isFlatOne_7 : decode cX11_isFlatOne 7 = .ok (.iconst 1, 1) := by decide +kernel
theorem dX11_isFlatOne_8 : decode cX11_isFlatOne 8 = .ok (.goto 4, 3) := by decide +kernel
theorem dX11_isFlatOne_11 : decode cX11_isFlatOne 11 = .ok (.iconst 0, 1) := by decide +kernel
theorem dX11_isFlatOne_12 : decode cX11_isFlatOne 12 = .ok (.ireturn, 1) := by decide +kernel
theorem dX11_multiplies_0 : decode cX11_multiplies 0 = .ok (.iconst 0, 1) := by decide +kernel
theorem dX11_multiplies_1 : decode cX11_multiplies 1 = .ok (.istore_n 1, 1) := by decide +kernel
theorem dX11_multiplies_2 : decode cX11_multiplies 2 = .ok (.iload_n 1, 1) := by decide +kernel
theorem dX11_multiplies_3 : decode cX11_multiplies 3 = .ok (.iconst 4, 1) := by decide +kernel
theorem dX11_multiplies_4 : decode cX11_multiplies 4 = .ok (.if_icmp .ge 55, 3) := by decide +kernel
theorem dX11_multiplies_7 : decode cX11_multiplies 7 = .ok (.aload_n 0, 1) := by decide +kernel
theorem dX11_multiplies_8 : decode cX11_multiplies 8 = .ok (.getfield 28, 3) := by decide +kernel
theorem dX11_multiplies_11 : decode cX11_multiplies 11 = .ok (.iload_n 1, 1) := by decide +kernel
theorem dX11_multiplies_12 : decode cX11_multiplies 12 = .ok (.aload_n 0, 1) := by decide +kernel
theorem dX11_multiplies_13 : decode cX11_multiplies 13 = .ok (.getfield 25, 3) := by decide +kernel
theorem dX11_multiplies_16 : decode cX11_multiplies 16 = .ok (.iload_n 1, 1) := by decide +kernel
theorem dX11_multiplies_17 : decode cX11_multiplies 17 = .ok (.iaload, 1) := by decide +kernel
theorem dX11_multiplies_18 : decode cX11_multiplies 18 = .ok (.ifCond .ge 21, 3) := by decide +kernel
theorem dX11_multiplies_21 : decode cX11_multiplies 21 = .ok (.aload_n 0, 1) := by decide +kernel
theorem dX11_multiplies_22 : decode cX11_multiplies 22 = .ok (.getfield 22, 3) := by decide +kernel
theorem dX11_multiplies_25 : decode cX11_multiplies 25 = .ok (.aload_n 0, 1) := by decide +kernel
theorem dX11_multiplies_26 : decode cX11_multiplies 26 = .ok (.getfield 25, 3) := by decide +kernel
theorem dX11_multiplies_29 : decode cX11_multiplies 29 = .ok (.iload_n 1, 1) := by decide +kernel
theorem dX11_multiplies_30 : decode cX11_multiplies 30 = .ok (.iaload, 1) := by decide +kernel
theorem dX11_multiplies_31 : decode cX11_multiplies 31 = .ok (.ineg, 1) := by decide +kernel
theorem dX11_multiplies_32 : decode cX11_multiplies 32 = .ok (.iconst 1, 1) := by decide +kernel
theorem dX11_multiplies_33 : decode cX11_multiplies 33 = .ok (.isub, 1) := by decide +kernel
theorem dX11_multiplies_34 : decode cX11_multiplies 34 = .ok (.iaload, 1) := by decide +kernel
theorem dX11_multiplies_35 : decode cX11_multiplies 35 = .ok (.ineg, 1) := by decide +kernel
theorem dX11_multiplies_36 : decode cX11_multiplies 36 = .ok (.goto 16, 3) := by decide +kernel
theorem dX11_multiplies_39 : decode cX11_multiplies 39 = .ok (.aload_n 0, 1) := by decide +kernel
theorem dX11_multiplies_40 : decode cX11_multiplies 40 = .ok (.getfield 22, 3) := by decide +kernel
theorem dX11_multiplies_43 : decode cX11_multiplies 43 = .ok (.aload_n 0, 1) := by decide +kernel
theorem dX11_multiplies_44 : decode cX11_multiplies 44 = .ok (.getfield 25, 3) := by decide +kernel
theorem dX11_multiplies_47 : decode cX11_multiplies 47 = .ok (.iload_n 1, 1) := by decide +kernel
theorem dX11_multiplies_48 : decode cX11_multiplies 48 = .ok (.iaload, 1) := by decide +kernel
theorem dX11_multiplies_49 : decode cX11_multiplies 49 = .ok (.iconst 1, 1) := by decide +kernel
theorem dX11_multiplies_50 : decode cX11_multiplies 50 = .ok (.isub, 1) := by decide +kernel
theorem dX11_multiplies_51 : decode cX11_multiplies 51 = .ok (.iaload, 1) := by decide +kernel
theorem dX11_multiplies_52 : decode cX11_multiplies 52 = .ok (.iastore, 1) := by decide +kernel
theorem dX11_multiplies_53 : decode cX11_multiplies 53 = .ok (.iinc 1 1, 3) := by decide +kernel
theorem dX11_multiplies_56 : decode cX11_multiplies 56 = .ok (.goto (-54), 3) := by decide +kernel
theorem dX11_multiplies_59 : decode cX11_multiplies 59 = .ok (.iconst 0, 1) := by decide +kernel
theorem dX11_multiplies_60 : decode cX11_multiplies 60 = .ok (.istore_n 1, 1) := by decide +kernel
theorem dX11_multiplies_61 : decode cX11_multiplies 61 = .ok (.iload_n 1, 1) := by decide +kernel
theorem dX11_multiplies_62 : decode cX11_multiplies 62 = .ok (.iconst 4, 1) := by decide +kernel
theorem dX11_multiplies_63 : decode cX11_multiplies 63 = .ok (.if_icmp .ge 21, 3) := by decide +kernel
theorem dX11_multiplies_66 : decode cX11_multiplies 66 = .ok (.aload_n 0, 1) := by decide +kernel
theorem dX11_multiplies_67 : decode cX11_multiplies 67 = .ok (.getfield 22, 3) := by decide +kernel
theorem dX11_multiplies_70 : decode cX11_multiplies 70 = .ok (.iload_n 1, 1) := by decide +kernel
theorem dX11_multiplies_71 : decode cX11_multiplies 71 = .ok (.aload_n 0, 1) := by decide +kernel
theorem dX11_multiplies_72 : decode cX11_multiplies 72 = .ok (.getfield 28, 3) := by decide +kernel
theorem dX11_multiplies_75 : decode cX11_multiplies 75 = .ok (.iload_n 1, 1) := by decide +kernel
theorem dX11_multiplies_76 : decode cX11_multiplies 76 = .ok (.iaload, 1) := by decide +kernel
theorem dX11_multiplies_77 : decode cX11_multiplies 77 = .ok (.iastore, 1) := by decide +kernel
theorem dX11_multiplies_78 : decode cX11_multiplies 78 = .ok (.iinc 1 1, 3) := by decide +kernel
theorem dX11_multiplies_81 : decode cX11_multiplies 81 = .ok (.goto (-20), 3) := by decide +kernel
theorem dX11_multiplies_84 : decode cX11_multiplies 84 = .ok (.return_, 1) := by decide +kernel
theorem dX11_turns_0 : decode cX11_turns 0 = .ok (.iconst 0, 1) := by decide +kernel
theorem dX11_turns_1 : decode cX11_turns 1 = .ok (.istore_n 1, 1) := by decide +kernel
theorem dX11_turns_2 : decode cX11_turns 2 = .ok (.iload_n 1, 1) := by decide +kernel
theorem dX11_turns_3 : decode cX11_turns 3 = .ok (.iconst 4, 1) := by decide +kernel
theorem dX11_turns_4 : decode cX11_turns 4 = .ok (.if_icmp .ge 44, 3) := by decide +kernel
theorem dX11_turns_7 : decode cX11_turns 7 = .ok (.aload_n 0, 1) := by decide +kernel
theorem dX11_turns_8 : decode cX11_turns 8 = .ok (.getfield 28, 3) := by decide +kernel
theorem dX11_turns_11 : decode cX11_turns 11 = .ok (.aload_n 0, 1) := by decide +kernel
theorem dX11_turns_12 : decode cX11_turns 12 = .ok (.getfield 22, 3) := by decide +kernel
theorem dX11_turns_15 : decode cX11_turns 15 = .ok (.iload_n 1, 1) := by decide +kernel
theorem dX11_turns_16 : decode cX11_turns 16 = .ok (.iaload, 1) := by decide +kernel
theorem dX11_turns_17 : decode cX11_turns 17 = .ok (.invokestatic 61, 3) := by decide +kernel
theorem dX11_turns_20 : decode cX11_turns 20 = .ok (.iconst 1, 1) := by decide +kernel
theorem dX11_turns_21 : decode cX11_turns 21 = .ok (.isub, 1) := by decide +kernel
theorem dX11_turns_22 : decode cX11_turns 22 = .ok (.aload_n 0, 1) := by decide +kernel
theorem dX11_turns_23 : decode cX11_turns 23 = .ok (.getfield 22, 3) := by decide +kernel
theorem dX11_turns_26 : decode cX11_turns 26 = .ok (.iload_n 1, 1) := by decide +kernel
theorem dX11_turns_27 : decode cX11_turns 27 = .ok (.iaload, 1) := by decide +kernel
theorem dX11_turns_28 : decode cX11_turns 28 = .ok (.ifCond .ge 10, 3) := by decide +kernel
theorem dX11_turns_31 : decode cX11_turns 31 = .ok (.iload_n 1, 1) := by decide +kernel
theorem dX11_turns_32 : decode cX11_turns 32 = .ok (.ineg, 1) := by decide +kernel
theorem dX11_turns_33 : decode cX11_turns 33 = .ok (.iconst 1, 1) := by decide +kernel
theorem dX11_turns_34 : decode cX11_turns 34 = .ok (.isub, 1) := by decide +kernel
theorem dX11_turns_35 : decode cX11_turns 35 = .ok (.goto 6, 3) := by decide +kernel
theorem dX11_turns_38 : decode cX11_turns 38 = .ok (.iload_n 1, 1) := by decide +kernel
theorem dX11_turns_39 : decode cX11_turns 39 = .ok (.iconst 1, 1) := by decide +kernel
theorem dX11_turns_40 : decode cX11_turns 40 = .ok (.iadd, 1) := by decide +kernel
theorem dX11_turns_41 : decode cX11_turns 41 = .ok (.iastore, 1) := by decide +kernel
theorem dX11_turns_42 : decode cX11_turns 42 = .ok (.iinc 1 1, 3) := by decide +kernel
theorem dX11_turns_45 : decode cX11_turns 45 = .ok (.goto (-43), 3) := by decide +kernel
theorem dX11_turns_48 : decode cX11_turns 48 = .ok (.iconst 0, 1) := by decide +kernel
theorem dX11_turns_49 : decode cX11_turns 49 = .ok (.istore_n 1, 1) := by decide +kernel
theorem dX11_turns_50 : decode cX11_turns 50 = .ok (.iload_n 1, 1) := by decide +kernel
theorem dX11_turns_51 : decode cX11_turns 51 = .ok (.iconst 4, 1) := by decide +kernel
theorem dX11_turns_52 : decode cX11_turns 52 = .ok (.if_icmp .ge 21, 3) := by decide +kernel
theorem dX11_turns_55 : decode cX11_turns 55 = .ok (.aload_n 0, 1) := by decide +kernel
theorem dX11_turns_56 : decode cX11_turns 56 = .ok (.getfield 22, 3) := by decide +kernel
theorem dX11_turns_59 : decode cX11_turns 59 = .ok (.iload_n 1, 1) := by decide +kernel
theorem dX11_turns_60 : decode cX11_turns 60 = .ok (.aload_n 0, 1) := by decide +kernel
theorem dX11_turns_61 : decode cX11_turns 61 = .ok (.getfield 28, 3) := by decide +kernel
theorem dX11_turns_64 : decode cX11_turns 64 = .ok (.iload_n 1, 1) := by decide +kernel
theorem dX11_turns_65 : decode cX11_turns 65 = .ok (.iaload, 1) := by decide +kernel
theorem dX11_turns_66 : decode cX11_turns 66 = .ok (.iastore, 1) := by decide +kernel
theorem dX11_turns_67 : decode cX11_turns 67 = .ok (.iinc 1 1, 3) := by decide +kernel
theorem dX11_turns_70 : decode cX11_turns 70 = .ok (.goto (-20), 3) := by decide +kernel
theorem dX11_turns_73 : decode cX11_turns 73 = .ok (.return_, 1) := by decide +kernel
theorem dX11_words_0 : decode cX11_words 0 = .ok (.aload_n 0, 1) := by decide +kernel
theorem dX11_words_1 : decode cX11_words 1 = .ok (.iconst 0, 1) := by decide +kernel
theorem dX11_words_2 : decode cX11_words 2 = .ok (.putfield 69, 3) := by decide +kernel
theorem dX11_words_5 : decode cX11_words 5 = .ok (.aload_n 0, 1) := by decide +kernel
theorem dX11_words_6 : decode cX11_words 6 = .ok (.invokevirtual 72, 3) := by decide +kernel
theorem dX11_words_9 : decode cX11_words 9 = .ok (.ifCond .ne 62, 3) := by decide +kernel
theorem dX11_words_12 : decode cX11_words 12 = .ok (.aload_n 0, 1) := by decide +kernel
theorem dX11_words_13 : decode cX11_words 13 = .ok (.invokevirtual 65, 3) := by decide +kernel
theorem dX11_words_16 : decode cX11_words 16 = .ok (.istore_n 1, 1) := by decide +kernel
theorem dX11_words_17 : decode cX11_words 17 = .ok (.iconst 0, 1) := by decide +kernel
theorem dX11_words_18 : decode cX11_words 18 = .ok (.istore_n 2, 1) := by decide +kernel
theorem dX11_words_19 : decode cX11_words 19 = .ok (.aload_n 0, 1) := by decide +kernel
theorem dX11_words_20 : decode cX11_words 20 = .ok (.iload_n 2, 1) := by decide +kernel
theorem dX11_words_21 : decode cX11_words 21 = .ok (.invokevirtual 76, 3) := by decide +kernel
theorem dX11_words_24 : decode cX11_words 24 = .ok (.aload_n 0, 1) := by decide +kernel
theorem dX11_words_25 : decode cX11_words 25 = .ok (.invokevirtual 65, 3) := by decide +kernel
theorem dX11_words_28 : decode cX11_words 28 = .ok (.iload_n 1, 1) := by decide +kernel
theorem dX11_words_29 : decode cX11_words 29 = .ok (.if_icmp .le 19, 3) := by decide +kernel
theorem dX11_words_32 : decode cX11_words 32 = .ok (.aload_n 0, 1) := by decide +kernel
theorem dX11_words_33 : decode cX11_words 33 = .ok (.iload_n 2, 1) := by decide +kernel
theorem dX11_words_34 : decode cX11_words 34 = .ok (.invokevirtual 76, 3) := by decide +kernel
theorem dX11_words_37 : decode cX11_words 37 = .ok (.iinc 2 1, 3) := by decide +kernel
theorem dX11_words_40 : decode cX11_words 40 = .ok (.aload_n 0, 1) := by decide +kernel
theorem dX11_words_41 : decode cX11_words 41 = .ok (.iload_n 2, 1) := by decide +kernel
theorem dX11_words_42 : decode cX11_words 42 = .ok (.invokevirtual 76, 3) := by decide +kernel
theorem dX11_words_45 : decode cX11_words 45 = .ok (.goto (-21), 3) := by decide +kernel
theorem dX11_words_48 : decode cX11_words 48 = .ok (.aload_n 0, 1) := by decide +kernel
theorem dX11_words_49 : decode cX11_words 49 = .ok (.getfield 31, 3) := by decide +kernel
theorem dX11_words_52 : decode cX11_words 52 = .ok (.aload_n 0, 1) := by decide +kernel
theorem dX11_words_53 : decode cX11_words 53 = .ok (.getfield 69, 3) := by decide +kernel
theorem dX11_words_56 : decode cX11_words 56 = .ok (.iload_n 2, 1) := by decide +kernel
theorem dX11_words_57 : decode cX11_words 57 = .ok (.iastore, 1) := by decide +kernel
theorem dX11_words_58 : decode cX11_words 58 = .ok (.aload_n 0, 1) := by decide +kernel
theorem dX11_words_59 : decode cX11_words 59 = .ok (.dup, 1) := by decide +kernel
theorem dX11_words_60 : decode cX11_words 60 = .ok (.getfield 69, 3) := by decide +kernel
theorem dX11_words_63 : decode cX11_words 63 = .ok (.iconst 1, 1) := by decide +kernel
theorem dX11_words_64 : decode cX11_words 64 = .ok (.iadd, 1) := by decide +kernel
theorem dX11_words_65 : decode cX11_words 65 = .ok (.putfield 69, 3) := by decide +kernel
theorem dX11_words_68 : decode cX11_words 68 = .ok (.goto (-63), 3) := by decide +kernel
theorem dX11_words_71 : decode cX11_words 71 = .ok (.return_, 1) := by decide +kernel
theorem dX11_lengthOf_0 : decode cX11_lengthOf 0 = .ok (.aload_n 0, 1) := by decide +kernel
theorem dX11_lengthOf_1 : decode cX11_lengthOf 1 = .ok (.iload_n 1, 1) := by decide +kernel
theorem dX11_lengthOf_2 : decode cX11_lengthOf 2 = .ok (.invokevirtual 80, 3) := by decide +kernel
theorem dX11_lengthOf_5 : decode cX11_lengthOf 5 = .ok (.aload_n 0, 1) := by decide +kernel
theorem dX11_lengthOf_6 : decode cX11_lengthOf 6 = .ok (.invokevirtual 65, 3) := by decide +kernel
theorem dX11_lengthOf_9 : decode cX11_lengthOf 9 = .ok (.ireturn, 1) := by decide +kernel
theorem dX11_lengths_0 : decode cX11_lengths 0 = .ok (.iconst 0, 1) := by decide +kernel
theorem dX11_lengths_1 : decode cX11_lengths 1 = .ok (.istore_n 1, 1) := by decide +kernel
theorem dX11_lengths_2 : decode cX11_lengths 2 = .ok (.iconst 0, 1) := by decide +kernel
theorem dX11_lengths_3 : decode cX11_lengths 3 = .ok (.istore_n 2, 1) := by decide +kernel
theorem dX11_lengths_4 : decode cX11_lengths 4 = .ok (.iload_n 2, 1) := by decide +kernel
theorem dX11_lengths_5 : decode cX11_lengths 5 = .ok (.iconst 5, 1) := by decide +kernel
theorem dX11_lengths_6 : decode cX11_lengths 6 = .ok (.if_icmp .ge 17, 3) := by decide +kernel
theorem dX11_lengths_9 : decode cX11_lengths 9 = .ok (.iload_n 1, 1) := by decide +kernel
theorem dX11_lengths_10 : decode cX11_lengths 10 = .ok (.aload_n 0, 1) := by decide +kernel
theorem dX11_lengths_11 : decode cX11_lengths 11 = .ok (.iload_n 2, 1) := by decide +kernel
theorem dX11_lengths_12 : decode cX11_lengths 12 = .ok (.invokevirtual 83, 3) := by decide +kernel
theorem dX11_lengths_15 : decode cX11_lengths 15 = .ok (.iadd, 1) := by decide +kernel
theorem dX11_lengths_16 : decode cX11_lengths 16 = .ok (.istore_n 1, 1) := by decide +kernel
theorem dX11_lengths_17 : decode cX11_lengths 17 = .ok (.iinc 2 1, 3) := by decide +kernel
theorem dX11_lengths_20 : decode cX11_lengths 20 = .ok (.goto (-16), 3) := by decide +kernel
theorem dX11_lengths_23 : decode cX11_lengths 23 = .ok (.iload_n 1, 1) := by decide +kernel
theorem dX11_lengths_24 : decode cX11_lengths 24 = .ok (.ireturn, 1) := by decide +kernel
theorem dX11_foldedBack_0 : decode cX11_foldedBack 0 = .ok (.aload_n 0, 1) := by decide +kernel
theorem dX11_foldedBack_1 : decode cX11_foldedBack 1 = .ok (.iload_n 1, 1) := by decide +kernel
theorem dX11_foldedBack_2 : decode cX11_foldedBack 2 = .ok (.invokevirtual 80, 3) := by decide +kernel
theorem dX11_foldedBack_5 : decode cX11_foldedBack 5 = .ok (.iconst 0, 1) := by decide +kernel
theorem dX11_foldedBack_6 : decode cX11_foldedBack 6 = .ok (.istore_n 2, 1) := by decide +kernel
theorem dX11_foldedBack_7 : decode cX11_foldedBack 7 = .ok (.iconst 0, 1) := by decide +kernel
theorem dX11_foldedBack_8 : decode cX11_foldedBack 8 = .ok (.istore_n 3, 1) := by decide +kernel
theorem dX11_foldedBack_9 : decode cX11_foldedBack 9 = .ok (.iload_n 3, 1) := by decide +kernel
theorem dX11_foldedBack_10 : decode cX11_foldedBack 10 = .ok (.iconst 4, 1) := by decide +kernel
theorem dX11_foldedBack_11 : decode cX11_foldedBack 11 = .ok (.if_icmp .ge 42, 3) := by decide +kernel
theorem dX11_foldedBack_14 : decode cX11_foldedBack 14 = .ok (.aload_n 0, 1) := by decide +kernel
theorem dX11_foldedBack_15 : decode cX11_foldedBack 15 = .ok (.invokevirtual 65, 3) := by decide +kernel
theorem dX11_foldedBack_18 : decode cX11_foldedBack 18 = .ok (.istore 4, 2) := by decide +kernel
theorem dX11_foldedBack_20 : decode cX11_foldedBack 20 = .ok (.aload_n 0, 1) := by decide +kernel
theorem dX11_foldedBack_21 : decode cX11_foldedBack 21 = .ok (.iload_n 3, 1) := by decide +kernel
theorem dX11_foldedBack_22 : decode cX11_foldedBack 22 = .ok (.invokevirtual 86, 3) := by decide +kernel
theorem dX11_foldedBack_25 : decode cX11_foldedBack 25 = .ok (.aload_n 0, 1) := by decide +kernel
theorem dX11_foldedBack_26 : decode cX11_foldedBack 26 = .ok (.invokevirtual 65, 3) := by decide +kernel
theorem dX11_foldedBack_29 : decode cX11_foldedBack 29 = .ok (.iload 4, 2) := by decide +kernel
theorem dX11_foldedBack_31 : decode cX11_foldedBack 31 = .ok (.if_icmp .ge 11, 3) := by decide +kernel
theorem dX11_foldedBack_34 : decode cX11_foldedBack 34 = .ok (.iinc 2 1, 3) := by decide +kernel
theorem dX11_foldedBack_37 : decode cX11_foldedBack 37 = .ok (.iconst 0, 1) := by decide +kernel
theorem dX11_foldedBack_38 : decode cX11_foldedBack 38 = .ok (.istore_n 3, 1) := by decide +kernel
theorem dX11_foldedBack_39 : decode cX11_foldedBack 39 = .ok (.goto 11, 3) := by decide +kernel
theorem dX11_foldedBack_42 : decode cX11_foldedBack 42 = .ok (.aload_n 0, 1) := by decide +kernel
theorem dX11_foldedBack_43 : decode cX11_foldedBack 43 = .ok (.iload_n 3, 1) := by decide +kernel
theorem dX11_foldedBack_44 : decode cX11_foldedBack 44 = .ok (.invokevirtual 86, 3) := by decide +kernel
theorem dX11_foldedBack_47 : decode cX11_foldedBack 47 = .ok (.iinc 3 1, 3) := by decide +kernel
theorem dX11_foldedBack_50 : decode cX11_foldedBack 50 = .ok (.goto (-41), 3) := by decide +kernel
theorem dX11_foldedBack_53 : decode cX11_foldedBack 53 = .ok (.iload_n 2, 1) := by decide +kernel
theorem dX11_foldedBack_54 : decode cX11_foldedBack 54 = .ok (.ireturn, 1) := by decide +kernel
theorem dX11_period_0 : decode cX11_period 0 = .ok (.aload_n 0, 1) := by decide +kernel
theorem dX11_period_1 : decode cX11_period 1 = .ok (.iload_n 1, 1) := by decide +kernel
theorem dX11_period_2 : decode cX11_period 2 = .ok (.invokevirtual 80, 3) := by decide +kernel
theorem dX11_period_5 : decode cX11_period 5 = .ok (.aload_n 0, 1) := by decide +kernel
theorem dX11_period_6 : decode cX11_period 6 = .ok (.iload_n 1, 1) := by decide +kernel
theorem dX11_period_7 : decode cX11_period 7 = .ok (.invokevirtual 89, 3) := by decide +kernel
theorem dX11_period_10 : decode cX11_period 10 = .ok (.iconst 1, 1) := by decide +kernel
theorem dX11_period_11 : decode cX11_period 11 = .ok (.istore_n 2, 1) := by decide +kernel
theorem dX11_period_12 : decode cX11_period 12 = .ok (.aload_n 0, 1) := by decide +kernel
theorem dX11_period_13 : decode cX11_period 13 = .ok (.invokevirtual 72, 3) := by decide +kernel
theorem dX11_period_16 : decode cX11_period 16 = .ok (.ifCond .ne 13, 3) := by decide +kernel
theorem dX11_period_19 : decode cX11_period 19 = .ok (.aload_n 0, 1) := by decide +kernel
theorem dX11_period_20 : decode cX11_period 20 = .ok (.invokevirtual 92, 3) := by decide +kernel
theorem dX11_period_23 : decode cX11_period 23 = .ok (.iinc 2 1, 3) := by decide +kernel
theorem dX11_period_26 : decode cX11_period 26 = .ok (.goto (-14), 3) := by decide +kernel
theorem dX11_period_29 : decode cX11_period 29 = .ok (.iload_n 2, 1) := by decide +kernel
theorem dX11_period_30 : decode cX11_period 30 = .ok (.ireturn, 1) := by decide +kernel
theorem dX11_isMirror_0 : decode cX11_isMirror 0 = .ok (.iconst 0, 1) := by decide +kernel
theorem dX11_isMirror_1 : decode cX11_isMirror 1 = .ok (.istore_n 2, 1) := by decide +kernel
theorem dX11_isMirror_2 : decode cX11_isMirror 2 = .ok (.iconst 0, 1) := by decide +kernel
theorem dX11_isMirror_3 : decode cX11_isMirror 3 = .ok (.istore_n 3, 1) := by decide +kernel
theorem dX11_isMirror_4 : decode cX11_isMirror 4 = .ok (.iconst (-1), 1) := by decide +kernel
theorem dX11_isMirror_5 : decode cX11_isMirror 5 = .ok (.istore 4, 2) := by decide +kernel
theorem dX11_isMirror_7 : decode cX11_isMirror 7 = .ok (.iconst (-1), 1) := by decide +kernel
theorem dX11_isMirror_8 : decode cX11_isMirror 8 = .ok (.istore 5, 2) := by decide +kernel
theorem dX11_isMirror_10 : decode cX11_isMirror 10 = .ok (.iconst 0, 1) := by decide +kernel
theorem dX11_isMirror_11 : decode cX11_isMirror 11 = .ok (.istore 6, 2) := by decide +kernel
theorem dX11_isMirror_13 : decode cX11_isMirror 13 = .ok (.iload 6, 2) := by decide +kernel
theorem dX11_isMirror_15 : decode cX11_isMirror 15 = .ok (.iconst 4, 1) := by decide +kernel
theorem dX11_isMirror_16 : decode cX11_isMirror 16 = .ok (.if_icmp .ge 61, 3) := by decide +kernel
theorem dX11_isMirror_19 : decode cX11_isMirror 19 = .ok (.aload_n 0, 1) := by decide +kernel
theorem dX11_isMirror_20 : decode cX11_isMirror 20 = .ok (.iload_n 1, 1) := by decide +kernel
theorem dX11_isMirror_21 : decode cX11_isMirror 21 = .ok (.iload 6, 2) := by decide +kernel
theorem dX11_isMirror_23 : decode cX11_isMirror 23 = .ok (.invokevirtual 57, 3) := by decide +kernel
theorem dX11_isMirror_26 : decode cX11_isMirror 26 = .ok (.istore 7, 2) := by decide +kernel
theorem dX11_isMirror_28 : decode cX11_isMirror 28 = .ok (.iload 7, 2) := by decide +kernel
theorem dX11_isMirror_30 : decode cX11_isMirror 30 = .ok (.iload 6, 2) := by decide +kernel
theorem dX11_isMirror_32 : decode cX11_isMirror 32 = .ok (.iconst 1, 1) := by decide +kernel
theorem dX11_isMirror_33 : decode cX11_isMirror 33 = .ok (.iadd, 1) := by decide +kernel
theorem dX11_isMirror_34 : decode cX11_isMirror 34 = .ok (.if_icmp .eq 37, 3) := by decide +kernel
theorem dX11_isMirror_37 : decode cX11_isMirror 37 = .ok (.iload 4, 2) := by decide +kernel
theorem dX11_isMirror_39 : decode cX11_isMirror 39 = .ok (.ifCond .ge 8, 3) := by decide +kernel
theorem dX11_isMirror_42 : decode cX11_isMirror 42 = .ok (.iload 6, 2) := by decide +kernel
theorem dX11_isMirror_44 : decode cX11_isMirror 44 = .ok (.goto 5, 3) := by decide +kernel
theorem dX11_isMirror_47 : decode cX11_isMirror 47 = .ok (.iload 4, 2) := by decide +kernel
theorem dX11_isMirror_49 : decode cX11_isMirror 49 = .ok (.istore 4, 2) := by decide +kernel
theorem dX11_isMirror_51 : decode cX11_isMirror 51 = .ok (.iload 6, 2) := by decide +kernel
theorem dX11_isMirror_53 : decode cX11_isMirror 53 = .ok (.istore 5, 2) := by decide +kernel
theorem dX11_isMirror_55 : decode cX11_isMirror 55 = .ok (.iinc 2 1, 3) := by decide +kernel
theorem dX11_isMirror_58 : decode cX11_isMirror 58 = .ok (.iload_n 3, 1) := by decide +kernel
theorem dX11_isMirror_59 : decode cX11_isMirror 59 = .ok (.iload 7, 2) := by decide +kernel
theorem dX11_isMirror_61 : decode cX11_isMirror 61 = .ok (.ifCond .ge 7, 3) := by decide +kernel
theorem dX11_isMirror_64 : decode cX11_isMirror 64 = .ok (.iconst 1, 1) := by decide +kernel
theorem dX11_isMirror_65 : decode cX11_isMirror 65 = .ok (.goto 4, 3) := by decide +kernel
theorem dX11_isMirror_68 : decode cX11_isMirror 68 = .ok (.iconst 0, 1) := by decide +kernel
theorem dX11_isMirror_69 : decode cX11_isMirror 69 = .ok (.iadd, 1) := by decide +kernel
theorem dX11_isMirror_70 : decode cX11_isMirror 70 = .ok (.istore_n 3, 1) := by decide +kernel
theorem dX11_isMirror_71 : decode cX11_isMirror 71 = .ok (.iinc 6 1, 3) := by decide +kernel
theorem dX11_isMirror_74 : decode cX11_isMirror 74 = .ok (.goto (-61), 3) := by decide +kernel
theorem dX11_isMirror_77 : decode cX11_isMirror 77 = .ok (.iload_n 2, 1) := by decide +kernel
theorem dX11_isMirror_78 : decode cX11_isMirror 78 = .ok (.iconst 1, 1) := by decide +kernel
theorem dX11_isMirror_79 : decode cX11_isMirror 79 = .ok (.if_icmp .ne 7, 3) := by decide +kernel
theorem dX11_isMirror_82 : decode cX11_isMirror 82 = .ok (.iconst 1, 1) := by decide +kernel
theorem dX11_isMirror_83 : decode cX11_isMirror 83 = .ok (.goto 4, 3) := by decide +kernel
theorem dX11_isMirror_86 : decode cX11_isMirror 86 = .ok (.iconst 0, 1) := by decide +kernel
theorem dX11_isMirror_87 : decode cX11_isMirror 87 = .ok (.istore 6, 2) := by decide +kernel
theorem dX11_isMirror_89 : decode cX11_isMirror 89 = .ok (.iload_n 2, 1) := by decide +kernel
theorem dX11_isMirror_90 : decode cX11_isMirror 90 = .ok (.iconst 2, 1) := by decide +kernel
theorem dX11_isMirror_91 : decode cX11_isMirror 91 = .ok (.if_icmp .ne 29, 3) := by decide +kernel
theorem dX11_isMirror_94 : decode cX11_isMirror 94 = .ok (.aload_n 0, 1) := by decide +kernel
theorem dX11_isMirror_95 : decode cX11_isMirror 95 = .ok (.iload_n 1, 1) := by decide +kernel
theorem dX11_isMirror_96 : decode cX11_isMirror 96 = .ok (.iload 4, 2) := by decide +kernel
theorem dX11_isMirror_98 : decode cX11_isMirror 98 = .ok (.invokevirtual 57, 3) := by decide +kernel
theorem dX11_isMirror_101 : decode cX11_isMirror 101 = .ok (.invokestatic 61, 3) := by decide +kernel
theorem dX11_isMirror_104 : decode cX11_isMirror 104 = .ok (.iload 5, 2) := by decide +kernel
theorem dX11_isMirror_106 : decode cX11_isMirror 106 = .ok (.iconst 1, 1) := by decide +kernel
theorem dX11_isMirror_107 : decode cX11_isMirror 107 = .ok (.iadd, 1) := by decide +kernel
theorem dX11_isMirror_108 : decode cX11_isMirror 108 = .ok (.if_icmp .ne 12, 3) := by decide +kernel
theorem dX11_isMirror_111 : decode cX11_isMirror 111 = .ok (.iload_n 3, 1) := by decide +kernel
theorem dX11_isMirror_112 : decode cX11_isMirror 112 = .ok (.iconst 1, 1) := by decide +kernel
theorem dX11_isMirror_113 : decode cX11_isMirror 113 = .ok (.if_icmp .eq 7, 3) := by decide +kernel
theorem dX11_isMirror_116 : decode cX11_isMirror 116 = .ok (.iconst 1, 1) := by decide +kernel
theorem dX11_isMirror_117 : decode cX11_isMirror 117 = .ok (.goto 4, 3) := by decide +kernel
theorem dX11_isMirror_120 : decode cX11_isMirror 120 = .ok (.iconst 0, 1) := by decide +kernel
theorem dX11_isMirror_121 : decode cX11_isMirror 121 = .ok (.istore 7, 2) := by decide +kernel
theorem dX11_isMirror_123 : decode cX11_isMirror 123 = .ok (.iload 6, 2) := by decide +kernel
theorem dX11_isMirror_125 : decode cX11_isMirror 125 = .ok (.ifCond .ne 8, 3) := by decide +kernel
theorem dX11_isMirror_128 : decode cX11_isMirror 128 = .ok (.iload 7, 2) := by decide +kernel
theorem dX11_isMirror_130 : decode cX11_isMirror 130 = .ok (.ifCond .eq 7, 3) := by decide +kernel
theorem dX11_isMirror_133 : decode cX11_isMirror 133 = .ok (.iconst 1, 1) := by decide +kernel
theorem dX11_isMirror_134 : decode cX11_isMirror 134 = .ok (.goto 4, 3) := by decide +kernel
theorem dX11_isMirror_137 : decode cX11_isMirror 137 = .ok (.iconst 0, 1) := by decide +kernel
theorem dX11_isMirror_138 : decode cX11_isMirror 138 = .ok (.ireturn, 1) := by decide +kernel
theorem dX11_distanceOf_0 : decode cX11_distanceOf 0 = .ok (.aload_n 0, 1) := by decide +kernel
theorem dX11_distanceOf_1 : decode cX11_distanceOf 1 = .ok (.iload_n 1, 1) := by decide +kernel
theorem dX11_distanceOf_2 : decode cX11_distanceOf 2 = .ok (.invokevirtual 80, 3) := by decide +kernel
theorem dX11_distanceOf_5 : decode cX11_distanceOf 5 = .ok (.aload_n 0, 1) := by decide +kernel
theorem dX11_distanceOf_6 : decode cX11_distanceOf 6 = .ok (.invokevirtual 95, 3) := by decide +kernel
theorem dX11_distanceOf_9 : decode cX11_distanceOf 9 = .ok (.aload_n 0, 1) := by decide +kernel
theorem dX11_distanceOf_10 : decode cX11_distanceOf 10 = .ok (.iload_n 2, 1) := by decide +kernel
theorem dX11_distanceOf_11 : decode cX11_distanceOf 11 = .ok (.invokevirtual 89, 3) := by decide +kernel
theorem dX11_distanceOf_14 : decode cX11_distanceOf 14 = .ok (.aload_n 0, 1) := by decide +kernel
theorem dX11_distanceOf_15 : decode cX11_distanceOf 15 = .ok (.invokevirtual 92, 3) := by decide +kernel
theorem dX11_distanceOf_18 : decode cX11_distanceOf 18 = .ok (.aload_n 0, 1) := by decide +kernel
theorem dX11_distanceOf_19 : decode cX11_distanceOf 19 = .ok (.invokevirtual 65, 3) := by decide +kernel
theorem dX11_distanceOf_22 : decode cX11_distanceOf 22 = .ok (.ireturn, 1) := by decide +kernel
theorem dX11_touches_0 : decode cX11_touches 0 = .ok (.aload_n 0, 1) := by decide +kernel
theorem dX11_touches_1 : decode cX11_touches 1 = .ok (.iload_n 1, 1) := by decide +kernel
theorem dX11_touches_2 : decode cX11_touches 2 = .ok (.iconst 5, 1) := by decide +kernel
theorem dX11_touches_3 : decode cX11_touches 3 = .ok (.invokevirtual 57, 3) := by decide +kernel
theorem dX11_touches_6 : decode cX11_touches 6 = .ok (.istore_n 3, 1) := by decide +kernel
theorem dX11_touches_7 : decode cX11_touches 7 = .ok (.iload_n 2, 1) := by decide +kernel
theorem dX11_touches_8 : decode cX11_touches 8 = .ok (.ifCond .ne 18, 3) := by decide +kernel
theorem dX11_touches_11 : decode cX11_touches 11 = .ok (.iload_n 3, 1) := by decide +kernel
theorem dX11_touches_12 : decode cX11_touches 12 = .ok (.iconst 1, 1) := by decide +kernel
theorem dX11_touches_13 : decode cX11_touches 13 = .ok (.iand, 1) := by decide +kernel
theorem dX11_touches_14 : decode cX11_touches 14 = .ok (.iconst 1, 1) := by decide +kernel
theorem dX11_touches_15 : decode cX11_touches 15 = .ok (.if_icmp .ne 7, 3) := by decide +kernel
theorem dX11_touches_18 : decode cX11_touches 18 = .ok (.iconst 1, 1) := by decide +kernel
theorem dX11_touches_19 : decode cX11_touches 19 = .ok (.goto 22, 3) := by decide +kernel
theorem dX11_touches_22 : decode cX11_touches 22 = .ok (.iconst 0, 1) := by decide +kernel
theorem dX11_touches_23 : decode cX11_touches 23 = .ok (.goto 18, 3) := by decide +kernel
theorem dX11_touches_26 : decode cX11_touches 26 = .ok (.iload_n 3, 1) := by decide +kernel
theorem dX11_touches_27 : decode cX11_touches 27 = .ok (.iload_n 2, 1) := by decide +kernel
theorem dX11_touches_28 : decode cX11_touches 28 = .ok (.iconst 1, 1) := by decide +kernel
theorem dX11_touches_29 : decode cX11_touches 29 = .ok (.isub, 1) := by decide +kernel
theorem dX11_touches_30 : decode cX11_touches 30 = .ok (.ishr, 1) := by decide +kernel
theorem dX11_touches_31 : decode cX11_touches 31 = .ok (.iconst 3, 1) := by decide +kernel
theorem dX11_touches_32 : decode cX11_touches 32 = .ok (.iand, 1) := by decide +kernel
theorem dX11_touches_33 : decode cX11_touches 33 = .ok (.ifCond .eq 7, 3) := by decide +kernel
theorem dX11_touches_36 : decode cX11_touches 36 = .ok (.iconst 1, 1) := by decide +kernel
theorem dX11_touches_37 : decode cX11_touches 37 = .ok (.goto 4, 3) := by decide +kernel
theorem dX11_touches_40 : decode cX11_touches 40 = .ok (.iconst 0, 1) := by decide +kernel
theorem dX11_touches_41 : decode cX11_touches 41 = .ok (.ireturn, 1) := by decide +kernel
theorem dX11_reason_0 : decode cX11_reason 0 = .ok (.aload_n 0, 1) := by decide +kernel
theorem dX11_reason_1 : decode cX11_reason 1 = .ok (.iload_n 1, 1) := by decide +kernel
theorem dX11_reason_2 : decode cX11_reason 2 = .ok (.iconst 4, 1) := by decide +kernel
theorem dX11_reason_3 : decode cX11_reason 3 = .ok (.invokevirtual 57, 3) := by decide +kernel
theorem dX11_reason_6 : decode cX11_reason 6 = .ok (.bipush 60, 2) := by decide +kernel
theorem dX11_reason_8 : decode cX11_reason 8 = .ok (.if_icmp .ne 7, 3) := by decide +kernel
theorem dX11_reason_11 : decode cX11_reason 11 = .ok (.iconst 1, 1) := by decide +kernel
theorem dX11_reason_12 : decode cX11_reason 12 = .ok (.goto 17, 3) := by decide +kernel
theorem dX11_reason_15 : decode cX11_reason 15 = .ok (.aload_n 0, 1) := by decide +kernel
theorem dX11_reason_16 : decode cX11_reason 16 = .ok (.iload_n 1, 1) := by decide +kernel
theorem dX11_reason_17 : decode cX11_reason 17 = .ok (.iload_n 2, 1) := by decide +kernel
theorem dX11_reason_18 : decode cX11_reason 18 = .ok (.invokevirtual 98, 3) := by decide +kernel
theorem dX11_reason_21 : decode cX11_reason 21 = .ok (.ifCond .eq 7, 3) := by decide +kernel
theorem dX11_reason_24 : decode cX11_reason 24 = .ok (.iconst 2, 1) := by decide +kernel
theorem dX11_reason_25 : decode cX11_reason 25 = .ok (.goto 4, 3) := by decide +kernel
theorem dX11_reason_28 : decode cX11_reason 28 = .ok (.iconst 0, 1) := by decide +kernel
theorem dX11_reason_29 : decode cX11_reason 29 = .ok (.ireturn, 1) := by decide +kernel
theorem dX11_lays_0 : decode cX11_lays 0 = .ok (.iconst 0, 1) := by decide +kernel
theorem dX11_lays_1 : decode cX11_lays 1 = .ok (.istore_n 2, 1) := by decide +kernel
theorem dX11_lays_2 : decode cX11_lays 2 = .ok (.iload_n 2, 1) := by decide +kernel
theorem dX11_lays_3 : decode cX11_lays 3 = .ok (.iconst 4, 1) := by decide +kernel
theorem dX11_lays_4 : decode cX11_lays 4 = .ok (.if_icmp .ge 26, 3) := by decide +kernel
theorem dX11_lays_7 : decode cX11_lays 7 = .ok (.aload_n 0, 1) := by decide +kernel
theorem dX11_lays_8 : decode cX11_lays 8 = .ok (.getfield 7, 3) := by decide +kernel
theorem dX11_lays_11 : decode cX11_lays 11 = .ok (.bipush 67, 2) := by decide +kernel
theorem dX11_lays_13 : decode cX11_lays 13 = .ok (.iload_n 1, 1) := by decide +kernel
theorem dX11_lays_14 : decode cX11_lays 14 = .ok (.imul, 1) := by decide +kernel
theorem dX11_lays_15 : decode cX11_lays 15 = .ok (.iload_n 2, 1) := by decide +kernel
theorem dX11_lays_16 : decode cX11_lays 16 = .ok (.iadd, 1) := by decide +kernel
theorem dX11_lays_17 : decode cX11_lays 17 = .ok (.aload_n 0, 1) := by decide +kernel
theorem dX11_lays_18 : decode cX11_lays 18 = .ok (.getfield 22, 3) := by decide +kernel
theorem dX11_lays_21 : decode cX11_lays 21 = .ok (.iload_n 2, 1) := by decide +kernel
theorem dX11_lays_22 : decode cX11_lays 22 = .ok (.iaload, 1) := by decide +kernel
theorem dX11_lays_23 : decode cX11_lays 23 = .ok (.iastore, 1) := by decide +kernel
theorem dX11_lays_24 : decode cX11_lays 24 = .ok (.iinc 2 1, 3) := by decide +kernel
theorem dX11_lays_27 : decode cX11_lays 27 = .ok (.goto (-25), 3) := by decide +kernel
theorem dX11_lays_30 : decode cX11_lays 30 = .ok (.return_, 1) := by decide +kernel
theorem dX11_turnsOver_0 : decode cX11_turnsOver 0 = .ok (.aload_n 0, 1) := by decide +kernel
theorem dX11_turnsOver_1 : decode cX11_turnsOver 1 = .ok (.iload_n 1, 1) := by decide +kernel
theorem dX11_turnsOver_2 : decode cX11_turnsOver 2 = .ok (.invokevirtual 80, 3) := by decide +kernel
theorem dX11_turnsOver_5 : decode cX11_turnsOver 5 = .ok (.aload_n 0, 1) := by decide +kernel
theorem dX11_turnsOver_6 : decode cX11_turnsOver 6 = .ok (.iload_n 2, 1) := by decide +kernel
theorem dX11_turnsOver_7 : decode cX11_turnsOver 7 = .ok (.invokevirtual 86, 3) := by decide +kernel
theorem dX11_turnsOver_10 : decode cX11_turnsOver 10 = .ok (.aload_n 0, 1) := by decide +kernel
theorem dX11_turnsOver_11 : decode cX11_turnsOver 11 = .ok (.iload_n 1, 1) := by decide +kernel
theorem dX11_turnsOver_12 : decode cX11_turnsOver 12 = .ok (.invokevirtual 102, 3) := by decide +kernel
theorem dX11_turnsOver_15 : decode cX11_turnsOver 15 = .ok (.aload_n 0, 1) := by decide +kernel
theorem dX11_turnsOver_16 : decode cX11_turnsOver 16 = .ok (.getfield 7, 3) := by decide +kernel
theorem dX11_turnsOver_19 : decode cX11_turnsOver 19 = .ok (.bipush 67, 2) := by decide +kernel
theorem dX11_turnsOver_21 : decode cX11_turnsOver 21 = .ok (.iload_n 1, 1) := by decide +kernel
theorem dX11_turnsOver_22 : decode cX11_turnsOver 22 = .ok (.imul, 1) := by decide +kernel
theorem dX11_turnsOver_23 : decode cX11_turnsOver 23 = .ok (.bipush 6, 2) := by decide +kernel
theorem dX11_turnsOver_25 : decode cX11_turnsOver 25 = .ok (.iadd, 1) := by decide +kernel
theorem dX11_turnsOver_26 : decode cX11_turnsOver 26 = .ok (.dup2, 1) := by decide +kernel
theorem dX11_turnsOver_27 : decode cX11_turnsOver 27 = .ok (.iaload, 1) := by decide +kernel
theorem dX11_turnsOver_28 : decode cX11_turnsOver 28 = .ok (.iconst 1, 1) := by decide +kernel
theorem dX11_turnsOver_29 : decode cX11_turnsOver 29 = .ok (.iadd, 1) := by decide +kernel
theorem dX11_turnsOver_30 : decode cX11_turnsOver 30 = .ok (.iastore, 1) := by decide +kernel
theorem dX11_turnsOver_31 : decode cX11_turnsOver 31 = .ok (.return_, 1) := by decide +kernel
theorem dX11_folds_0 : decode cX11_folds 0 = .ok (.aload_n 0, 1) := by decide +kernel
theorem dX11_folds_1 : decode cX11_folds 1 = .ok (.iload_n 1, 1) := by decide +kernel
theorem dX11_folds_2 : decode cX11_folds 2 = .ok (.iload_n 2, 1) := by decide +kernel
theorem dX11_folds_3 : decode cX11_folds 3 = .ok (.invokevirtual 105, 3) := by decide +kernel
theorem dX11_folds_6 : decode cX11_folds 6 = .ok (.aload_n 0, 1) := by decide +kernel
theorem dX11_folds_7 : decode cX11_folds 7 = .ok (.getfield 7, 3) := by decide +kernel
theorem dX11_folds_10 : decode cX11_folds 10 = .ok (.bipush 67, 2) := by decide +kernel
theorem dX11_folds_12 : decode cX11_folds 12 = .ok (.iload_n 1, 1) := by decide +kernel
theorem dX11_folds_13 : decode cX11_folds 13 = .ok (.imul, 1) := by decide +kernel
theorem dX11_folds_14 : decode cX11_folds 14 = .ok (.bipush 7, 2) := by decide +kernel
theorem dX11_folds_16 : decode cX11_folds 16 = .ok (.iadd, 1) := by decide +kernel
theorem dX11_folds_17 : decode cX11_folds 17 = .ok (.aload_n 0, 1) := by decide +kernel
theorem dX11_folds_18 : decode cX11_folds 18 = .ok (.iload_n 1, 1) := by decide +kernel
theorem dX11_folds_19 : decode cX11_folds 19 = .ok (.iconst 4, 1) := by decide +kernel
theorem dX11_folds_20 : decode cX11_folds 20 = .ok (.invokevirtual 57, 3) := by decide +kernel
theorem dX11_folds_23 : decode cX11_folds 23 = .ok (.iadd, 1) := by decide +kernel
theorem dX11_folds_24 : decode cX11_folds 24 = .ok (.iload_n 2, 1) := by decide +kernel
theorem dX11_folds_25 : decode cX11_folds 25 = .ok (.iastore, 1) := by decide +kernel
theorem dX11_folds_26 : decode cX11_folds 26 = .ok (.aload_n 0, 1) := by decide +kernel
theorem dX11_folds_27 : decode cX11_folds 27 = .ok (.getfield 7, 3) := by decide +kernel
theorem dX11_folds_30 : decode cX11_folds 30 = .ok (.bipush 67, 2) := by decide +kernel
theorem dX11_folds_32 : decode cX11_folds 32 = .ok (.iload_n 1, 1) := by decide +kernel
theorem dX11_folds_33 : decode cX11_folds 33 = .ok (.imul, 1) := by decide +kernel
theorem dX11_folds_34 : decode cX11_folds 34 = .ok (.iconst 4, 1) := by decide +kernel
theorem dX11_folds_35 : decode cX11_folds 35 = .ok (.iadd, 1) := by decide +kernel
theorem dX11_folds_36 : decode cX11_folds 36 = .ok (.dup2, 1) := by decide +kernel
theorem dX11_folds_37 : decode cX11_folds 37 = .ok (.iaload, 1) := by decide +kernel
theorem dX11_folds_38 : decode cX11_folds 38 = .ok (.iconst 1, 1) := by decide +kernel
theorem dX11_folds_39 : decode cX11_folds 39 = .ok (.iadd, 1) := by decide +kernel
theorem dX11_folds_40 : decode cX11_folds 40 = .ok (.iastore, 1) := by decide +kernel
theorem dX11_folds_41 : decode cX11_folds 41 = .ok (.return_, 1) := by decide +kernel
theorem dX11_presses_0 : decode cX11_presses 0 = .ok (.aload_n 0, 1) := by decide +kernel
theorem dX11_presses_1 : decode cX11_presses 1 = .ok (.iload_n 1, 1) := by decide +kernel
theorem dX11_presses_2 : decode cX11_presses 2 = .ok (.invokevirtual 80, 3) := by decide +kernel
theorem dX11_presses_5 : decode cX11_presses 5 = .ok (.aload_n 0, 1) := by decide +kernel
theorem dX11_presses_6 : decode cX11_presses 6 = .ok (.invokevirtual 109, 3) := by decide +kernel
theorem dX11_presses_9 : decode cX11_presses 9 = .ok (.aload_n 0, 1) := by decide +kernel
theorem dX11_presses_10 : decode cX11_presses 10 = .ok (.getfield 7, 3) := by decide +kernel
theorem dX11_presses_13 : decode cX11_presses 13 = .ok (.bipush 67, 2) := by decide +kernel
theorem dX11_presses_15 : decode cX11_presses 15 = .ok (.iload_n 1, 1) := by decide +kernel
theorem dX11_presses_16 : decode cX11_presses 16 = .ok (.imul, 1) := by decide +kernel
theorem dX11_presses_17 : decode cX11_presses 17 = .ok (.iconst 4, 1) := by decide +kernel
theorem dX11_presses_18 : decode cX11_presses 18 = .ok (.iadd, 1) := by decide +kernel
theorem dX11_presses_19 : decode cX11_presses 19 = .ok (.aload_n 0, 1) := by decide +kernel
theorem dX11_presses_20 : decode cX11_presses 20 = .ok (.getfield 69, 3) := by decide +kernel
theorem dX11_presses_23 : decode cX11_presses 23 = .ok (.iastore, 1) := by decide +kernel
theorem dX11_presses_24 : decode cX11_presses 24 = .ok (.iconst 0, 1) := by decide +kernel
theorem dX11_presses_25 : decode cX11_presses 25 = .ok (.istore_n 2, 1) := by decide +kernel
theorem dX11_presses_26 : decode cX11_presses 26 = .ok (.iload_n 2, 1) := by decide +kernel
theorem dX11_presses_27 : decode cX11_presses 27 = .ok (.aload_n 0, 1) := by decide +kernel
theorem dX11_presses_28 : decode cX11_presses 28 = .ok (.getfield 69, 3) := by decide +kernel
theorem dX11_presses_31 : decode cX11_presses 31 = .ok (.if_icmp .ge 29, 3) := by decide +kernel
theorem dX11_presses_34 : decode cX11_presses 34 = .ok (.aload_n 0, 1) := by decide +kernel
theorem dX11_presses_35 : decode cX11_presses 35 = .ok (.getfield 7, 3) := by decide +kernel
theorem dX11_presses_38 : decode cX11_presses 38 = .ok (.bipush 67, 2) := by decide +kernel
theorem dX11_presses_40 : decode cX11_presses 40 = .ok (.iload_n 1, 1) := by decide +kernel
theorem dX11_presses_41 : decode cX11_presses 41 = .ok (.imul, 1) := by decide +kernel
theorem dX11_presses_42 : decode cX11_presses 42 = .ok (.bipush 7, 2) := by decide +kernel
theorem dX11_presses_44 : decode cX11_presses 44 = .ok (.iadd, 1) := by decide +kernel
theorem dX11_presses_45 : decode cX11_presses 45 = .ok (.iload_n 2, 1) := by decide +kernel
theorem dX11_presses_46 : decode cX11_presses 46 = .ok (.iadd, 1) := by decide +kernel
theorem dX11_presses_47 : decode cX11_presses 47 = .ok (.aload_n 0, 1) := by decide +kernel
theorem dX11_presses_48 : decode cX11_presses 48 = .ok (.getfield 31, 3) := by decide +kernel
theorem dX11_presses_51 : decode cX11_presses 51 = .ok (.iload_n 2, 1) := by decide +kernel
theorem dX11_presses_52 : decode cX11_presses 52 = .ok (.iaload, 1) := by decide +kernel
theorem dX11_presses_53 : decode cX11_presses 53 = .ok (.iastore, 1) := by decide +kernel
theorem dX11_presses_54 : decode cX11_presses 54 = .ok (.iinc 2 1, 3) := by decide +kernel
theorem dX11_presses_57 : decode cX11_presses 57 = .ok (.goto (-31), 3) := by decide +kernel
theorem dX11_presses_60 : decode cX11_presses 60 = .ok (.return_, 1) := by decide +kernel
theorem dX11_fold_0 : decode cX11_fold 0 = .ok (.iload_n 1, 1) := by decide +kernel
theorem dX11_fold_1 : decode cX11_fold 1 = .ok (.invokestatic 112, 3) := by decide +kernel
theorem dX11_fold_4 : decode cX11_fold 4 = .ok (.ifCond .eq 16, 3) := by decide +kernel
theorem dX11_fold_7 : decode cX11_fold 7 = .ok (.iload_n 2, 1) := by decide +kernel
theorem dX11_fold_8 : decode cX11_fold 8 = .ok (.iconst 0, 1) := by decide +kernel
theorem dX11_fold_9 : decode cX11_fold 9 = .ok (.iconst 3, 1) := by decide +kernel
theorem dX11_fold_10 : decode cX11_fold 10 = .ok (.invokestatic 50, 3) := by decide +kernel
theorem dX11_fold_13 : decode cX11_fold 13 = .ok (.ifCond .eq 7, 3) := by decide +kernel
theorem dX11_fold_16 : decode cX11_fold 16 = .ok (.iconst 1, 1) := by decide +kernel
theorem dX11_fold_17 : decode cX11_fold 17 = .ok (.goto 4, 3) := by decide +kernel
theorem dX11_fold_20 : decode cX11_fold 20 = .ok (.iconst 0, 1) := by decide +kernel
theorem dX11_fold_21 : decode cX11_fold 21 = .ok (.istore_n 3, 1) := by decide +kernel
theorem dX11_fold_22 : decode cX11_fold 22 = .ok (.aload_n 0, 1) := by decide +kernel
theorem dX11_fold_23 : decode cX11_fold 23 = .ok (.iload_n 3, 1) := by decide +kernel
theorem dX11_fold_24 : decode cX11_fold 24 = .ok (.ifCond .ne 7, 3) := by decide +kernel
theorem dX11_fold_27 : decode cX11_fold 27 = .ok (.iconst 1, 1) := by decide +kernel
theorem dX11_fold_28 : decode cX11_fold 28 = .ok (.goto 17, 3) := by decide +kernel
theorem dX11_fold_31 : decode cX11_fold 31 = .ok (.aload_n 0, 1) := by decide +kernel
theorem dX11_fold_32 : decode cX11_fold 32 = .ok (.iload_n 1, 1) := by decide +kernel
theorem dX11_fold_33 : decode cX11_fold 33 = .ok (.iload_n 2, 1) := by decide +kernel
theorem dX11_fold_34 : decode cX11_fold 34 = .ok (.invokevirtual 116, 3) := by decide +kernel
theorem dX11_fold_37 : decode cX11_fold 37 = .ok (.ifCond .le 7, 3) := by decide +kernel
theorem dX11_fold_40 : decode cX11_fold 40 = .ok (.iconst 2, 1) := by decide +kernel
theorem dX11_fold_41 : decode cX11_fold 41 = .ok (.goto 4, 3) := by decide +kernel
theorem dX11_fold_44 : decode cX11_fold 44 = .ok (.iconst 0, 1) := by decide +kernel
theorem dX11_fold_45 : decode cX11_fold 45 = .ok (.invokevirtual 119, 3) := by decide +kernel
theorem dX11_fold_48 : decode cX11_fold 48 = .ok (.ifCond .eq 5, 3) := by decide +kernel
theorem dX11_fold_51 : decode cX11_fold 51 = .ok (.iconst 0, 1) := by decide +kernel
theorem dX11_fold_52 : decode cX11_fold 52 = .ok (.ireturn, 1) := by decide +kernel
theorem dX11_fold_53 : decode cX11_fold 53 = .ok (.aload_n 0, 1) := by decide +kernel
theorem dX11_fold_54 : decode cX11_fold 54 = .ok (.invokevirtual 122, 3) := by decide +kernel
theorem dX11_fold_57 : decode cX11_fold 57 = .ok (.aload_n 0, 1) := by decide +kernel
theorem dX11_fold_58 : decode cX11_fold 58 = .ok (.iload_n 1, 1) := by decide +kernel
theorem dX11_fold_59 : decode cX11_fold 59 = .ok (.iload_n 2, 1) := by decide +kernel
theorem dX11_fold_60 : decode cX11_fold 60 = .ok (.invokevirtual 125, 3) := by decide +kernel
theorem dX11_fold_63 : decode cX11_fold 63 = .ok (.aload_n 0, 1) := by decide +kernel
theorem dX11_fold_64 : decode cX11_fold 64 = .ok (.iload_n 1, 1) := by decide +kernel
theorem dX11_fold_65 : decode cX11_fold 65 = .ok (.invokevirtual 83, 3) := by decide +kernel
theorem dX11_fold_68 : decode cX11_fold 68 = .ok (.ireturn, 1) := by decide +kernel
theorem dX11_unfold_0 : decode cX11_unfold 0 = .ok (.iload_n 1, 1) := by decide +kernel
theorem dX11_unfold_1 : decode cX11_unfold 1 = .ok (.invokestatic 112, 3) := by decide +kernel
theorem dX11_unfold_4 : decode cX11_unfold 4 = .ok (.ifCond .eq 31, 3) := by decide +kernel
theorem dX11_unfold_7 : decode cX11_unfold 7 = .ok (.aload_n 0, 1) := by decide +kernel
theorem dX11_unfold_8 : decode cX11_unfold 8 = .ok (.iload_n 1, 1) := by decide +kernel
theorem dX11_unfold_9 : decode cX11_unfold 9 = .ok (.iconst 4, 1) := by decide +kernel
theorem dX11_unfold_10 : decode cX11_unfold 10 = .ok (.invokevirtual 57, 3) := by decide +kernel
theorem dX11_unfold_13 : decode cX11_unfold 13 = .ok (.ifCond .le 22, 3) := by decide +kernel
theorem dX11_unfold_16 : decode cX11_unfold 16 = .ok (.aload_n 0, 1) := by decide +kernel
theorem dX11_unfold_17 : decode cX11_unfold 17 = .ok (.iload_n 1, 1) := by decide +kernel
theorem dX11_unfold_18 : decode cX11_unfold 18 = .ok (.bipush 7, 2) := by decide +kernel
theorem dX11_unfold_20 : decode cX11_unfold 20 = .ok (.aload_n 0, 1) := by decide +kernel
theorem dX11_unfold_21 : decode cX11_unfold 21 = .ok (.iload_n 1, 1) := by decide +kernel
theorem dX11_unfold_22 : decode cX11_unfold 22 = .ok (.iconst 4, 1) := by decide +kernel
theorem dX11_unfold_23 : decode cX11_unfold 23 = .ok (.invokevirtual 57, 3) := by decide +kernel
theorem dX11_unfold_26 : decode cX11_unfold 26 = .ok (.iadd, 1) := by decide +kernel
theorem dX11_unfold_27 : decode cX11_unfold 27 = .ok (.iconst 1, 1) := by decide +kernel
theorem dX11_unfold_28 : decode cX11_unfold 28 = .ok (.isub, 1) := by decide +kernel
theorem dX11_unfold_29 : decode cX11_unfold 29 = .ok (.invokevirtual 57, 3) := by decide +kernel
theorem dX11_unfold_32 : decode cX11_unfold 32 = .ok (.goto 4, 3) := by decide +kernel
theorem dX11_unfold_35 : decode cX11_unfold 35 = .ok (.iconst (-1), 1) := by decide +kernel
theorem dX11_unfold_36 : decode cX11_unfold 36 = .ok (.istore_n 2, 1) := by decide +kernel
theorem dX11_unfold_37 : decode cX11_unfold 37 = .ok (.aload_n 0, 1) := by decide +kernel
theorem dX11_unfold_38 : decode cX11_unfold 38 = .ok (.iload_n 1, 1) := by decide +kernel
theorem dX11_unfold_39 : decode cX11_unfold 39 = .ok (.invokestatic 112, 3) := by decide +kernel
theorem dX11_unfold_42 : decode cX11_unfold 42 = .ok (.ifCond .ne 7, 3) := by decide +kernel
theorem dX11_unfold_45 : decode cX11_unfold 45 = .ok (.iconst 1, 1) := by decide +kernel
theorem dX11_unfold_46 : decode cX11_unfold 46 = .ok (.goto 21, 3) := by decide +kernel
theorem dX11_unfold_49 : decode cX11_unfold 49 = .ok (.iload_n 2, 1) := by decide +kernel
theorem dX11_unfold_50 : decode cX11_unfold 50 = .ok (.ifCond .lt 12, 3) := by decide +kernel
theorem dX11_unfold_53 : decode cX11_unfold 53 = .ok (.aload_n 0, 1) := by decide +kernel
theorem dX11_unfold_54 : decode cX11_unfold 54 = .ok (.iload_n 1, 1) := by decide +kernel
theorem dX11_unfold_55 : decode cX11_unfold 55 = .ok (.iload_n 2, 1) := by decide +kernel
theorem dX11_unfold_56 : decode cX11_unfold 56 = .ok (.invokevirtual 98, 3) := by decide +kernel
theorem dX11_unfold_59 : decode cX11_unfold 59 = .ok (.ifCond .eq 7, 3) := by decide +kernel
theorem dX11_unfold_62 : decode cX11_unfold 62 = .ok (.iconst 2, 1) := by decide +kernel
theorem dX11_unfold_63 : decode cX11_unfold 63 = .ok (.goto 4, 3) := by decide +kernel
theorem dX11_unfold_66 : decode cX11_unfold 66 = .ok (.iconst 0, 1) := by decide +kernel
theorem dX11_unfold_67 : decode cX11_unfold 67 = .ok (.invokevirtual 119, 3) := by decide +kernel
theorem dX11_unfold_70 : decode cX11_unfold 70 = .ok (.ifCond .eq 5, 3) := by decide +kernel
theorem dX11_unfold_73 : decode cX11_unfold 73 = .ok (.iconst 0, 1) := by decide +kernel
theorem dX11_unfold_74 : decode cX11_unfold 74 = .ok (.ireturn, 1) := by decide +kernel
theorem dX11_unfold_75 : decode cX11_unfold 75 = .ok (.aload_n 0, 1) := by decide +kernel
theorem dX11_unfold_76 : decode cX11_unfold 76 = .ok (.invokevirtual 122, 3) := by decide +kernel
theorem dX11_unfold_79 : decode cX11_unfold 79 = .ok (.aload_n 0, 1) := by decide +kernel
theorem dX11_unfold_80 : decode cX11_unfold 80 = .ok (.iload_n 1, 1) := by decide +kernel
theorem dX11_unfold_81 : decode cX11_unfold 81 = .ok (.iload_n 2, 1) := by decide +kernel
theorem dX11_unfold_82 : decode cX11_unfold 82 = .ok (.invokevirtual 105, 3) := by decide +kernel
theorem dX11_unfold_85 : decode cX11_unfold 85 = .ok (.aload_n 0, 1) := by decide +kernel
theorem dX11_unfold_86 : decode cX11_unfold 86 = .ok (.getfield 7, 3) := by decide +kernel
theorem dX11_unfold_89 : decode cX11_unfold 89 = .ok (.bipush 67, 2) := by decide +kernel
theorem dX11_unfold_91 : decode cX11_unfold 91 = .ok (.iload_n 1, 1) := by decide +kernel
theorem dX11_unfold_92 : decode cX11_unfold 92 = .ok (.imul, 1) := by decide +kernel
theorem dX11_unfold_93 : decode cX11_unfold 93 = .ok (.iconst 4, 1) := by decide +kernel
theorem dX11_unfold_94 : decode cX11_unfold 94 = .ok (.iadd, 1) := by decide +kernel
theorem dX11_unfold_95 : decode cX11_unfold 95 = .ok (.dup2, 1) := by decide +kernel
theorem dX11_unfold_96 : decode cX11_unfold 96 = .ok (.iaload, 1) := by decide +kernel
theorem dX11_unfold_97 : decode cX11_unfold 97 = .ok (.iconst 1, 1) := by decide +kernel
theorem dX11_unfold_98 : decode cX11_unfold 98 = .ok (.isub, 1) := by decide +kernel
theorem dX11_unfold_99 : decode cX11_unfold 99 = .ok (.iastore, 1) := by decide +kernel
theorem dX11_unfold_100 : decode cX11_unfold 100 = .ok (.iload_n 2, 1) := by decide +kernel
theorem dX11_unfold_101 : decode cX11_unfold 101 = .ok (.ireturn, 1) := by decide +kernel
theorem dX11_press_0 : decode cX11_press 0 = .ok (.aload_n 0, 1) := by decide +kernel
theorem dX11_press_1 : decode cX11_press 1 = .ok (.iload_n 1, 1) := by decide +kernel
theorem dX11_press_2 : decode cX11_press 2 = .ok (.invokestatic 112, 3) := by decide +kernel
theorem dX11_press_5 : decode cX11_press 5 = .ok (.ifCond .eq 7, 3) := by decide +kernel
theorem dX11_press_8 : decode cX11_press 8 = .ok (.iconst 0, 1) := by decide +kernel
theorem dX11_press_9 : decode cX11_press 9 = .ok (.goto 4, 3) := by decide +kernel
theorem dX11_press_12 : decode cX11_press 12 = .ok (.iconst 1, 1) := by decide +kernel
theorem dX11_press_13 : decode cX11_press 13 = .ok (.invokevirtual 119, 3) := by decide +kernel
theorem dX11_press_16 : decode cX11_press 16 = .ok (.ifCond .eq 5, 3) := by decide +kernel
theorem dX11_press_19 : decode cX11_press 19 = .ok (.iconst 0, 1) := by decide +kernel
theorem dX11_press_20 : decode cX11_press 20 = .ok (.ireturn, 1) := by decide +kernel
theorem dX11_press_21 : decode cX11_press 21 = .ok (.aload_n 0, 1) := by decide +kernel
theorem dX11_press_22 : decode cX11_press 22 = .ok (.invokevirtual 122, 3) := by decide +kernel
theorem dX11_press_25 : decode cX11_press 25 = .ok (.aload_n 0, 1) := by decide +kernel
theorem dX11_press_26 : decode cX11_press 26 = .ok (.iload_n 1, 1) := by decide +kernel
theorem dX11_press_27 : decode cX11_press 27 = .ok (.iconst 4, 1) := by decide +kernel
theorem dX11_press_28 : decode cX11_press 28 = .ok (.invokevirtual 57, 3) := by decide +kernel
theorem dX11_press_31 : decode cX11_press 31 = .ok (.istore_n 2, 1) := by decide +kernel
theorem dX11_press_32 : decode cX11_press 32 = .ok (.aload_n 0, 1) := by decide +kernel
theorem dX11_press_33 : decode cX11_press 33 = .ok (.iload_n 1, 1) := by decide +kernel
theorem dX11_press_34 : decode cX11_press 34 = .ok (.invokevirtual 128, 3) := by decide +kernel
theorem dX11_press_37 : decode cX11_press 37 = .ok (.iload_n 2, 1) := by decide +kernel
theorem dX11_press_38 : decode cX11_press 38 = .ok (.aload_n 0, 1) := by decide +kernel
theorem dX11_press_39 : decode cX11_press 39 = .ok (.iload_n 1, 1) := by decide +kernel
theorem dX11_press_40 : decode cX11_press 40 = .ok (.iconst 4, 1) := by decide +kernel
theorem dX11_press_41 : decode cX11_press 41 = .ok (.invokevirtual 57, 3) := by decide +kernel
theorem dX11_press_44 : decode cX11_press 44 = .ok (.isub, 1) := by decide +kernel
theorem dX11_press_45 : decode cX11_press 45 = .ok (.ireturn, 1) := by decide +kernel
theorem dX11_smooth_0 : decode cX11_smooth 0 = .ok (.aload_n 0, 1) := by decide +kernel
theorem dX11_smooth_1 : decode cX11_smooth 1 = .ok (.iload_n 1, 1) := by decide +kernel
theorem dX11_smooth_2 : decode cX11_smooth 2 = .ok (.invokestatic 112, 3) := by decide +kernel
theorem dX11_smooth_5 : decode cX11_smooth 5 = .ok (.ifCond .eq 7, 3) := by decide +kernel
theorem dX11_smooth_8 : decode cX11_smooth 8 = .ok (.iconst 0, 1) := by decide +kernel
theorem dX11_smooth_9 : decode cX11_smooth 9 = .ok (.goto 4, 3) := by decide +kernel
theorem dX11_smooth_12 : decode cX11_smooth 12 = .ok (.iconst 1, 1) := by decide +kernel
theorem dX11_smooth_13 : decode cX11_smooth 13 = .ok (.invokevirtual 119, 3) := by decide +kernel
theorem dX11_smooth_16 : decode cX11_smooth 16 = .ok (.ifCond .eq 5, 3) := by decide +kernel
theorem dX11_smooth_19 : decode cX11_smooth 19 = .ok (.iconst 0, 1) := by decide +kernel
theorem dX11_smooth_20 : decode cX11_smooth 20 = .ok (.ireturn, 1) := by decide +kernel
theorem dX11_smooth_21 : decode cX11_smooth 21 = .ok (.aload_n 0, 1) := by decide +kernel
theorem dX11_smooth_22 : decode cX11_smooth 22 = .ok (.invokevirtual 122, 3) := by decide +kernel
theorem dX11_smooth_25 : decode cX11_smooth 25 = .ok (.aload_n 0, 1) := by decide +kernel
theorem dX11_smooth_26 : decode cX11_smooth 26 = .ok (.iload_n 1, 1) := by decide +kernel
theorem dX11_smooth_27 : decode cX11_smooth 27 = .ok (.invokevirtual 83, 3) := by decide +kernel
theorem dX11_smooth_30 : decode cX11_smooth 30 = .ok (.istore_n 2, 1) := by decide +kernel
theorem dX11_smooth_31 : decode cX11_smooth 31 = .ok (.iconst 0, 1) := by decide +kernel
theorem dX11_smooth_32 : decode cX11_smooth 32 = .ok (.istore_n 3, 1) := by decide +kernel
theorem dX11_smooth_33 : decode cX11_smooth 33 = .ok (.iload_n 3, 1) := by decide +kernel
theorem dX11_smooth_34 : decode cX11_smooth 34 = .ok (.iconst 4, 1) := by decide +kernel
theorem dX11_smooth_35 : decode cX11_smooth 35 = .ok (.if_icmp .ge 23, 3) := by decide +kernel
theorem dX11_smooth_38 : decode cX11_smooth 38 = .ok (.aload_n 0, 1) := by decide +kernel
theorem dX11_smooth_39 : decode cX11_smooth 39 = .ok (.getfield 7, 3) := by decide +kernel
theorem dX11_smooth_42 : decode cX11_smooth 42 = .ok (.bipush 67, 2) := by decide +kernel
theorem dX11_smooth_44 : decode cX11_smooth 44 = .ok (.iload_n 1, 1) := by decide +kernel
theorem dX11_smooth_45 : decode cX11_smooth 45 = .ok (.imul, 1) := by decide +kernel
theorem dX11_smooth_46 : decode cX11_smooth 46 = .ok (.iload_n 3, 1) := by decide +kernel
theorem dX11_smooth_47 : decode cX11_smooth 47 = .ok (.iadd, 1) := by decide +kernel
theorem dX11_smooth_48 : decode cX11_smooth 48 = .ok (.iload_n 3, 1) := by decide +kernel
theorem dX11_smooth_49 : decode cX11_smooth 49 = .ok (.iconst 1, 1) := by decide +kernel
theorem dX11_smooth_50 : decode cX11_smooth 50 = .ok (.iadd, 1) := by decide +kernel
theorem dX11_smooth_51 : decode cX11_smooth 51 = .ok (.iastore, 1) := by decide +kernel
theorem dX11_smooth_52 : decode cX11_smooth 52 = .ok (.iinc 3 1, 3) := by decide +kernel
theorem dX11_smooth_55 : decode cX11_smooth 55 = .ok (.goto (-22), 3) := by decide +kernel
theorem dX11_smooth_58 : decode cX11_smooth 58 = .ok (.aload_n 0, 1) := by decide +kernel
theorem dX11_smooth_59 : decode cX11_smooth 59 = .ok (.getfield 7, 3) := by decide +kernel
theorem dX11_smooth_62 : decode cX11_smooth 62 = .ok (.bipush 67, 2) := by decide +kernel
theorem dX11_smooth_64 : decode cX11_smooth 64 = .ok (.iload_n 1, 1) := by decide +kernel
theorem dX11_smooth_65 : decode cX11_smooth 65 = .ok (.imul, 1) := by decide +kernel
theorem dX11_smooth_66 : decode cX11_smooth 66 = .ok (.iconst 4, 1) := by decide +kernel
theorem dX11_smooth_67 : decode cX11_smooth 67 = .ok (.iadd, 1) := by decide +kernel
theorem dX11_smooth_68 : decode cX11_smooth 68 = .ok (.iconst 0, 1) := by decide +kernel
theorem dX11_smooth_69 : decode cX11_smooth 69 = .ok (.iastore, 1) := by decide +kernel
theorem dX11_smooth_70 : decode cX11_smooth 70 = .ok (.aload_n 0, 1) := by decide +kernel
theorem dX11_smooth_71 : decode cX11_smooth 71 = .ok (.getfield 7, 3) := by decide +kernel
theorem dX11_smooth_74 : decode cX11_smooth 74 = .ok (.bipush 67, 2) := by decide +kernel
theorem dX11_smooth_76 : decode cX11_smooth 76 = .ok (.iload_n 1, 1) := by decide +kernel
theorem dX11_smooth_77 : decode cX11_smooth 77 = .ok (.imul, 1) := by decide +kernel
theorem dX11_smooth_78 : decode cX11_smooth 78 = .ok (.iconst 5, 1) := by decide +kernel
theorem dX11_smooth_79 : decode cX11_smooth 79 = .ok (.iadd, 1) := by decide +kernel
theorem dX11_smooth_80 : decode cX11_smooth 80 = .ok (.iconst 0, 1) := by decide +kernel
theorem dX11_smooth_81 : decode cX11_smooth 81 = .ok (.iastore, 1) := by decide +kernel
theorem dX11_smooth_82 : decode cX11_smooth 82 = .ok (.iload_n 2, 1) := by decide +kernel
theorem dX11_smooth_83 : decode cX11_smooth 83 = .ok (.ireturn, 1) := by decide +kernel
theorem dX11_becomes_0 : decode cX11_becomes 0 = .ok (.aload_n 0, 1) := by decide +kernel
theorem dX11_becomes_1 : decode cX11_becomes 1 = .ok (.iload_n 1, 1) := by decide +kernel
theorem dX11_becomes_2 : decode cX11_becomes 2 = .ok (.invokevirtual 102, 3) := by decide +kernel
theorem dX11_becomes_5 : decode cX11_becomes 5 = .ok (.aload_n 0, 1) := by decide +kernel
theorem dX11_becomes_6 : decode cX11_becomes 6 = .ok (.getfield 7, 3) := by decide +kernel
theorem dX11_becomes_9 : decode cX11_becomes 9 = .ok (.bipush 67, 2) := by decide +kernel
theorem dX11_becomes_11 : decode cX11_becomes 11 = .ok (.iload_n 1, 1) := by decide +kernel
theorem dX11_becomes_12 : decode cX11_becomes 12 = .ok (.imul, 1) := by decide +kernel
theorem dX11_becomes_13 : decode cX11_becomes 13 = .ok (.iconst 5, 1) := by decide +kernel
theorem dX11_becomes_14 : decode cX11_becomes 14 = .ok (.iadd, 1) := by decide +kernel
theorem dX11_becomes_15 : decode cX11_becomes 15 = .ok (.iconst 0, 1) := by decide +kernel
theorem dX11_becomes_16 : decode cX11_becomes 16 = .ok (.iastore, 1) := by decide +kernel
theorem dX11_becomes_17 : decode cX11_becomes 17 = .ok (.aload_n 0, 1) := by decide +kernel
theorem dX11_becomes_18 : decode cX11_becomes 18 = .ok (.iload_n 1, 1) := by decide +kernel
theorem dX11_becomes_19 : decode cX11_becomes 19 = .ok (.invokevirtual 128, 3) := by decide +kernel
theorem dX11_becomes_22 : decode cX11_becomes 22 = .ok (.aload_n 0, 1) := by decide +kernel
theorem dX11_becomes_23 : decode cX11_becomes 23 = .ok (.iload_n 1, 1) := by decide +kernel
theorem dX11_becomes_24 : decode cX11_becomes 24 = .ok (.iconst 4, 1) := by decide +kernel
theorem dX11_becomes_25 : decode cX11_becomes 25 = .ok (.invokevirtual 57, 3) := by decide +kernel
theorem dX11_becomes_28 : decode cX11_becomes 28 = .ok (.ireturn, 1) := by decide +kernel
theorem dX11_product_0 : decode cX11_product 0 = .ok (.aload_n 0, 1) := by decide +kernel
theorem dX11_product_1 : decode cX11_product 1 = .ok (.iload_n 1, 1) := by decide +kernel
theorem dX11_product_2 : decode cX11_product 2 = .ok (.invokestatic 112, 3) := by decide +kernel
theorem dX11_product_5 : decode cX11_product 5 = .ok (.ifCond .eq 21, 3) := by decide +kernel
theorem dX11_product_8 : decode cX11_product 8 = .ok (.iload_n 2, 1) := by decide +kernel
theorem dX11_product_9 : decode cX11_product 9 = .ok (.invokestatic 112, 3) := by decide +kernel
theorem dX11_product_12 : decode cX11_product 12 = .ok (.ifCond .eq 14, 3) := by decide +kernel
theorem dX11_product_15 : decode cX11_product 15 = .ok (.iload_n 3, 1) := by decide +kernel
theorem dX11_product_16 : decode cX11_product 16 = .ok (.invokestatic 112, 3) := by decide +kernel
theorem dX11_product_19 : decode cX11_product 19 = .ok (.ifCond .eq 7, 3) := by decide +kernel
theorem dX11_product_22 : decode cX11_product 22 = .ok (.iconst 0, 1) := by decide +kernel
theorem dX11_product_23 : decode cX11_product 23 = .ok (.goto 4, 3) := by decide +kernel
theorem dX11_product_26 : decode cX11_product 26 = .ok (.iconst 1, 1) := by decide +kernel
theorem dX11_product_27 : decode cX11_product 27 = .ok (.invokevirtual 119, 3) := by decide +kernel
theorem dX11_product_30 : decode cX11_product 30 = .ok (.ifCond .eq 5, 3) := by decide +kernel
theorem dX11_product_33 : decode cX11_product 33 = .ok (.iconst 0, 1) := by decide +kernel
theorem dX11_product_34 : decode cX11_product 34 = .ok (.ireturn, 1) := by decide +kernel
theorem dX11_product_35 : decode cX11_product 35 = .ok (.aload_n 0, 1) := by decide +kernel
theorem dX11_product_36 : decode cX11_product 36 = .ok (.invokevirtual 122, 3) := by decide +kernel
theorem dX11_product_39 : decode cX11_product 39 = .ok (.aload_n 0, 1) := by decide +kernel
theorem dX11_product_40 : decode cX11_product 40 = .ok (.iload_n 2, 1) := by decide +kernel
theorem dX11_product_41 : decode cX11_product 41 = .ok (.invokevirtual 80, 3) := by decide +kernel
theorem dX11_product_44 : decode cX11_product 44 = .ok (.aload_n 0, 1) := by decide +kernel
theorem dX11_product_45 : decode cX11_product 45 = .ok (.iload_n 3, 1) := by decide +kernel
theorem dX11_product_46 : decode cX11_product 46 = .ok (.invokevirtual 89, 3) := by decide +kernel
theorem dX11_product_49 : decode cX11_product 49 = .ok (.aload_n 0, 1) := by decide +kernel
theorem dX11_product_50 : decode cX11_product 50 = .ok (.invokevirtual 92, 3) := by decide +kernel
theorem dX11_product_53 : decode cX11_product 53 = .ok (.aload_n 0, 1) := by decide +kernel
theorem dX11_product_54 : decode cX11_product 54 = .ok (.iload_n 1, 1) := by decide +kernel
theorem dX11_product_55 : decode cX11_product 55 = .ok (.invokevirtual 131, 3) := by decide +kernel
theorem dX11_product_58 : decode cX11_product 58 = .ok (.ireturn, 1) := by decide +kernel
theorem dX11_opposite_0 : decode cX11_opposite 0 = .ok (.aload_n 0, 1) := by decide +kernel
theorem dX11_opposite_1 : decode cX11_opposite 1 = .ok (.iload_n 1, 1) := by decide +kernel
theorem dX11_opposite_2 : decode cX11_opposite 2 = .ok (.invokestatic 112, 3) := by decide +kernel
theorem dX11_opposite_5 : decode cX11_opposite 5 = .ok (.ifCond .eq 14, 3) := by decide +kernel
theorem dX11_opposite_8 : decode cX11_opposite 8 = .ok (.iload_n 2, 1) := by decide +kernel
theorem dX11_opposite_9 : decode cX11_opposite 9 = .ok (.invokestatic 112, 3) := by decide +kernel
theorem dX11_opposite_12 : decode cX11_opposite 12 = .ok (.ifCond .eq 7, 3) := by decide +kernel
theorem dX11_opposite_15 : decode cX11_opposite 15 = .ok (.iconst 0, 1) := by decide +kernel
theorem dX11_opposite_16 : decode cX11_opposite 16 = .ok (.goto 4, 3) := by decide +kernel
theorem dX11_opposite_19 : decode cX11_opposite 19 = .ok (.iconst 1, 1) := by decide +kernel
theorem dX11_opposite_20 : decode cX11_opposite 20 = .ok (.invokevirtual 119, 3) := by decide +kernel
theorem dX11_opposite_23 : decode cX11_opposite 23 = .ok (.ifCond .eq 5, 3) := by decide +kernel
theorem dX11_opposite_26 : decode cX11_opposite 26 = .ok (.iconst 0, 1) := by decide +kernel
theorem dX11_opposite_27 : decode cX11_opposite 27 = .ok (.ireturn, 1) := by decide +kernel
theorem dX11_opposite_28 : decode cX11_opposite 28 = .ok (.aload_n 0, 1) := by decide +kernel
theorem dX11_opposite_29 : decode cX11_opposite 29 = .ok (.invokevirtual 122, 3) := by decide +kernel
theorem dX11_opposite_32 : decode cX11_opposite 32 = .ok (.aload_n 0, 1) := by decide +kernel
theorem dX11_opposite_33 : decode cX11_opposite 33 = .ok (.iload_n 2, 1) := by decide +kernel
theorem dX11_opposite_34 : decode cX11_opposite 34 = .ok (.invokevirtual 80, 3) := by decide +kernel
theorem dX11_opposite_37 : decode cX11_opposite 37 = .ok (.aload_n 0, 1) := by decide +kernel
theorem dX11_opposite_38 : decode cX11_opposite 38 = .ok (.invokevirtual 95, 3) := by decide +kernel
theorem dX11_opposite_41 : decode cX11_opposite 41 = .ok (.aload_n 0, 1) := by decide +kernel
theorem dX11_opposite_42 : decode cX11_opposite 42 = .ok (.iload_n 1, 1) := by decide +kernel
theorem dX11_opposite_43 : decode cX11_opposite 43 = .ok (.invokevirtual 131, 3) := by decide +kernel
theorem dX11_opposite_46 : decode cX11_opposite 46 = .ok (.ireturn, 1) := by decide +kernel
theorem dX11_seal_0 : decode cX11_seal 0 = .ok (.iload_n 1, 1) := by decide +kernel
theorem dX11_seal_1 : decode cX11_seal 1 = .ok (.invokestatic 112, 3) := by decide +kernel
theorem dX11_seal_4 : decode cX11_seal 4 = .ok (.ifCond .eq 14, 3) := by decide +kernel
theorem dX11_seal_7 : decode cX11_seal 7 = .ok (.iload_n 2, 1) := by decide +kernel
theorem dX11_seal_8 : decode cX11_seal 8 = .ok (.invokestatic 134, 3) := by decide +kernel
theorem dX11_seal_11 : decode cX11_seal 11 = .ok (.ifCond .eq 7, 3) := by decide +kernel
theorem dX11_seal_14 : decode cX11_seal 14 = .ok (.iconst 1, 1) := by decide +kernel
theorem dX11_seal_15 : decode cX11_seal 15 = .ok (.goto 4, 3) := by decide +kernel
theorem dX11_seal_18 : decode cX11_seal 18 = .ok (.iconst 0, 1) := by decide +kernel
theorem dX11_seal_19 : decode cX11_seal 19 = .ok (.istore_n 3, 1) := by decide +kernel
theorem dX11_seal_20 : decode cX11_seal 20 = .ok (.iload_n 3, 1) := by decide +kernel
theorem dX11_seal_21 : decode cX11_seal 21 = .ok (.ifCond .eq 21, 3) := by decide +kernel
theorem dX11_seal_24 : decode cX11_seal 24 = .ok (.aload_n 0, 1) := by decide +kernel
theorem dX11_seal_25 : decode cX11_seal 25 = .ok (.iload_n 1, 1) := by decide +kernel
theorem dX11_seal_26 : decode cX11_seal 26 = .ok (.iconst 5, 1) := by decide +kernel
theorem dX11_seal_27 : decode cX11_seal 27 = .ok (.invokevirtual 57, 3) := by decide +kernel
theorem dX11_seal_30 : decode cX11_seal 30 = .ok (.iload_n 2, 1) := by decide +kernel
theorem dX11_seal_31 : decode cX11_seal 31 = .ok (.ishr, 1) := by decide +kernel
theorem dX11_seal_32 : decode cX11_seal 32 = .ok (.iconst 1, 1) := by decide +kernel
theorem dX11_seal_33 : decode cX11_seal 33 = .ok (.iand, 1) := by decide +kernel
theorem dX11_seal_34 : decode cX11_seal 34 = .ok (.iconst 1, 1) := by decide +kernel
theorem dX11_seal_35 : decode cX11_seal 35 = .ok (.if_icmp .ne 7, 3) := by decide +kernel
theorem dX11_seal_38 : decode cX11_seal 38 = .ok (.iconst 1, 1) := by decide +kernel
theorem dX11_seal_39 : decode cX11_seal 39 = .ok (.goto 4, 3) := by decide +kernel
theorem dX11_seal_42 : decode cX11_seal 42 = .ok (.iconst 0, 1) := by decide +kernel
theorem dX11_seal_43 : decode cX11_seal 43 = .ok (.istore 4, 2) := by decide +kernel
theorem dX11_seal_45 : decode cX11_seal 45 = .ok (.iload_n 3, 1) := by decide +kernel
theorem dX11_seal_46 : decode cX11_seal 46 = .ok (.ifCond .eq 24, 3) := by decide +kernel
theorem dX11_seal_49 : decode cX11_seal 49 = .ok (.iload 4, 2) := by decide +kernel
theorem dX11_seal_51 : decode cX11_seal 51 = .ok (.ifCond .ne 15, 3) := by decide +kernel
theorem dX11_seal_54 : decode cX11_seal 54 = .ok (.aload_n 0, 1) := by decide +kernel
theorem dX11_seal_55 : decode cX11_seal 55 = .ok (.iload_n 1, 1) := by decide +kernel
theorem dX11_seal_56 : decode cX11_seal 56 = .ok (.iload_n 2, 1) := by decide +kernel
theorem dX11_seal_57 : decode cX11_seal 57 = .ok (.invokevirtual 57, 3) := by decide +kernel
theorem dX11_seal_60 : decode cX11_seal 60 = .ok (.iload_n 2, 1) := by decide +kernel
theorem dX11_seal_61 : decode cX11_seal 61 = .ok (.iconst 1, 1) := by decide +kernel
theorem dX11_seal_62 : decode cX11_seal 62 = .ok (.iadd, 1) := by decide +kernel
theorem dX11_seal_63 : decode cX11_seal 63 = .ok (.if_icmp .ne 7, 3) := by decide +kernel
theorem dX11_seal_66 : decode cX11_seal 66 = .ok (.iconst 1, 1) := by decide +kernel
theorem dX11_seal_67 : decode cX11_seal 67 = .ok (.goto 4, 3) := by decide +kernel
theorem dX11_seal_70 : decode cX11_seal 70 = .ok (.iconst 0, 1) := by decide +kernel
theorem dX11_seal_71 : decode cX11_seal 71 = .ok (.istore 5, 2) := by decide +kernel
theorem dX11_seal_73 : decode cX11_seal 73 = .ok (.aload_n 0, 1) := by decide +kernel
theorem dX11_seal_74 : decode cX11_seal 74 = .ok (.iload_n 3, 1) := by decide +kernel
theorem dX11_seal_75 : decode cX11_seal 75 = .ok (.ifCond .ne 7, 3) := by decide +kernel
theorem dX11_seal_78 : decode cX11_seal 78 = .ok (.iconst 1, 1) := by decide +kernel
theorem dX11_seal_79 : decode cX11_seal 79 = .ok (.goto 13, 3) := by decide +kernel
theorem dX11_seal_82 : decode cX11_seal 82 = .ok (.iload 5, 2) := by decide +kernel
theorem dX11_seal_84 : decode cX11_seal 84 = .ok (.ifCond .eq 7, 3) := by decide +kernel
theorem dX11_seal_87 : decode cX11_seal 87 = .ok (.iconst 0, 1) := by decide +kernel
theorem dX11_seal_88 : decode cX11_seal 88 = .ok (.goto 4, 3) := by decide +kernel
theorem dX11_seal_91 : decode cX11_seal 91 = .ok (.iconst 2, 1) := by decide +kernel
theorem dX11_seal_92 : decode cX11_seal 92 = .ok (.invokevirtual 119, 3) := by decide +kernel
theorem dX11_seal_95 : decode cX11_seal 95 = .ok (.ifCond .eq 5, 3) := by decide +kernel
theorem dX11_seal_98 : decode cX11_seal 98 = .ok (.iconst 0, 1) := by decide +kernel
theorem dX11_seal_99 : decode cX11_seal 99 = .ok (.ireturn, 1) := by decide +kernel
theorem dX11_seal_100 : decode cX11_seal 100 = .ok (.aload_n 0, 1) := by decide +kernel
theorem dX11_seal_101 : decode cX11_seal 101 = .ok (.invokevirtual 122, 3) := by decide +kernel
theorem dX11_seal_104 : decode cX11_seal 104 = .ok (.aload_n 0, 1) := by decide +kernel
theorem dX11_seal_105 : decode cX11_seal 105 = .ok (.getfield 7, 3) := by decide +kernel
theorem dX11_seal_108 : decode cX11_seal 108 = .ok (.bipush 67, 2) := by decide +kernel
theorem dX11_seal_110 : decode cX11_seal 110 = .ok (.iload_n 1, 1) := by decide +kernel
theorem dX11_seal_111 : decode cX11_seal 111 = .ok (.imul, 1) := by decide +kernel
theorem dX11_seal_112 : decode cX11_seal 112 = .ok (.iconst 5, 1) := by decide +kernel
theorem dX11_seal_113 : decode cX11_seal 113 = .ok (.iadd, 1) := by decide +kernel
theorem dX11_seal_114 : decode cX11_seal 114 = .ok (.dup2, 1) := by decide +kernel
theorem dX11_seal_115 : decode cX11_seal 115 = .ok (.iaload, 1) := by decide +kernel
theorem dX11_seal_116 : decode cX11_seal 116 = .ok (.iconst 1, 1) := by decide +kernel
theorem dX11_seal_117 : decode cX11_seal 117 = .ok (.iload_n 2, 1) := by decide +kernel
theorem dX11_seal_118 : decode cX11_seal 118 = .ok (.ishl, 1) := by decide +kernel
theorem dX11_seal_119 : decode cX11_seal 119 = .ok (.ixor, 1) := by decide +kernel
theorem dX11_seal_120 : decode cX11_seal 120 = .ok (.iastore, 1) := by decide +kernel
theorem dX11_seal_121 : decode cX11_seal 121 = .ok (.aload_n 0, 1) := by decide +kernel
theorem dX11_seal_122 : decode cX11_seal 122 = .ok (.iload_n 1, 1) := by decide +kernel
theorem dX11_seal_123 : decode cX11_seal 123 = .ok (.iconst 5, 1) := by decide +kernel
theorem dX11_seal_124 : decode cX11_seal 124 = .ok (.invokevirtual 57, 3) := by decide +kernel
theorem dX11_seal_127 : decode cX11_seal 127 = .ok (.invokestatic 137, 3) := by decide +kernel
theorem dX11_seal_130 : decode cX11_seal 130 = .ok (.ireturn, 1) := by decide +kernel
theorem dX11_append_0 : decode cX11_append 0 = .ok (.aload_n 0, 1) := by decide +kernel
theorem dX11_append_1 : decode cX11_append 1 = .ok (.iload_n 1, 1) := by decide +kernel
theorem dX11_append_2 : decode cX11_append 2 = .ok (.bipush 33, 2) := by decide +kernel
theorem dX11_append_4 : decode cX11_append 4 = .ok (.bipush 126, 2) := by decide +kernel
theorem dX11_append_6 : decode cX11_append 6 = .ok (.invokestatic 50, 3) := by decide +kernel
theorem dX11_append_9 : decode cX11_append 9 = .ok (.ifCond .ne 7, 3) := by decide +kernel
theorem dX11_append_12 : decode cX11_append 12 = .ok (.iconst 1, 1) := by decide +kernel
theorem dX11_append_13 : decode cX11_append 13 = .ok (.goto 17, 3) := by decide +kernel
theorem dX11_append_16 : decode cX11_append 16 = .ok (.aload_n 0, 1) := by decide +kernel
theorem dX11_append_17 : decode cX11_append 17 = .ok (.getfield 140, 3) := by decide +kernel
theorem dX11_append_20 : decode cX11_append 20 = .ok (.bipush 60, 2) := by decide +kernel
theorem dX11_append_22 : decode cX11_append 22 = .ok (.if_icmp .ne 7, 3) := by decide +kernel
theorem dX11_append_25 : decode cX11_append 25 = .ok (.iconst 2, 1) := by decide +kernel
theorem dX11_append_26 : decode cX11_append 26 = .ok (.goto 4, 3) := by decide +kernel
theorem dX11_append_29 : decode cX11_append 29 = .ok (.iconst 0, 1) := by decide +kernel
theorem dX11_append_30 : decode cX11_append 30 = .ok (.invokevirtual 119, 3) := by decide +kernel
theorem dX11_append_33 : decode cX11_append 33 = .ok (.ifCond .eq 5, 3) := by decide +kernel
theorem dX11_append_36 : decode cX11_append 36 = .ok (.iconst 0, 1) := by decide +kernel
theorem dX11_append_37 : decode cX11_append 37 = .ok (.ireturn, 1) := by decide +kernel
theorem dX11_append_38 : decode cX11_append 38 = .ok (.aload_n 0, 1) := by decide +kernel
theorem dX11_append_39 : decode cX11_append 39 = .ok (.getfield 19, 3) := by decide +kernel
theorem dX11_append_42 : decode cX11_append 42 = .ok (.aload_n 0, 1) := by decide +kernel
theorem dX11_append_43 : decode cX11_append 43 = .ok (.getfield 140, 3) := by decide +kernel
theorem dX11_append_46 : decode cX11_append 46 = .ok (.iload_n 1, 1) := by decide +kernel
theorem dX11_append_47 : decode cX11_append 47 = .ok (.iastore, 1) := by decide +kernel
theorem dX11_append_48 : decode cX11_append 48 = .ok (.aload_n 0, 1) := by decide +kernel
theorem dX11_append_49 : decode cX11_append 49 = .ok (.dup, 1) := by decide +kernel
theorem dX11_append_50 : decode cX11_append 50 = .ok (.getfield 140, 3) := by decide +kernel
theorem dX11_append_53 : decode cX11_append 53 = .ok (.iconst 1, 1) := by decide +kernel
theorem dX11_append_54 : decode cX11_append 54 = .ok (.iadd, 1) := by decide +kernel
theorem dX11_append_55 : decode cX11_append 55 = .ok (.putfield 140, 3) := by decide +kernel
theorem dX11_append_58 : decode cX11_append 58 = .ok (.aload_n 0, 1) := by decide +kernel
theorem dX11_append_59 : decode cX11_append 59 = .ok (.getfield 140, 3) := by decide +kernel
theorem dX11_append_62 : decode cX11_append 62 = .ok (.ireturn, 1) := by decide +kernel
theorem dX11_clearBuffer_0 : decode cX11_clearBuffer 0 = .ok (.aload_n 0, 1) := by decide +kernel
theorem dX11_clearBuffer_1 : decode cX11_clearBuffer 1 = .ok (.iconst 0, 1) := by decide +kernel
theorem dX11_clearBuffer_2 : decode cX11_clearBuffer 2 = .ok (.putfield 46, 3) := by decide +kernel
theorem dX11_clearBuffer_5 : decode cX11_clearBuffer 5 = .ok (.aload_n 0, 1) := by decide +kernel
theorem dX11_clearBuffer_6 : decode cX11_clearBuffer 6 = .ok (.getfield 140, 3) := by decide +kernel
theorem dX11_clearBuffer_9 : decode cX11_clearBuffer 9 = .ok (.istore_n 1, 1) := by decide +kernel
theorem dX11_clearBuffer_10 : decode cX11_clearBuffer 10 = .ok (.aload_n 0, 1) := by decide +kernel
theorem dX11_clearBuffer_11 : decode cX11_clearBuffer 11 = .ok (.iconst 0, 1) := by decide +kernel
theorem dX11_clearBuffer_12 : decode cX11_clearBuffer 12 = .ok (.putfield 140, 3) := by decide +kernel
theorem dX11_clearBuffer_15 : decode cX11_clearBuffer 15 = .ok (.iload_n 1, 1) := by decide +kernel
theorem dX11_clearBuffer_16 : decode cX11_clearBuffer 16 = .ok (.ireturn, 1) := by decide +kernel
theorem dX11_sign_0 : decode cX11_sign 0 = .ok (.iload_n 1, 1) := by decide +kernel
theorem dX11_sign_1 : decode cX11_sign 1 = .ok (.ifCond .lt 11, 3) := by decide +kernel
theorem dX11_sign_4 : decode cX11_sign 4 = .ok (.iload_n 1, 1) := by decide +kernel
theorem dX11_sign_5 : decode cX11_sign 5 = .ok (.aload_n 0, 1) := by decide +kernel
theorem dX11_sign_6 : decode cX11_sign 6 = .ok (.getfield 140, 3) := by decide +kernel
theorem dX11_sign_9 : decode cX11_sign 9 = .ok (.if_icmp .lt 7, 3) := by decide +kernel
theorem dX11_sign_12 : decode cX11_sign 12 = .ok (.iconst (-1), 1) := by decide +kernel
theorem dX11_sign_13 : decode cX11_sign 13 = .ok (.goto 9, 3) := by decide +kernel
theorem dX11_sign_16 : decode cX11_sign 16 = .ok (.aload_n 0, 1) := by decide +kernel
theorem dX11_sign_17 : decode cX11_sign 17 = .ok (.getfield 19, 3) := by decide +kernel
theorem dX11_sign_20 : decode cX11_sign 20 = .ok (.iload_n 1, 1) := by decide +kernel
theorem dX11_sign_21 : decode cX11_sign 21 = .ok (.iaload, 1) := by decide +kernel
theorem dX11_sign_22 : decode cX11_sign 22 = .ok (.ireturn, 1) := by decide +kernel
theorem dX11_depth_0 : decode cX11_depth 0 = .ok (.iconst 0, 1) := by decide +kernel
theorem dX11_depth_1 : decode cX11_depth 1 = .ok (.istore_n 2, 1) := by decide +kernel
theorem dX11_depth_2 : decode cX11_depth 2 = .ok (.iconst 0, 1) := by decide +kernel
theorem dX11_depth_3 : decode cX11_depth 3 = .ok (.istore_n 3, 1) := by decide +kernel
theorem dX11_depth_4 : decode cX11_depth 4 = .ok (.iload_n 3, 1) := by decide +kernel
theorem dX11_depth_5 : decode cX11_depth 5 = .ok (.iload_n 1, 1) := by decide +kernel
theorem dX11_depth_6 : decode cX11_depth 6 = .ok (.if_icmp .ge 41, 3) := by decide +kernel
theorem dX11_depth_9 : decode cX11_depth 9 = .ok (.iload_n 2, 1) := by decide +kernel
theorem dX11_depth_10 : decode cX11_depth 10 = .ok (.aload_n 0, 1) := by decide +kernel
theorem dX11_depth_11 : decode cX11_depth 11 = .ok (.iload_n 3, 1) := by decide +kernel
theorem dX11_depth_12 : decode cX11_depth 12 = .ok (.invokevirtual 143, 3) := by decide +kernel
theorem dX11_depth_15 : decode cX11_depth 15 = .ok (.bipush 40, 2) := by decide +kernel
theorem dX11_depth_17 : decode cX11_depth 17 = .ok (.if_icmp .ne 7, 3) := by decide +kernel
theorem dX11_depth_20 : decode cX11_depth 20 = .ok (.iconst 1, 1) := by decide +kernel
theorem dX11_depth_21 : decode cX11_depth 21 = .ok (.goto 18, 3) := by decide +kernel
theorem dX11_depth_24 : decode cX11_depth 24 = .ok (.aload_n 0, 1) := by decide +kernel
theorem dX11_depth_25 : decode cX11_depth 25 = .ok (.iload_n 3, 1) := by decide +kernel
theorem dX11_depth_26 : decode cX11_depth 26 = .ok (.invokevirtual 143, 3) := by decide +kernel
theorem dX11_depth_29 : decode cX11_depth 29 = .ok (.bipush 41, 2) := by decide +kernel
theorem dX11_depth_31 : decode cX11_depth 31 = .ok (.if_icmp .ne 7, 3) := by decide +kernel
theorem dX11_depth_34 : decode cX11_depth 34 = .ok (.iconst (-1), 1) := by decide +kernel
theorem dX11_depth_35 : decode cX11_depth 35 = .ok (.goto 4, 3) := by decide +kernel
theorem dX11_depth_38 : decode cX11_depth 38 = .ok (.iconst 0, 1) := by decide +kernel
theorem dX11_depth_39 : decode cX11_depth 39 = .ok (.iadd, 1) := by decide +kernel
theorem dX11_depth_40 : decode cX11_depth 40 = .ok (.istore_n 2, 1) := by decide +kernel
theorem dX11_depth_41 : decode cX11_depth 41 = .ok (.iinc 3 1, 3) := by decide +kernel
theorem dX11_depth_44 : decode cX11_depth 44 = .ok (.goto (-40), 3) := by decide +kernel
theorem dX11_depth_47 : decode cX11_depth 47 = .ok (.iload_n 2, 1) := by decide +kernel
theorem dX11_depth_48 : decode cX11_depth 48 = .ok (.ireturn, 1) := by decide +kernel
theorem dX11_isFigure_0 : decode cX11_isFigure 0 = .ok (.aload_n 0, 1) := by decide +kernel
theorem dX11_isFigure_1 : decode cX11_isFigure 1 = .ok (.iload_n 1, 1) := by decide +kernel
theorem dX11_isFigure_2 : decode cX11_isFigure 2 = .ok (.iconst 1, 1) := by decide +kernel
theorem dX11_isFigure_3 : decode cX11_isFigure 3 = .ok (.isub, 1) := by decide +kernel
theorem dX11_isFigure_4 : decode cX11_isFigure 4 = .ok (.invokevirtual 143, 3) := by decide +kernel
theorem dX11_isFigure_7 : decode cX11_isFigure 7 = .ok (.bipush 41, 2) := by decide +kernel
theorem dX11_isFigure_9 : decode cX11_isFigure 9 = .ok (.if_icmp .ne 7, 3) := by decide +kernel
theorem dX11_isFigure_12 : decode cX11_isFigure 12 = .ok (.iconst 1, 1) := by decide +kernel
theorem dX11_isFigure_13 : decode cX11_isFigure 13 = .ok (.goto 4, 3) := by decide +kernel
theorem dX11_isFigure_16 : decode cX11_isFigure 16 = .ok (.iconst 0, 1) := by decide +kernel
theorem dX11_isFigure_17 : decode cX11_isFigure 17 = .ok (.ireturn, 1) := by decide +kernel
theorem dX11_fits_0 : decode cX11_fits 0 = .ok (.aload_n 0, 1) := by decide +kernel
theorem dX11_fits_1 : decode cX11_fits 1 = .ok (.iload_n 1, 1) := by decide +kernel
theorem dX11_fits_2 : decode cX11_fits 2 = .ok (.invokevirtual 143, 3) := by decide +kernel
theorem dX11_fits_5 : decode cX11_fits 5 = .ok (.istore_n 2, 1) := by decide +kernel
theorem dX11_fits_6 : decode cX11_fits 6 = .ok (.aload_n 0, 1) := by decide +kernel
theorem dX11_fits_7 : decode cX11_fits 7 = .ok (.iload_n 1, 1) := by decide +kernel
theorem dX11_fits_8 : decode cX11_fits 8 = .ok (.invokevirtual 146, 3) := by decide +kernel
theorem dX11_fits_11 : decode cX11_fits 11 = .ok (.ifCond .eq 12, 3) := by decide +kernel
theorem dX11_fits_14 : decode cX11_fits 14 = .ok (.iload_n 2, 1) := by decide +kernel
theorem dX11_fits_15 : decode cX11_fits 15 = .ok (.bipush 50, 2) := by decide +kernel
theorem dX11_fits_17 : decode cX11_fits 17 = .ok (.bipush 57, 2) := by decide +kernel
theorem dX11_fits_19 : decode cX11_fits 19 = .ok (.invokestatic 50, 3) := by decide +kernel
theorem dX11_fits_22 : decode cX11_fits 22 = .ok (.ireturn, 1) := by decide +kernel
theorem dX11_fits_23 : decode cX11_fits 23 = .ok (.iload_n 2, 1) := by decide +kernel
theorem dX11_fits_24 : decode cX11_fits 24 = .ok (.bipush 48, 2) := by decide +kernel
theorem dX11_fits_26 : decode cX11_fits 26 = .ok (.bipush 51, 2) := by decide +kernel
theorem dX11_fits_28 : decode cX11_fits 28 = .ok (.invokestatic 50, 3) := by decide +kernel
theorem dX11_fits_31 : decode cX11_fits 31 = .ok (.ifCond .eq 5, 3) := by decide +kernel
theorem dX11_fits_34 : decode cX11_fits 34 = .ok (.iconst 1, 1) := by decide +kernel
theorem dX11_fits_35 : decode cX11_fits 35 = .ok (.ireturn, 1) := by decide +kernel
theorem dX11_fits_36 : decode cX11_fits 36 = .ok (.iload_n 1, 1) := by decide +kernel
theorem dX11_fits_37 : decode cX11_fits 37 = .ok (.ifCond .le 19, 3) := by decide +kernel
theorem dX11_fits_40 : decode cX11_fits 40 = .ok (.aload_n 0, 1) := by decide +kernel
theorem dX11_fits_41 : decode cX11_fits 41 = .ok (.iload_n 1, 1) := by decide +kernel
theorem dX11_fits_42 : decode cX11_fits 42 = .ok (.iconst 1, 1) := by decide +kernel
theorem dX11_fits_43 : decode cX11_fits 43 = .ok (.isub, 1) := by decide +kernel
theorem dX11_fits_44 : decode cX11_fits 44 = .ok (.invokevirtual 143, 3) := by decide +kernel
theorem dX11_fits_47 : decode cX11_fits 47 = .ok (.bipush 40, 2) := by decide +kernel
theorem dX11_fits_49 : decode cX11_fits 49 = .ok (.if_icmp .eq 7, 3) := by decide +kernel
theorem dX11_fits_52 : decode cX11_fits 52 = .ok (.iconst 1, 1) := by decide +kernel
theorem dX11_fits_53 : decode cX11_fits 53 = .ok (.goto 4, 3) := by decide +kernel
theorem dX11_fits_56 : decode cX11_fits 56 = .ok (.iconst 0, 1) := by decide +kernel
theorem dX11_fits_57 : decode cX11_fits 57 = .ok (.istore_n 3, 1) := by decide +kernel
theorem dX11_fits_58 : decode cX11_fits 58 = .ok (.iload_n 2, 1) := by decide +kernel
theorem dX11_fits_59 : decode cX11_fits 59 = .ok (.bipush 40, 2) := by decide +kernel
theorem dX11_fits_61 : decode cX11_fits 61 = .ok (.if_icmp .ne 20, 3) := by decide +kernel
theorem dX11_fits_64 : decode cX11_fits 64 = .ok (.aload_n 0, 1) := by decide +kernel
theorem dX11_fits_65 : decode cX11_fits 65 = .ok (.iload_n 1, 1) := by decide +kernel
theorem dX11_fits_66 : decode cX11_fits 66 = .ok (.invokevirtual 149, 3) := by decide +kernel
theorem dX11_fits_69 : decode cX11_fits 69 = .ok (.iconst 5, 1) := by decide +kernel
theorem dX11_fits_70 : decode cX11_fits 70 = .ok (.if_icmp .ge 7, 3) := by decide +kernel
theorem dX11_fits_73 : decode cX11_fits 73 = .ok (.iconst 1, 1) := by decide +kernel
theorem dX11_fits_74 : decode cX11_fits 74 = .ok (.goto 30, 3) := by decide +kernel
theorem dX11_fits_77 : decode cX11_fits 77 = .ok (.iconst 0, 1) := by decide +kernel
theorem dX11_fits_78 : decode cX11_fits 78 = .ok (.goto 26, 3) := by decide +kernel
theorem dX11_fits_81 : decode cX11_fits 81 = .ok (.iload_n 2, 1) := by decide +kernel
theorem dX11_fits_82 : decode cX11_fits 82 = .ok (.bipush 41, 2) := by decide +kernel
theorem dX11_fits_84 : decode cX11_fits 84 = .ok (.if_icmp .ne 19, 3) := by decide +kernel
theorem dX11_fits_87 : decode cX11_fits 87 = .ok (.iload_n 3, 1) := by decide +kernel
theorem dX11_fits_88 : decode cX11_fits 88 = .ok (.ifCond .eq 15, 3) := by decide +kernel
theorem dX11_fits_91 : decode cX11_fits 91 = .ok (.aload_n 0, 1) := by decide +kernel
theorem dX11_fits_92 : decode cX11_fits 92 = .ok (.iload_n 1, 1) := by decide +kernel
theorem dX11_fits_93 : decode cX11_fits 93 = .ok (.invokevirtual 149, 3) := by decide +kernel
theorem dX11_fits_96 : decode cX11_fits 96 = .ok (.ifCond .le 7, 3) := by decide +kernel
theorem dX11_fits_99 : decode cX11_fits 99 = .ok (.iconst 1, 1) := by decide +kernel
theorem dX11_fits_100 : decode cX11_fits 100 = .ok (.goto 4, 3) := by decide +kernel
theorem dX11_fits_103 : decode cX11_fits 103 = .ok (.iconst 0, 1) := by decide +kernel
theorem dX11_fits_104 : decode cX11_fits 104 = .ok (.ireturn, 1) := by decide +kernel
theorem dX11_errorAt_0 : decode cX11_errorAt 0 = .ok (.iconst 0, 1) := by decide +kernel
theorem dX11_errorAt_1 : decode cX11_errorAt 1 = .ok (.istore_n 1, 1) := by decide +kernel
theorem dX11_errorAt_2 : decode cX11_errorAt 2 = .ok (.iload_n 1, 1) := by decide +kernel
theorem dX11_errorAt_3 : decode cX11_errorAt 3 = .ok (.aload_n 0, 1) := by decide +kernel
theorem dX11_errorAt_4 : decode cX11_errorAt 4 = .ok (.getfield 140, 3) := by decide +kernel
theorem dX11_errorAt_7 : decode cX11_errorAt 7 = .ok (.if_icmp .ge 19, 3) := by decide +kernel
theorem dX11_errorAt_10 : decode cX11_errorAt 10 = .ok (.aload_n 0, 1) := by decide +kernel
theorem dX11_errorAt_11 : decode cX11_errorAt 11 = .ok (.iload_n 1, 1) := by decide +kernel
theorem dX11_errorAt_12 : decode cX11_errorAt 12 = .ok (.invokevirtual 152, 3) := by decide +kernel
theorem dX11_errorAt_15 : decode cX11_errorAt 15 = .ok (.ifCond .ne 5, 3) := by decide +kernel
theorem dX11_errorAt_18 : decode cX11_errorAt 18 = .ok (.iload_n 1, 1) := by decide +kernel
theorem dX11_errorAt_19 : decode cX11_errorAt 19 = .ok (.ireturn, 1) := by decide +kernel
theorem dX11_errorAt_20 : decode cX11_errorAt 20 = .ok (.iinc 1 1, 3) := by decide +kernel
theorem dX11_errorAt_23 : decode cX11_errorAt 23 = .ok (.goto (-21), 3) := by decide +kernel
theorem dX11_errorAt_26 : decode cX11_errorAt 26 = .ok (.aload_n 0, 1) := by decide +kernel
theorem dX11_errorAt_27 : decode cX11_errorAt 27 = .ok (.getfield 140, 3) := by decide +kernel
theorem dX11_errorAt_30 : decode cX11_errorAt 30 = .ok (.ireturn, 1) := by decide +kernel
theorem dX11_firstError_0 : decode cX11_firstError 0 = .ok (.aload_n 0, 1) := by decide +kernel
theorem dX11_firstError_1 : decode cX11_firstError 1 = .ok (.iconst 0, 1) := by decide +kernel
theorem dX11_firstError_2 : decode cX11_firstError 2 = .ok (.putfield 46, 3) := by decide +kernel
theorem dX11_firstError_5 : decode cX11_firstError 5 = .ok (.aload_n 0, 1) := by decide +kernel
theorem dX11_firstError_6 : decode cX11_firstError 6 = .ok (.invokevirtual 155, 3) := by decide +kernel
theorem dX11_firstError_9 : decode cX11_firstError 9 = .ok (.ireturn, 1) := by decide +kernel
theorem dX11_isComplete_0 : decode cX11_isComplete 0 = .ok (.aload_n 0, 1) := by decide +kernel
theorem dX11_isComplete_1 : decode cX11_isComplete 1 = .ok (.getfield 140, 3) := by decide +kernel
theorem dX11_isComplete_4 : decode cX11_isComplete 4 = .ok (.ifCond .le 44, 3) := by decide +kernel
theorem dX11_isComplete_7 : decode cX11_isComplete 7 = .ok (.aload_n 0, 1) := by decide +kernel
theorem dX11_isComplete_8 : decode cX11_isComplete 8 = .ok (.invokevirtual 155, 3) := by decide +kernel
theorem dX11_isComplete_11 : decode cX11_isComplete 11 = .ok (.aload_n 0, 1) := by decide +kernel
theorem dX11_isComplete_12 : decode cX11_isComplete 12 = .ok (.getfield 140, 3) := by decide +kernel
theorem dX11_isComplete_15 : decode cX11_isComplete 15 = .ok (.if_icmp .ne 33, 3) := by decide +kernel
theorem dX11_isComplete_18 : decode cX11_isComplete 18 = .ok (.aload_n 0, 1) := by decide +kernel
theorem dX11_isComplete_19 : decode cX11_isComplete 19 = .ok (.aload_n 0, 1) := by decide +kernel
theorem dX11_isComplete_20 : decode cX11_isComplete 20 = .ok (.getfield 140, 3) := by decide +kernel
theorem dX11_isComplete_23 : decode cX11_isComplete 23 = .ok (.invokevirtual 149, 3) := by decide +kernel
theorem dX11_isComplete_26 : decode cX11_isComplete 26 = .ok (.ifCond .ne 22, 3) := by decide +kernel
theorem dX11_isComplete_29 : decode cX11_isComplete 29 = .ok (.aload_n 0, 1) := by decide +kernel
theorem dX11_isComplete_30 : decode cX11_isComplete 30 = .ok (.aload_n 0, 1) := by decide +kernel
theorem dX11_isComplete_31 : decode cX11_isComplete 31 = .ok (.getfield 140, 3) := by decide +kernel
theorem dX11_isComplete_34 : decode cX11_isComplete 34 = .ok (.iconst 1, 1) := by decide +kernel
theorem dX11_isComplete_35 : decode cX11_isComplete 35 = .ok (.isub, 1) := by decide +kernel
theorem dX11_isComplete_36 : decode cX11_isComplete 36 = .ok (.invokevirtual 143, 3) := by decide +kernel
theorem dX11_isComplete_39 : decode cX11_isComplete 39 = .ok (.bipush 41, 2) := by decide +kernel
theorem dX11_isComplete_41 : decode cX11_isComplete 41 = .ok (.if_icmp .eq 7, 3) := by decide +kernel
theorem dX11_isComplete_44 : decode cX11_isComplete 44 = .ok (.iconst 1, 1) := by decide +kernel
theorem dX11_isComplete_45 : decode cX11_isComplete 45 = .ok (.goto 4, 3) := by decide +kernel
theorem dX11_isComplete_48 : decode cX11_isComplete 48 = .ok (.iconst 0, 1) := by decide +kernel
theorem dX11_isComplete_49 : decode cX11_isComplete 49 = .ok (.ireturn, 1) := by decide +kernel
theorem dX11_goes_0 : decode cX11_goes 0 = .ok (.aload_n 0, 1) := by decide +kernel
theorem dX11_goes_1 : decode cX11_goes 1 = .ok (.iload_n 1, 1) := by decide +kernel
theorem dX11_goes_2 : decode cX11_goes 2 = .ok (.invokevirtual 143, 3) := by decide +kernel
theorem dX11_goes_5 : decode cX11_goes 5 = .ok (.bipush 40, 2) := by decide +kernel
theorem dX11_goes_7 : decode cX11_goes 7 = .ok (.if_icmp .ne 21, 3) := by decide +kernel
theorem dX11_goes_10 : decode cX11_goes 10 = .ok (.aload_n 0, 1) := by decide +kernel
theorem dX11_goes_11 : decode cX11_goes 11 = .ok (.getfield 34, 3) := by decide +kernel
theorem dX11_goes_14 : decode cX11_goes 14 = .ok (.iload_n 2, 1) := by decide +kernel
theorem dX11_goes_15 : decode cX11_goes 15 = .ok (.iload_n 1, 1) := by decide +kernel
theorem dX11_goes_16 : decode cX11_goes 16 = .ok (.iastore, 1) := by decide +kernel
theorem dX11_goes_17 : decode cX11_goes 17 = .ok (.aload_n 0, 1) := by decide +kernel
theorem dX11_goes_18 : decode cX11_goes 18 = .ok (.getfield 37, 3) := by decide +kernel
theorem dX11_goes_21 : decode cX11_goes 21 = .ok (.iload_n 2, 1) := by decide +kernel
theorem dX11_goes_22 : decode cX11_goes 22 = .ok (.iconst 1, 1) := by decide +kernel
theorem dX11_goes_23 : decode cX11_goes 23 = .ok (.iastore, 1) := by decide +kernel
theorem dX11_goes_24 : decode cX11_goes 24 = .ok (.iload_n 1, 1) := by decide +kernel
theorem dX11_goes_25 : decode cX11_goes 25 = .ok (.iconst 1, 1) := by decide +kernel
theorem dX11_goes_26 : decode cX11_goes 26 = .ok (.iadd, 1) := by decide +kernel
theorem dX11_goes_27 : decode cX11_goes 27 = .ok (.ireturn, 1) := by decide +kernel
theorem dX11_goes_28 : decode cX11_goes 28 = .ok (.aload_n 0, 1) := by decide +kernel
theorem dX11_goes_29 : decode cX11_goes 29 = .ok (.iload_n 1, 1) := by decide +kernel
theorem dX11_goes_30 : decode cX11_goes 30 = .ok (.invokevirtual 143, 3) := by decide +kernel
theorem dX11_goes_33 : decode cX11_goes 33 = .ok (.bipush 41, 2) := by decide +kernel
theorem dX11_goes_35 : decode cX11_goes 35 = .ok (.if_icmp .ne 47, 3) := by decide +kernel
theorem dX11_goes_38 : decode cX11_goes 38 = .ok (.aload_n 0, 1) := by decide +kernel
theorem dX11_goes_39 : decode cX11_goes 39 = .ok (.getfield 37, 3) := by decide +kernel
theorem dX11_goes_42 : decode cX11_goes 42 = .ok (.iload_n 2, 1) := by decide +kernel
theorem dX11_goes_43 : decode cX11_goes 43 = .ok (.iconst 1, 1) := by decide +kernel
theorem dX11_goes_44 : decode cX11_goes 44 = .ok (.isub, 1) := by decide +kernel
theorem dX11_goes_45 : decode cX11_goes 45 = .ok (.iaload, 1) := by decide +kernel
theorem dX11_goes_46 : decode cX11_goes 46 = .ok (.aload_n 0, 1) := by decide +kernel
theorem dX11_goes_47 : decode cX11_goes 47 = .ok (.iload_n 1, 1) := by decide +kernel
theorem dX11_goes_48 : decode cX11_goes 48 = .ok (.iconst 1, 1) := by decide +kernel
theorem dX11_goes_49 : decode cX11_goes 49 = .ok (.iadd, 1) := by decide +kernel
theorem dX11_goes_50 : decode cX11_goes 50 = .ok (.invokevirtual 143, 3) := by decide +kernel
theorem dX11_goes_53 : decode cX11_goes 53 = .ok (.bipush 48, 2) := by decide +kernel
theorem dX11_goes_55 : decode cX11_goes 55 = .ok (.isub, 1) := by decide +kernel
theorem dX11_goes_56 : decode cX11_goes 56 = .ok (.if_icmp .ge 26, 3) := by decide +kernel
theorem dX11_goes_59 : decode cX11_goes 59 = .ok (.aload_n 0, 1) := by decide +kernel
theorem dX11_goes_60 : decode cX11_goes 60 = .ok (.getfield 37, 3) := by decide +kernel
theorem dX11_goes_63 : decode cX11_goes 63 = .ok (.iload_n 2, 1) := by decide +kernel
theorem dX11_goes_64 : decode cX11_goes 64 = .ok (.iconst 1, 1) := by decide +kernel
theorem dX11_goes_65 : decode cX11_goes 65 = .ok (.isub, 1) := by decide +kernel
theorem dX11_goes_66 : decode cX11_goes 66 = .ok (.dup2, 1) := by decide +kernel
theorem dX11_goes_67 : decode cX11_goes 67 = .ok (.iaload, 1) := by decide +kernel
theorem dX11_goes_68 : decode cX11_goes 68 = .ok (.iconst 1, 1) := by decide +kernel
theorem dX11_goes_69 : decode cX11_goes 69 = .ok (.iadd, 1) := by decide +kernel
theorem dX11_goes_70 : decode cX11_goes 70 = .ok (.iastore, 1) := by decide +kernel
theorem dX11_goes_71 : decode cX11_goes 71 = .ok (.aload_n 0, 1) := by decide +kernel
theorem dX11_goes_72 : decode cX11_goes 72 = .ok (.getfield 34, 3) := by decide +kernel
theorem dX11_goes_75 : decode cX11_goes 75 = .ok (.iload_n 2, 1) := by decide +kernel
theorem dX11_goes_76 : decode cX11_goes 76 = .ok (.iconst 1, 1) := by decide +kernel
theorem dX11_goes_77 : decode cX11_goes 77 = .ok (.isub, 1) := by decide +kernel
theorem dX11_goes_78 : decode cX11_goes 78 = .ok (.iaload, 1) := by decide +kernel
theorem dX11_goes_79 : decode cX11_goes 79 = .ok (.iconst 1, 1) := by decide +kernel
theorem dX11_goes_80 : decode cX11_goes 80 = .ok (.iadd, 1) := by decide +kernel
theorem dX11_goes_81 : decode cX11_goes 81 = .ok (.ireturn, 1) := by decide +kernel
theorem dX11_goes_82 : decode cX11_goes 82 = .ok (.aload_n 0, 1) := by decide +kernel
theorem dX11_goes_83 : decode cX11_goes 83 = .ok (.iload_n 1, 1) := by decide +kernel
theorem dX11_goes_84 : decode cX11_goes 84 = .ok (.invokevirtual 143, 3) := by decide +kernel
theorem dX11_goes_87 : decode cX11_goes 87 = .ok (.bipush 41, 2) := by decide +kernel
theorem dX11_goes_89 : decode cX11_goes 89 = .ok (.if_icmp .ne 9, 3) := by decide +kernel
theorem dX11_goes_92 : decode cX11_goes 92 = .ok (.iload_n 1, 1) := by decide +kernel
theorem dX11_goes_93 : decode cX11_goes 93 = .ok (.iconst 2, 1) := by decide +kernel
theorem dX11_goes_94 : decode cX11_goes 94 = .ok (.iadd, 1) := by decide +kernel
theorem dX11_goes_95 : decode cX11_goes 95 = .ok (.goto 6, 3) := by decide +kernel
theorem dX11_goes_98 : decode cX11_goes 98 = .ok (.iload_n 1, 1) := by decide +kernel
theorem dX11_goes_99 : decode cX11_goes 99 = .ok (.iconst 1, 1) := by decide +kernel
theorem dX11_goes_100 : decode cX11_goes 100 = .ok (.iadd, 1) := by decide +kernel
theorem dX11_goes_101 : decode cX11_goes 101 = .ok (.ireturn, 1) := by decide +kernel
theorem dX11_word_0 : decode cX11_word 0 = .ok (.aload_n 0, 1) := by decide +kernel
theorem dX11_word_1 : decode cX11_word 1 = .ok (.iload_n 1, 1) := by decide +kernel
theorem dX11_word_2 : decode cX11_word 2 = .ok (.invokestatic 112, 3) := by decide +kernel
theorem dX11_word_5 : decode cX11_word 5 = .ok (.ifCond .ne 7, 3) := by decide +kernel
theorem dX11_word_8 : decode cX11_word 8 = .ok (.iconst 1, 1) := by decide +kernel
theorem dX11_word_9 : decode cX11_word 9 = .ok (.goto 15, 3) := by decide +kernel
theorem dX11_word_12 : decode cX11_word 12 = .ok (.aload_n 0, 1) := by decide +kernel
theorem dX11_word_13 : decode cX11_word 13 = .ok (.invokevirtual 158, 3) := by decide +kernel
theorem dX11_word_16 : decode cX11_word 16 = .ok (.ifCond .eq 7, 3) := by decide +kernel
theorem dX11_word_19 : decode cX11_word 19 = .ok (.iconst 0, 1) := by decide +kernel
theorem dX11_word_20 : decode cX11_word 20 = .ok (.goto 4, 3) := by decide +kernel
theorem dX11_word_23 : decode cX11_word 23 = .ok (.iconst 2, 1) := by decide +kernel
theorem dX11_word_24 : decode cX11_word 24 = .ok (.invokevirtual 119, 3) := by decide +kernel
theorem dX11_word_27 : decode cX11_word 27 = .ok (.ifCond .eq 5, 3) := by decide +kernel
theorem dX11_word_30 : decode cX11_word 30 = .ok (.iconst 0, 1) := by decide +kernel
theorem dX11_word_31 : decode cX11_word 31 = .ok (.ireturn, 1) := by decide +kernel
theorem dX11_word_32 : decode cX11_word 32 = .ok (.aload_n 0, 1) := by decide +kernel
theorem dX11_word_33 : decode cX11_word 33 = .ok (.invokevirtual 122, 3) := by decide +kernel
theorem dX11_word_36 : decode cX11_word 36 = .ok (.iconst 0, 1) := by decide +kernel
theorem dX11_word_37 : decode cX11_word 37 = .ok (.istore_n 2, 1) := by decide +kernel
theorem dX11_word_38 : decode cX11_word 38 = .ok (.iconst 0, 1) := by decide +kernel
theorem dX11_word_39 : decode cX11_word 39 = .ok (.istore_n 3, 1) := by decide +kernel
theorem dX11_word_40 : decode cX11_word 40 = .ok (.iconst 1, 1) := by decide +kernel
theorem dX11_word_41 : decode cX11_word 41 = .ok (.istore 4, 2) := by decide +kernel
theorem dX11_word_43 : decode cX11_word 43 = .ok (.iload_n 3, 1) := by decide +kernel
theorem dX11_word_44 : decode cX11_word 44 = .ok (.aload_n 0, 1) := by decide +kernel
theorem dX11_word_45 : decode cX11_word 45 = .ok (.getfield 140, 3) := by decide +kernel
theorem dX11_word_48 : decode cX11_word 48 = .ok (.if_icmp .ge 96, 3) := by decide +kernel
theorem dX11_word_51 : decode cX11_word 51 = .ok (.iload 4, 2) := by decide +kernel
theorem dX11_word_53 : decode cX11_word 53 = .ok (.ifCond .eq 91, 3) := by decide +kernel
theorem dX11_word_56 : decode cX11_word 56 = .ok (.aload_n 0, 1) := by decide +kernel
theorem dX11_word_57 : decode cX11_word 57 = .ok (.iload_n 3, 1) := by decide +kernel
theorem dX11_word_58 : decode cX11_word 58 = .ok (.invokevirtual 143, 3) := by decide +kernel
theorem dX11_word_61 : decode cX11_word 61 = .ok (.bipush 40, 2) := by decide +kernel
theorem dX11_word_63 : decode cX11_word 63 = .ok (.if_icmp .eq 17, 3) := by decide +kernel
theorem dX11_word_66 : decode cX11_word 66 = .ok (.aload_n 0, 1) := by decide +kernel
theorem dX11_word_67 : decode cX11_word 67 = .ok (.iload_n 3, 1) := by decide +kernel
theorem dX11_word_68 : decode cX11_word 68 = .ok (.invokevirtual 143, 3) := by decide +kernel
theorem dX11_word_71 : decode cX11_word 71 = .ok (.bipush 41, 2) := by decide +kernel
theorem dX11_word_73 : decode cX11_word 73 = .ok (.if_icmp .eq 7, 3) := by decide +kernel
theorem dX11_word_76 : decode cX11_word 76 = .ok (.iconst 1, 1) := by decide +kernel
theorem dX11_word_77 : decode cX11_word 77 = .ok (.goto 4, 3) := by decide +kernel
theorem dX11_word_80 : decode cX11_word 80 = .ok (.iconst 0, 1) := by decide +kernel
theorem dX11_word_81 : decode cX11_word 81 = .ok (.istore 5, 2) := by decide +kernel
theorem dX11_word_83 : decode cX11_word 83 = .ok (.iload 5, 2) := by decide +kernel
theorem dX11_word_85 : decode cX11_word 85 = .ok (.ifCond .eq 45, 3) := by decide +kernel
theorem dX11_word_88 : decode cX11_word 88 = .ok (.aload_n 0, 1) := by decide +kernel
theorem dX11_word_89 : decode cX11_word 89 = .ok (.iload_n 3, 1) := by decide +kernel
theorem dX11_word_90 : decode cX11_word 90 = .ok (.invokevirtual 143, 3) := by decide +kernel
theorem dX11_word_93 : decode cX11_word 93 = .ok (.bipush 48, 2) := by decide +kernel
theorem dX11_word_95 : decode cX11_word 95 = .ok (.isub, 1) := by decide +kernel
theorem dX11_word_96 : decode cX11_word 96 = .ok (.istore 6, 2) := by decide +kernel
theorem dX11_word_98 : decode cX11_word 98 = .ok (.aload_n 0, 1) := by decide +kernel
theorem dX11_word_99 : decode cX11_word 99 = .ok (.iload_n 1, 1) := by decide +kernel
theorem dX11_word_100 : decode cX11_word 100 = .ok (.iload 6, 2) := by decide +kernel
theorem dX11_word_102 : decode cX11_word 102 = .ok (.invokevirtual 116, 3) := by decide +kernel
theorem dX11_word_105 : decode cX11_word 105 = .ok (.ifCond .ne 7, 3) := by decide +kernel
theorem dX11_word_108 : decode cX11_word 108 = .ok (.iconst 1, 1) := by decide +kernel
theorem dX11_word_109 : decode cX11_word 109 = .ok (.goto 4, 3) := by decide +kernel
theorem dX11_word_112 : decode cX11_word 112 = .ok (.iconst 0, 1) := by decide +kernel
theorem dX11_word_113 : decode cX11_word 113 = .ok (.istore 4, 2) := by decide +kernel
theorem dX11_word_115 : decode cX11_word 115 = .ok (.iload 4, 2) := by decide +kernel
theorem dX11_word_117 : decode cX11_word 117 = .ok (.ifCond .eq 13, 3) := by decide +kernel
theorem dX11_word_120 : decode cX11_word 120 = .ok (.aload_n 0, 1) := by decide +kernel
theorem dX11_word_121 : decode cX11_word 121 = .ok (.iload_n 1, 1) := by decide +kernel
theorem dX11_word_122 : decode cX11_word 122 = .ok (.iload 6, 2) := by decide +kernel
theorem dX11_word_124 : decode cX11_word 124 = .ok (.invokevirtual 125, 3) := by decide +kernel
theorem dX11_word_127 : decode cX11_word 127 = .ok (.iinc 2 1, 3) := by decide +kernel
theorem dX11_word_130 : decode cX11_word 130 = .ok (.aload_n 0, 1) := by decide +kernel
theorem dX11_word_131 : decode cX11_word 131 = .ok (.iload_n 3, 1) := by decide +kernel
theorem dX11_word_132 : decode cX11_word 132 = .ok (.aload_n 0, 1) := by decide +kernel
theorem dX11_word_133 : decode cX11_word 133 = .ok (.iload_n 3, 1) := by decide +kernel
theorem dX11_word_134 : decode cX11_word 134 = .ok (.invokevirtual 149, 3) := by decide +kernel
theorem dX11_word_137 : decode cX11_word 137 = .ok (.invokevirtual 161, 3) := by decide +kernel
theorem dX11_word_140 : decode cX11_word 140 = .ok (.istore_n 3, 1) := by decide +kernel
theorem dX11_word_141 : decode cX11_word 141 = .ok (.goto (-98), 3) := by decide +kernel
theorem dX11_word_144 : decode cX11_word 144 = .ok (.aload_n 0, 1) := by decide +kernel
theorem dX11_word_145 : decode cX11_word 145 = .ok (.iconst 0, 1) := by decide +kernel
theorem dX11_word_146 : decode cX11_word 146 = .ok (.putfield 140, 3) := by decide +kernel
theorem dX11_word_149 : decode cX11_word 149 = .ok (.iload_n 2, 1) := by decide +kernel
theorem dX11_word_150 : decode cX11_word 150 = .ok (.ireturn, 1) := by decide +kernel
theorem dX11_creases_0 : decode cX11_creases 0 = .ok (.aload_n 0, 1) := by decide +kernel
theorem dX11_creases_1 : decode cX11_creases 1 = .ok (.aload_n 0, 1) := by decide +kernel
theorem dX11_creases_2 : decode cX11_creases 2 = .ok (.invokevirtual 158, 3) := by decide +kernel
theorem dX11_creases_5 : decode cX11_creases 5 = .ok (.ifCond .eq 7, 3) := by decide +kernel
theorem dX11_creases_8 : decode cX11_creases 8 = .ok (.iconst 0, 1) := by decide +kernel
theorem dX11_creases_9 : decode cX11_creases 9 = .ok (.goto 4, 3) := by decide +kernel
theorem dX11_creases_12 : decode cX11_creases 12 = .ok (.iconst 1, 1) := by decide +kernel
theorem dX11_creases_13 : decode cX11_creases 13 = .ok (.invokevirtual 119, 3) := by decide +kernel
theorem dX11_creases_16 : decode cX11_creases 16 = .ok (.ifCond .eq 5, 3) := by decide +kernel
theorem dX11_creases_19 : decode cX11_creases 19 = .ok (.iconst 0, 1) := by decide +kernel
theorem dX11_creases_20 : decode cX11_creases 20 = .ok (.ireturn, 1) := by decide +kernel
theorem dX11_creases_21 : decode cX11_creases 21 = .ok (.iconst 0, 1) := by decide +kernel
theorem dX11_creases_22 : decode cX11_creases 22 = .ok (.istore_n 1, 1) := by decide +kernel
theorem dX11_creases_23 : decode cX11_creases 23 = .ok (.aload_n 0, 1) := by decide +kernel
theorem dX11_creases_24 : decode cX11_creases 24 = .ok (.getfield 37, 3) := by decide +kernel
theorem dX11_creases_27 : decode cX11_creases 27 = .ok (.iconst 0, 1) := by decide +kernel
theorem dX11_creases_28 : decode cX11_creases 28 = .ok (.iconst 0, 1) := by decide +kernel
theorem dX11_creases_29 : decode cX11_creases 29 = .ok (.iastore, 1) := by decide +kernel
theorem dX11_creases_30 : decode cX11_creases 30 = .ok (.iconst 0, 1) := by decide +kernel
theorem dX11_creases_31 : decode cX11_creases 31 = .ok (.istore_n 2, 1) := by decide +kernel
theorem dX11_creases_32 : decode cX11_creases 32 = .ok (.iload_n 2, 1) := by decide +kernel
theorem dX11_creases_33 : decode cX11_creases 33 = .ok (.aload_n 0, 1) := by decide +kernel
theorem dX11_creases_34 : decode cX11_creases 34 = .ok (.getfield 140, 3) := by decide +kernel
theorem dX11_creases_37 : decode cX11_creases 37 = .ok (.if_icmp .ge 122, 3) := by decide +kernel
theorem dX11_creases_40 : decode cX11_creases 40 = .ok (.aload_n 0, 1) := by decide +kernel
theorem dX11_creases_41 : decode cX11_creases 41 = .ok (.iload_n 2, 1) := by decide +kernel
theorem dX11_creases_42 : decode cX11_creases 42 = .ok (.invokevirtual 143, 3) := by decide +kernel
theorem dX11_creases_45 : decode cX11_creases 45 = .ok (.bipush 40, 2) := by decide +kernel
theorem dX11_creases_47 : decode cX11_creases 47 = .ok (.if_icmp .ne 19, 3) := by decide +kernel
theorem dX11_creases_50 : decode cX11_creases 50 = .ok (.iinc 1 1, 3) := by decide +kernel
theorem dX11_creases_53 : decode cX11_creases 53 = .ok (.aload_n 0, 1) := by decide +kernel
theorem dX11_creases_54 : decode cX11_creases 54 = .ok (.getfield 37, 3) := by decide +kernel
theorem dX11_creases_57 : decode cX11_creases 57 = .ok (.iload_n 1, 1) := by decide +kernel
theorem dX11_creases_58 : decode cX11_creases 58 = .ok (.iconst 0, 1) := by decide +kernel
theorem dX11_creases_59 : decode cX11_creases 59 = .ok (.iastore, 1) := by decide +kernel
theorem dX11_creases_60 : decode cX11_creases 60 = .ok (.iinc 2 1, 3) := by decide +kernel
theorem dX11_creases_63 : decode cX11_creases 63 = .ok (.goto 63, 3) := by decide +kernel
theorem dX11_creases_66 : decode cX11_creases 66 = .ok (.aload_n 0, 1) := by decide +kernel
theorem dX11_creases_67 : decode cX11_creases 67 = .ok (.iload_n 2, 1) := by decide +kernel
theorem dX11_creases_68 : decode cX11_creases 68 = .ok (.invokevirtual 143, 3) := by decide +kernel
theorem dX11_creases_71 : decode cX11_creases 71 = .ok (.bipush 41, 2) := by decide +kernel
theorem dX11_creases_73 : decode cX11_creases 73 = .ok (.if_icmp .ne 40, 3) := by decide +kernel
theorem dX11_creases_76 : decode cX11_creases 76 = .ok (.iinc 1 (-1), 3) := by decide +kernel
theorem dX11_creases_79 : decode cX11_creases 79 = .ok (.aload_n 0, 1) := by decide +kernel
theorem dX11_creases_80 : decode cX11_creases 80 = .ok (.getfield 37, 3) := by decide +kernel
theorem dX11_creases_83 : decode cX11_creases 83 = .ok (.iload_n 1, 1) := by decide +kernel
theorem dX11_creases_84 : decode cX11_creases 84 = .ok (.dup2, 1) := by decide +kernel
theorem dX11_creases_85 : decode cX11_creases 85 = .ok (.iaload, 1) := by decide +kernel
theorem dX11_creases_86 : decode cX11_creases 86 = .ok (.aload_n 0, 1) := by decide +kernel
theorem dX11_creases_87 : decode cX11_creases 87 = .ok (.getfield 37, 3) := by decide +kernel
theorem dX11_creases_90 : decode cX11_creases 90 = .ok (.iload_n 1, 1) := by decide +kernel
theorem dX11_creases_91 : decode cX11_creases 91 = .ok (.iconst 1, 1) := by decide +kernel
theorem dX11_creases_92 : decode cX11_creases 92 = .ok (.iadd, 1) := by decide +kernel
theorem dX11_creases_93 : decode cX11_creases 93 = .ok (.iaload, 1) := by decide +kernel
theorem dX11_creases_94 : decode cX11_creases 94 = .ok (.aload_n 0, 1) := by decide +kernel
theorem dX11_creases_95 : decode cX11_creases 95 = .ok (.iload_n 2, 1) := by decide +kernel
theorem dX11_creases_96 : decode cX11_creases 96 = .ok (.iconst 1, 1) := by decide +kernel
theorem dX11_creases_97 : decode cX11_creases 97 = .ok (.iadd, 1) := by decide +kernel
theorem dX11_creases_98 : decode cX11_creases 98 = .ok (.invokevirtual 143, 3) := by decide +kernel
theorem dX11_creases_101 : decode cX11_creases 101 = .ok (.bipush 48, 2) := by decide +kernel
theorem dX11_creases_103 : decode cX11_creases 103 = .ok (.isub, 1) := by decide +kernel
theorem dX11_creases_104 : decode cX11_creases 104 = .ok (.imul, 1) := by decide +kernel
theorem dX11_creases_105 : decode cX11_creases 105 = .ok (.iadd, 1) := by decide +kernel
theorem dX11_creases_106 : decode cX11_creases 106 = .ok (.iastore, 1) := by decide +kernel
theorem dX11_creases_107 : decode cX11_creases 107 = .ok (.iinc 2 2, 3) := by decide +kernel
theorem dX11_creases_110 : decode cX11_creases 110 = .ok (.goto 16, 3) := by decide +kernel
theorem dX11_creases_113 : decode cX11_creases 113 = .ok (.aload_n 0, 1) := by decide +kernel
theorem dX11_creases_114 : decode cX11_creases 114 = .ok (.getfield 37, 3) := by decide +kernel
theorem dX11_creases_117 : decode cX11_creases 117 = .ok (.iload_n 1, 1) := by decide +kernel
theorem dX11_creases_118 : decode cX11_creases 118 = .ok (.dup2, 1) := by decide +kernel
theorem dX11_creases_119 : decode cX11_creases 119 = .ok (.iaload, 1) := by decide +kernel
theorem dX11_creases_120 : decode cX11_creases 120 = .ok (.iconst 1, 1) := by decide +kernel
theorem dX11_creases_121 : decode cX11_creases 121 = .ok (.iadd, 1) := by decide +kernel
theorem dX11_creases_122 : decode cX11_creases 122 = .ok (.iastore, 1) := by decide +kernel
theorem dX11_creases_123 : decode cX11_creases 123 = .ok (.iinc 2 1, 3) := by decide +kernel
theorem dX11_creases_126 : decode cX11_creases 126 = .ok (.aload_n 0, 1) := by decide +kernel
theorem dX11_creases_127 : decode cX11_creases 127 = .ok (.getfield 37, 3) := by decide +kernel
theorem dX11_creases_130 : decode cX11_creases 130 = .ok (.iload_n 1, 1) := by decide +kernel
theorem dX11_creases_131 : decode cX11_creases 131 = .ok (.aload_n 0, 1) := by decide +kernel
theorem dX11_creases_132 : decode cX11_creases 132 = .ok (.getfield 37, 3) := by decide +kernel
theorem dX11_creases_135 : decode cX11_creases 135 = .ok (.iload_n 1, 1) := by decide +kernel
theorem dX11_creases_136 : decode cX11_creases 136 = .ok (.iaload, 1) := by decide +kernel
theorem dX11_creases_137 : decode cX11_creases 137 = .ok (.sipush 1000, 3) := by decide +kernel
theorem dX11_creases_140 : decode cX11_creases 140 = .ok (.if_icmp .le 9, 3) := by decide +kernel
theorem dX11_creases_143 : decode cX11_creases 143 = .ok (.sipush 1000, 3) := by decide +kernel
theorem dX11_creases_146 : decode cX11_creases 146 = .ok (.goto 9, 3) := by decide +kernel
theorem dX11_creases_149 : decode cX11_creases 149 = .ok (.aload_n 0, 1) := by decide +kernel
theorem dX11_creases_150 : decode cX11_creases 150 = .ok (.getfield 37, 3) := by decide +kernel
theorem dX11_creases_153 : decode cX11_creases 153 = .ok (.iload_n 1, 1) := by decide +kernel
theorem dX11_creases_154 : decode cX11_creases 154 = .ok (.iaload, 1) := by decide +kernel
theorem dX11_creases_155 : decode cX11_creases 155 = .ok (.iastore, 1) := by decide +kernel
theorem dX11_creases_156 : decode cX11_creases 156 = .ok (.goto (-124), 3) := by decide +kernel
theorem dX11_creases_159 : decode cX11_creases 159 = .ok (.aload_n 0, 1) := by decide +kernel
theorem dX11_creases_160 : decode cX11_creases 160 = .ok (.getfield 37, 3) := by decide +kernel
theorem dX11_creases_163 : decode cX11_creases 163 = .ok (.iconst 0, 1) := by decide +kernel
theorem dX11_creases_164 : decode cX11_creases 164 = .ok (.iaload, 1) := by decide +kernel
theorem dX11_creases_165 : decode cX11_creases 165 = .ok (.ireturn, 1) := by decide +kernel
theorem dX11_keep_0 : decode cX11_keep 0 = .ok (.aload_n 0, 1) := by decide +kernel
theorem dX11_keep_1 : decode cX11_keep 1 = .ok (.iconst 0, 1) := by decide +kernel
theorem dX11_keep_2 : decode cX11_keep 2 = .ok (.putfield 46, 3) := by decide +kernel
theorem dX11_keep_5 : decode cX11_keep 5 = .ok (.iconst 0, 1) := by decide +kernel
theorem dX11_keep_6 : decode cX11_keep 6 = .ok (.istore_n 1, 1) := by decide +kernel
theorem dX11_keep_7 : decode cX11_keep 7 = .ok (.iload_n 1, 1) := by decide +kernel
theorem dX11_keep_8 : decode cX11_keep 8 = .ok (.sipush 335, 3) := by decide +kernel
theorem dX11_keep_11 : decode cX11_keep 11 = .ok (.if_icmp .ge 21, 3) := by decide +kernel
theorem dX11_keep_14 : decode cX11_keep 14 = .ok (.aload_n 0, 1) := by decide +kernel
theorem dX11_keep_15 : decode cX11_keep 15 = .ok (.getfield 16, 3) := by decide +kernel
theorem dX11_keep_18 : decode cX11_keep 18 = .ok (.iload_n 1, 1) := by decide +kernel
theorem dX11_keep_19 : decode cX11_keep 19 = .ok (.aload_n 0, 1) := by decide +kernel
theorem dX11_keep_20 : decode cX11_keep 20 = .ok (.getfield 7, 3) := by decide +kernel
theorem dX11_keep_23 : decode cX11_keep 23 = .ok (.iload_n 1, 1) := by decide +kernel
theorem dX11_keep_24 : decode cX11_keep 24 = .ok (.iaload, 1) := by decide +kernel
theorem dX11_keep_25 : decode cX11_keep 25 = .ok (.iastore, 1) := by decide +kernel
theorem dX11_keep_26 : decode cX11_keep 26 = .ok (.iinc 1 1, 3) := by decide +kernel
theorem dX11_keep_29 : decode cX11_keep 29 = .ok (.goto (-22), 3) := by decide +kernel
theorem dX11_keep_32 : decode cX11_keep 32 = .ok (.aload_n 0, 1) := by decide +kernel
theorem dX11_keep_33 : decode cX11_keep 33 = .ok (.iconst 1, 1) := by decide +kernel
theorem dX11_keep_34 : decode cX11_keep 34 = .ok (.putfield 164, 3) := by decide +kernel
theorem dX11_keep_37 : decode cX11_keep 37 = .ok (.aload_n 0, 1) := by decide +kernel
theorem dX11_keep_38 : decode cX11_keep 38 = .ok (.invokevirtual 168, 3) := by decide +kernel
theorem dX11_keep_41 : decode cX11_keep 41 = .ok (.ireturn, 1) := by decide +kernel
theorem dX11_goBack_0 : decode cX11_goBack 0 = .ok (.aload_n 0, 1) := by decide +kernel
theorem dX11_goBack_1 : decode cX11_goBack 1 = .ok (.aload_n 0, 1) := by decide +kernel
theorem dX11_goBack_2 : decode cX11_goBack 2 = .ok (.getfield 164, 3) := by decide +kernel
theorem dX11_goBack_5 : decode cX11_goBack 5 = .ok (.ifCond .eq 7, 3) := by decide +kernel
theorem dX11_goBack_8 : decode cX11_goBack 8 = .ok (.iconst 0, 1) := by decide +kernel
theorem dX11_goBack_9 : decode cX11_goBack 9 = .ok (.goto 4, 3) := by decide +kernel
theorem dX11_goBack_12 : decode cX11_goBack 12 = .ok (.iconst 1, 1) := by decide +kernel
theorem dX11_goBack_13 : decode cX11_goBack 13 = .ok (.invokevirtual 119, 3) := by decide +kernel
theorem dX11_goBack_16 : decode cX11_goBack 16 = .ok (.ifCond .eq 5, 3) := by decide +kernel
theorem dX11_goBack_19 : decode cX11_goBack 19 = .ok (.iconst 0, 1) := by decide +kernel
theorem dX11_goBack_20 : decode cX11_goBack 20 = .ok (.ireturn, 1) := by decide +kernel
theorem dX11_goBack_21 : decode cX11_goBack 21 = .ok (.aload_n 0, 1) := by decide +kernel
theorem dX11_goBack_22 : decode cX11_goBack 22 = .ok (.invokevirtual 122, 3) := by decide +kernel
theorem dX11_goBack_25 : decode cX11_goBack 25 = .ok (.iconst 0, 1) := by decide +kernel
theorem dX11_goBack_26 : decode cX11_goBack 26 = .ok (.istore_n 1, 1) := by decide +kernel
theorem dX11_goBack_27 : decode cX11_goBack 27 = .ok (.iload_n 1, 1) := by decide +kernel
theorem dX11_goBack_28 : decode cX11_goBack 28 = .ok (.sipush 335, 3) := by decide +kernel
theorem dX11_goBack_31 : decode cX11_goBack 31 = .ok (.if_icmp .ge 21, 3) := by decide +kernel
theorem dX11_goBack_34 : decode cX11_goBack 34 = .ok (.aload_n 0, 1) := by decide +kernel
theorem dX11_goBack_35 : decode cX11_goBack 35 = .ok (.getfield 7, 3) := by decide +kernel
theorem dX11_goBack_38 : decode cX11_goBack 38 = .ok (.iload_n 1, 1) := by decide +kernel
theorem dX11_goBack_39 : decode cX11_goBack 39 = .ok (.aload_n 0, 1) := by decide +kernel
theorem dX11_goBack_40 : decode cX11_goBack 40 = .ok (.getfield 16, 3) := by decide +kernel
theorem dX11_goBack_43 : decode cX11_goBack 43 = .ok (.iload_n 1, 1) := by decide +kernel
theorem dX11_goBack_44 : decode cX11_goBack 44 = .ok (.iaload, 1) := by decide +kernel
theorem dX11_goBack_45 : decode cX11_goBack 45 = .ok (.iastore, 1) := by decide +kernel
theorem dX11_goBack_46 : decode cX11_goBack 46 = .ok (.iinc 1 1, 3) := by decide +kernel
theorem dX11_goBack_49 : decode cX11_goBack 49 = .ok (.goto (-22), 3) := by decide +kernel
theorem dX11_goBack_52 : decode cX11_goBack 52 = .ok (.aload_n 0, 1) := by decide +kernel
theorem dX11_goBack_53 : decode cX11_goBack 53 = .ok (.invokevirtual 168, 3) := by decide +kernel
theorem dX11_goBack_56 : decode cX11_goBack 56 = .ok (.ireturn, 1) := by decide +kernel
theorem dX11_undo_0 : decode cX11_undo 0 = .ok (.aload_n 0, 1) := by decide +kernel
theorem dX11_undo_1 : decode cX11_undo 1 = .ok (.aload_n 0, 1) := by decide +kernel
theorem dX11_undo_2 : decode cX11_undo 2 = .ok (.getfield 54, 3) := by decide +kernel
theorem dX11_undo_5 : decode cX11_undo 5 = .ok (.ifCond .le 7, 3) := by decide +kernel
theorem dX11_undo_8 : decode cX11_undo 8 = .ok (.iconst 0, 1) := by decide +kernel
theorem dX11_undo_9 : decode cX11_undo 9 = .ok (.goto 4, 3) := by decide +kernel
theorem dX11_undo_12 : decode cX11_undo 12 = .ok (.iconst 1, 1) := by decide +kernel
theorem dX11_undo_13 : decode cX11_undo 13 = .ok (.invokevirtual 119, 3) := by decide +kernel
theorem dX11_undo_16 : decode cX11_undo 16 = .ok (.ifCond .eq 5, 3) := by decide +kernel
theorem dX11_undo_19 : decode cX11_undo 19 = .ok (.iconst 0, 1) := by decide +kernel
theorem dX11_undo_20 : decode cX11_undo 20 = .ok (.ireturn, 1) := by decide +kernel
theorem dX11_undo_21 : decode cX11_undo 21 = .ok (.aload_n 0, 1) := by decide +kernel
theorem dX11_undo_22 : decode cX11_undo 22 = .ok (.dup, 1) := by decide +kernel
theorem dX11_undo_23 : decode cX11_undo 23 = .ok (.getfield 54, 3) := by decide +kernel
theorem dX11_undo_26 : decode cX11_undo 26 = .ok (.iconst 1, 1) := by decide +kernel
theorem dX11_undo_27 : decode cX11_undo 27 = .ok (.isub, 1) := by decide +kernel
theorem dX11_undo_28 : decode cX11_undo 28 = .ok (.putfield 54, 3) := by decide +kernel
theorem dX11_undo_31 : decode cX11_undo 31 = .ok (.iconst 0, 1) := by decide +kernel
theorem dX11_undo_32 : decode cX11_undo 32 = .ok (.istore_n 1, 1) := by decide +kernel
theorem dX11_undo_33 : decode cX11_undo 33 = .ok (.iload_n 1, 1) := by decide +kernel
theorem dX11_undo_34 : decode cX11_undo 34 = .ok (.sipush 335, 3) := by decide +kernel
theorem dX11_undo_37 : decode cX11_undo 37 = .ok (.if_icmp .ge 30, 3) := by decide +kernel
theorem dX11_undo_40 : decode cX11_undo 40 = .ok (.aload_n 0, 1) := by decide +kernel
theorem dX11_undo_41 : decode cX11_undo 41 = .ok (.getfield 7, 3) := by decide +kernel
theorem dX11_undo_44 : decode cX11_undo 44 = .ok (.iload_n 1, 1) := by decide +kernel
theorem dX11_undo_45 : decode cX11_undo 45 = .ok (.aload_n 0, 1) := by decide +kernel
theorem dX11_undo_46 : decode cX11_undo 46 = .ok (.getfield 13, 3) := by decide +kernel
theorem dX11_undo_49 : decode cX11_undo 49 = .ok (.sipush 335, 3) := by decide +kernel
theorem dX11_undo_52 : decode cX11_undo 52 = .ok (.aload_n 0, 1) := by decide +kernel
theorem dX11_undo_53 : decode cX11_undo 53 = .ok (.getfield 54, 3) := by decide +kernel
theorem dX11_undo_56 : decode cX11_undo 56 = .ok (.imul, 1) := by decide +kernel
theorem dX11_undo_57 : decode cX11_undo 57 = .ok (.iload_n 1, 1) := by decide +kernel
theorem dX11_undo_58 : decode cX11_undo 58 = .ok (.iadd, 1) := by decide +kernel
theorem dX11_undo_59 : decode cX11_undo 59 = .ok (.iaload, 1) := by decide +kernel
theorem dX11_undo_60 : decode cX11_undo 60 = .ok (.iastore, 1) := by decide +kernel
theorem dX11_undo_61 : decode cX11_undo 61 = .ok (.iinc 1 1, 3) := by decide +kernel
theorem dX11_undo_64 : decode cX11_undo 64 = .ok (.goto (-31), 3) := by decide +kernel
theorem dX11_undo_67 : decode cX11_undo 67 = .ok (.aload_n 0, 1) := by decide +kernel
theorem dX11_undo_68 : decode cX11_undo 68 = .ok (.getfield 54, 3) := by decide +kernel
theorem dX11_undo_71 : decode cX11_undo 71 = .ok (.ireturn, 1) := by decide +kernel
theorem dX11_layer_0 : decode cX11_layer 0 = .ok (.aload_n 0, 1) := by decide +kernel
theorem dX11_layer_1 : decode cX11_layer 1 = .ok (.iload_n 1, 1) := by decide +kernel
theorem dX11_layer_2 : decode cX11_layer 2 = .ok (.invokestatic 112, 3) := by decide +kernel
theorem dX11_layer_5 : decode cX11_layer 5 = .ok (.ifCond .eq 14, 3) := by decide +kernel
theorem dX11_layer_8 : decode cX11_layer 8 = .ok (.iload_n 2, 1) := by decide +kernel
theorem dX11_layer_9 : decode cX11_layer 9 = .ok (.invokestatic 134, 3) := by decide +kernel
theorem dX11_layer_12 : decode cX11_layer 12 = .ok (.ifCond .eq 7, 3) := by decide +kernel
theorem dX11_layer_15 : decode cX11_layer 15 = .ok (.iconst 0, 1) := by decide +kernel
theorem dX11_layer_16 : decode cX11_layer 16 = .ok (.goto 4, 3) := by decide +kernel
theorem dX11_layer_19 : decode cX11_layer 19 = .ok (.iconst 1, 1) := by decide +kernel
theorem dX11_layer_20 : decode cX11_layer 20 = .ok (.invokevirtual 119, 3) := by decide +kernel
theorem dX11_layer_23 : decode cX11_layer 23 = .ok (.ifCond .eq 7, 3) := by decide +kernel
theorem dX11_layer_26 : decode cX11_layer 26 = .ok (.iconst 0, 1) := by decide +kernel
theorem dX11_layer_27 : decode cX11_layer 27 = .ok (.goto 9, 3) := by decide +kernel
theorem dX11_layer_30 : decode cX11_layer 30 = .ok (.aload_n 0, 1) := by decide +kernel
theorem dX11_layer_31 : decode cX11_layer 31 = .ok (.iload_n 1, 1) := by decide +kernel
theorem dX11_layer_32 : decode cX11_layer 32 = .ok (.iload_n 2, 1) := by decide +kernel
theorem dX11_layer_33 : decode cX11_layer 33 = .ok (.invokevirtual 57, 3) := by decide +kernel
theorem dX11_layer_36 : decode cX11_layer 36 = .ok (.ireturn, 1) := by decide +kernel
theorem dX11_layers_0 : decode cX11_layers 0 = .ok (.iconst 0, 1) := by decide +kernel
theorem dX11_layers_1 : decode cX11_layers 1 = .ok (.istore_n 3, 1) := by decide +kernel
theorem dX11_layers_2 : decode cX11_layers 2 = .ok (.iconst 0, 1) := by decide +kernel
theorem dX11_layers_3 : decode cX11_layers 3 = .ok (.istore 4, 2) := by decide +kernel
theorem dX11_layers_5 : decode cX11_layers 5 = .ok (.iload 4, 2) := by decide +kernel
theorem dX11_layers_7 : decode cX11_layers 7 = .ok (.iconst 4, 1) := by decide +kernel
theorem dX11_layers_8 : decode cX11_layers 8 = .ok (.if_icmp .ge 66, 3) := by decide +kernel
theorem dX11_layers_11 : decode cX11_layers 11 = .ok (.iload_n 2, 1) := by decide +kernel
theorem dX11_layers_12 : decode cX11_layers 12 = .ok (.iconst 5, 1) := by decide +kernel
theorem dX11_layers_13 : decode cX11_layers 13 = .ok (.if_icmp .ne 25, 3) := by decide +kernel
theorem dX11_layers_16 : decode cX11_layers 16 = .ok (.aload_n 0, 1) := by decide +kernel
theorem dX11_layers_17 : decode cX11_layers 17 = .ok (.iload_n 1, 1) := by decide +kernel
theorem dX11_layers_18 : decode cX11_layers 18 = .ok (.iload 4, 2) := by decide +kernel
theorem dX11_layers_20 : decode cX11_layers 20 = .ok (.invokevirtual 57, 3) := by decide +kernel
theorem dX11_layers_23 : decode cX11_layers 23 = .ok (.iload 4, 2) := by decide +kernel
theorem dX11_layers_25 : decode cX11_layers 25 = .ok (.iconst 1, 1) := by decide +kernel
theorem dX11_layers_26 : decode cX11_layers 26 = .ok (.iadd, 1) := by decide +kernel
theorem dX11_layers_27 : decode cX11_layers 27 = .ok (.if_icmp .ne 7, 3) := by decide +kernel
theorem dX11_layers_30 : decode cX11_layers 30 = .ok (.iconst 1, 1) := by decide +kernel
theorem dX11_layers_31 : decode cX11_layers 31 = .ok (.goto 22, 3) := by decide +kernel
theorem dX11_layers_34 : decode cX11_layers 34 = .ok (.iconst 0, 1) := by decide +kernel
theorem dX11_layers_35 : decode cX11_layers 35 = .ok (.goto 18, 3) := by decide +kernel
theorem dX11_layers_38 : decode cX11_layers 38 = .ok (.aload_n 0, 1) := by decide +kernel
theorem dX11_layers_39 : decode cX11_layers 39 = .ok (.iload_n 1, 1) := by decide +kernel
theorem dX11_layers_40 : decode cX11_layers 40 = .ok (.iload 4, 2) := by decide +kernel
theorem dX11_layers_42 : decode cX11_layers 42 = .ok (.invokevirtual 57, 3) := by decide +kernel
theorem dX11_layers_45 : decode cX11_layers 45 = .ok (.ifCond .ge 7, 3) := by decide +kernel
theorem dX11_layers_48 : decode cX11_layers 48 = .ok (.iconst 1, 1) := by decide +kernel
theorem dX11_layers_49 : decode cX11_layers 49 = .ok (.goto 4, 3) := by decide +kernel
theorem dX11_layers_52 : decode cX11_layers 52 = .ok (.iconst 0, 1) := by decide +kernel
theorem dX11_layers_53 : decode cX11_layers 53 = .ok (.istore 5, 2) := by decide +kernel
theorem dX11_layers_55 : decode cX11_layers 55 = .ok (.iload_n 3, 1) := by decide +kernel
theorem dX11_layers_56 : decode cX11_layers 56 = .ok (.iload 5, 2) := by decide +kernel
theorem dX11_layers_58 : decode cX11_layers 58 = .ok (.ifCond .eq 7, 3) := by decide +kernel
theorem dX11_layers_61 : decode cX11_layers 61 = .ok (.iconst 1, 1) := by decide +kernel
theorem dX11_layers_62 : decode cX11_layers 62 = .ok (.goto 4, 3) := by decide +kernel
theorem dX11_layers_65 : decode cX11_layers 65 = .ok (.iconst 0, 1) := by decide +kernel
theorem dX11_layers_66 : decode cX11_layers 66 = .ok (.iadd, 1) := by decide +kernel
theorem dX11_layers_67 : decode cX11_layers 67 = .ok (.istore_n 3, 1) := by decide +kernel
theorem dX11_layers_68 : decode cX11_layers 68 = .ok (.iinc 4 1, 3) := by decide +kernel
theorem dX11_layers_71 : decode cX11_layers 71 = .ok (.goto (-66), 3) := by decide +kernel
theorem dX11_layers_74 : decode cX11_layers 74 = .ok (.iload_n 3, 1) := by decide +kernel
theorem dX11_layers_75 : decode cX11_layers 75 = .ok (.ireturn, 1) := by decide +kernel
theorem dX11_foldedLength_0 : decode cX11_foldedLength 0 = .ok (.aload_n 0, 1) := by decide +kernel
theorem dX11_foldedLength_1 : decode cX11_foldedLength 1 = .ok (.iload_n 1, 1) := by decide +kernel
theorem dX11_foldedLength_2 : decode cX11_foldedLength 2 = .ok (.invokevirtual 80, 3) := by decide +kernel
theorem dX11_foldedLength_5 : decode cX11_foldedLength 5 = .ok (.aload_n 0, 1) := by decide +kernel
theorem dX11_foldedLength_6 : decode cX11_foldedLength 6 = .ok (.iload_n 2, 1) := by decide +kernel
theorem dX11_foldedLength_7 : decode cX11_foldedLength 7 = .ok (.invokevirtual 86, 3) := by decide +kernel
theorem dX11_foldedLength_10 : decode cX11_foldedLength 10 = .ok (.aload_n 0, 1) := by decide +kernel
theorem dX11_foldedLength_11 : decode cX11_foldedLength 11 = .ok (.invokevirtual 65, 3) := by decide +kernel
theorem dX11_foldedLength_14 : decode cX11_foldedLength 14 = .ok (.ireturn, 1) := by decide +kernel
theorem dX11_creasesOf_0 : decode cX11_creasesOf 0 = .ok (.iconst 0, 1) := by decide +kernel
theorem dX11_creasesOf_1 : decode cX11_creasesOf 1 = .ok (.istore_n 3, 1) := by decide +kernel
theorem dX11_creasesOf_2 : decode cX11_creasesOf 2 = .ok (.aload_n 0, 1) := by decide +kernel
theorem dX11_creasesOf_3 : decode cX11_creasesOf 3 = .ok (.iload_n 1, 1) := by decide +kernel
theorem dX11_creasesOf_4 : decode cX11_creasesOf 4 = .ok (.invokevirtual 83, 3) := by decide +kernel
theorem dX11_creasesOf_7 : decode cX11_creasesOf 7 = .ok (.istore 4, 2) := by decide +kernel
theorem dX11_creasesOf_9 : decode cX11_creasesOf 9 = .ok (.iconst 0, 1) := by decide +kernel
theorem dX11_creasesOf_10 : decode cX11_creasesOf 10 = .ok (.istore 5, 2) := by decide +kernel
theorem dX11_creasesOf_12 : decode cX11_creasesOf 12 = .ok (.iload 5, 2) := by decide +kernel
theorem dX11_creasesOf_14 : decode cX11_creasesOf 14 = .ok (.iconst 4, 1) := by decide +kernel
theorem dX11_creasesOf_15 : decode cX11_creasesOf 15 = .ok (.if_icmp .ge 68, 3) := by decide +kernel
theorem dX11_creasesOf_18 : decode cX11_creasesOf 18 = .ok (.iload_n 2, 1) := by decide +kernel
theorem dX11_creasesOf_19 : decode cX11_creasesOf 19 = .ok (.bipush 8, 2) := by decide +kernel
theorem dX11_creasesOf_21 : decode cX11_creasesOf 21 = .ok (.if_icmp .ne 23, 3) := by decide +kernel
theorem dX11_creasesOf_24 : decode cX11_creasesOf 24 = .ok (.aload_n 0, 1) := by decide +kernel
theorem dX11_creasesOf_25 : decode cX11_creasesOf 25 = .ok (.iload_n 1, 1) := by decide +kernel
theorem dX11_creasesOf_26 : decode cX11_creasesOf 26 = .ok (.iload 5, 2) := by decide +kernel
theorem dX11_creasesOf_28 : decode cX11_creasesOf 28 = .ok (.invokevirtual 171, 3) := by decide +kernel
theorem dX11_creasesOf_31 : decode cX11_creasesOf 31 = .ok (.iload 4, 2) := by decide +kernel
theorem dX11_creasesOf_33 : decode cX11_creasesOf 33 = .ok (.if_icmp .ge 7, 3) := by decide +kernel
theorem dX11_creasesOf_36 : decode cX11_creasesOf 36 = .ok (.iconst 1, 1) := by decide +kernel
theorem dX11_creasesOf_37 : decode cX11_creasesOf 37 = .ok (.goto 22, 3) := by decide +kernel
theorem dX11_creasesOf_40 : decode cX11_creasesOf 40 = .ok (.iconst 0, 1) := by decide +kernel
theorem dX11_creasesOf_41 : decode cX11_creasesOf 41 = .ok (.goto 18, 3) := by decide +kernel
theorem dX11_creasesOf_44 : decode cX11_creasesOf 44 = .ok (.aload_n 0, 1) := by decide +kernel
theorem dX11_creasesOf_45 : decode cX11_creasesOf 45 = .ok (.iload_n 1, 1) := by decide +kernel
theorem dX11_creasesOf_46 : decode cX11_creasesOf 46 = .ok (.iload 5, 2) := by decide +kernel
theorem dX11_creasesOf_48 : decode cX11_creasesOf 48 = .ok (.invokevirtual 116, 3) := by decide +kernel
theorem dX11_creasesOf_51 : decode cX11_creasesOf 51 = .ok (.ifCond .le 7, 3) := by decide +kernel
theorem dX11_creasesOf_54 : decode cX11_creasesOf 54 = .ok (.iconst 1, 1) := by decide +kernel
theorem dX11_creasesOf_55 : decode cX11_creasesOf 55 = .ok (.goto 4, 3) := by decide +kernel
theorem dX11_creasesOf_58 : decode cX11_creasesOf 58 = .ok (.iconst 0, 1) := by decide +kernel
theorem dX11_creasesOf_59 : decode cX11_creasesOf 59 = .ok (.istore 6, 2) := by decide +kernel
theorem dX11_creasesOf_61 : decode cX11_creasesOf 61 = .ok (.iload_n 3, 1) := by decide +kernel
theorem dX11_creasesOf_62 : decode cX11_creasesOf 62 = .ok (.iload 6, 2) := by decide +kernel
theorem dX11_creasesOf_64 : decode cX11_creasesOf 64 = .ok (.ifCond .eq 10, 3) := by decide +kernel
theorem dX11_creasesOf_67 : decode cX11_creasesOf 67 = .ok (.iconst 1, 1) := by decide +kernel
theorem dX11_creasesOf_68 : decode cX11_creasesOf 68 = .ok (.iload 5, 2) := by decide +kernel
theorem dX11_creasesOf_70 : decode cX11_creasesOf 70 = .ok (.ishl, 1) := by decide +kernel
theorem dX11_creasesOf_71 : decode cX11_creasesOf 71 = .ok (.goto 4, 3) := by decide +kernel
theorem dX11_creasesOf_74 : decode cX11_creasesOf 74 = .ok (.iconst 0, 1) := by decide +kernel
theorem dX11_creasesOf_75 : decode cX11_creasesOf 75 = .ok (.ior, 1) := by decide +kernel
theorem dX11_creasesOf_76 : decode cX11_creasesOf 76 = .ok (.istore_n 3, 1) := by decide +kernel
theorem dX11_creasesOf_77 : decode cX11_creasesOf 77 = .ok (.iinc 5 1, 3) := by decide +kernel
theorem dX11_creasesOf_80 : decode cX11_creasesOf 80 = .ok (.goto (-68), 3) := by decide +kernel
theorem dX11_creasesOf_83 : decode cX11_creasesOf 83 = .ok (.iload_n 3, 1) := by decide +kernel
theorem dX11_creasesOf_84 : decode cX11_creasesOf 84 = .ok (.ireturn, 1) := by decide +kernel
theorem dX11_number_0 : decode cX11_number 0 = .ok (.iload_n 2, 1) := by decide +kernel
theorem dX11_number_1 : decode cX11_number 1 = .ok (.tableswitch 115 0 9 #[55, 61, 67, 74, 80, 94, 94, 101, 108, 108], 55) := by decide +kernel
theorem dX11_number_56 : decode cX11_number 56 = .ok (.aload_n 0, 1) := by decide +kernel
theorem dX11_number_57 : decode cX11_number 57 = .ok (.iload_n 1, 1) := by decide +kernel
theorem dX11_number_58 : decode cX11_number 58 = .ok (.invokevirtual 83, 3) := by decide +kernel
theorem dX11_number_61 : decode cX11_number 61 = .ok (.ireturn, 1) := by decide +kernel
theorem dX11_number_62 : decode cX11_number 62 = .ok (.aload_n 0, 1) := by decide +kernel
theorem dX11_number_63 : decode cX11_number 63 = .ok (.iload_n 1, 1) := by decide +kernel
theorem dX11_number_64 : decode cX11_number 64 = .ok (.invokevirtual 174, 3) := by decide +kernel
theorem dX11_number_67 : decode cX11_number 67 = .ok (.ireturn, 1) := by decide +kernel
theorem dX11_number_68 : decode cX11_number 68 = .ok (.aload_n 0, 1) := by decide +kernel
theorem dX11_number_69 : decode cX11_number 69 = .ok (.iload_n 1, 1) := by decide +kernel
theorem dX11_number_70 : decode cX11_number 70 = .ok (.iconst 4, 1) := by decide +kernel
theorem dX11_number_71 : decode cX11_number 71 = .ok (.invokevirtual 57, 3) := by decide +kernel
theorem dX11_number_74 : decode cX11_number 74 = .ok (.ireturn, 1) := by decide +kernel
theorem dX11_number_75 : decode cX11_number 75 = .ok (.aload_n 0, 1) := by decide +kernel
theorem dX11_number_76 : decode cX11_number 76 = .ok (.iload_n 1, 1) := by decide +kernel
theorem dX11_number_77 : decode cX11_number 77 = .ok (.invokevirtual 177, 3) := by decide +kernel
theorem dX11_number_80 : decode cX11_number 80 = .ok (.ireturn, 1) := by decide +kernel
theorem dX11_number_81 : decode cX11_number 81 = .ok (.aload_n 0, 1) := by decide +kernel
theorem dX11_number_82 : decode cX11_number 82 = .ok (.iload_n 1, 1) := by decide +kernel
theorem dX11_number_83 : decode cX11_number 83 = .ok (.invokevirtual 180, 3) := by decide +kernel
theorem dX11_number_86 : decode cX11_number 86 = .ok (.ifCond .eq 7, 3) := by decide +kernel
theorem dX11_number_89 : decode cX11_number 89 = .ok (.iconst 1, 1) := by decide +kernel
theorem dX11_number_90 : decode cX11_number 90 = .ok (.goto 4, 3) := by decide +kernel
theorem dX11_number_93 : decode cX11_number 93 = .ok (.iconst 0, 1) := by decide +kernel
theorem dX11_number_94 : decode cX11_number 94 = .ok (.ireturn, 1) := by decide +kernel
theorem dX11_number_95 : decode cX11_number 95 = .ok (.aload_n 0, 1) := by decide +kernel
theorem dX11_number_96 : decode cX11_number 96 = .ok (.iload_n 1, 1) := by decide +kernel
theorem dX11_number_97 : decode cX11_number 97 = .ok (.iload_n 2, 1) := by decide +kernel
theorem dX11_number_98 : decode cX11_number 98 = .ok (.invokevirtual 183, 3) := by decide +kernel
theorem dX11_number_101 : decode cX11_number 101 = .ok (.ireturn, 1) := by decide +kernel
theorem dX11_number_102 : decode cX11_number 102 = .ok (.aload_n 0, 1) := by decide +kernel
theorem dX11_number_103 : decode cX11_number 103 = .ok (.iload_n 1, 1) := by decide +kernel
theorem dX11_number_104 : decode cX11_number 104 = .ok (.iconst 5, 1) := by decide +kernel
theorem dX11_number_105 : decode cX11_number 105 = .ok (.invokevirtual 57, 3) := by decide +kernel
theorem dX11_number_108 : decode cX11_number 108 = .ok (.ireturn, 1) := by decide +kernel
theorem dX11_number_109 : decode cX11_number 109 = .ok (.aload_n 0, 1) := by decide +kernel
theorem dX11_number_110 : decode cX11_number 110 = .ok (.iload_n 1, 1) := by decide +kernel
theorem dX11_number_111 : decode cX11_number 111 = .ok (.iload_n 2, 1) := by decide +kernel
theorem dX11_number_112 : decode cX11_number 112 = .ok (.invokevirtual 186, 3) := by decide +kernel
theorem dX11_number_115 : decode cX11_number 115 = .ok (.ireturn, 1) := by decide +kernel
theorem dX11_number_116 : decode cX11_number 116 = .ok (.aload_n 0, 1) := by decide +kernel
theorem dX11_number_117 : decode cX11_number 117 = .ok (.iload_n 1, 1) := by decide +kernel
theorem dX11_number_118 : decode cX11_number 118 = .ok (.bipush 6, 2) := by decide +kernel
theorem dX11_number_120 : decode cX11_number 120 = .ok (.invokevirtual 57, 3) := by decide +kernel
theorem dX11_number_123 : decode cX11_number 123 = .ok (.ireturn, 1) := by decide +kernel
theorem dX11_letter_0 : decode cX11_letter 0 = .ok (.aload_n 0, 1) := by decide +kernel
theorem dX11_letter_1 : decode cX11_letter 1 = .ok (.iload_n 1, 1) := by decide +kernel
theorem dX11_letter_2 : decode cX11_letter 2 = .ok (.invokestatic 112, 3) := by decide +kernel
theorem dX11_letter_5 : decode cX11_letter 5 = .ok (.ifCond .ne 7, 3) := by decide +kernel
theorem dX11_letter_8 : decode cX11_letter 8 = .ok (.iconst 1, 1) := by decide +kernel
theorem dX11_letter_9 : decode cX11_letter 9 = .ok (.goto 18, 3) := by decide +kernel
theorem dX11_letter_12 : decode cX11_letter 12 = .ok (.iload_n 2, 1) := by decide +kernel
theorem dX11_letter_13 : decode cX11_letter 13 = .ok (.iconst 0, 1) := by decide +kernel
theorem dX11_letter_14 : decode cX11_letter 14 = .ok (.bipush 10, 2) := by decide +kernel
theorem dX11_letter_16 : decode cX11_letter 16 = .ok (.invokestatic 50, 3) := by decide +kernel
theorem dX11_letter_19 : decode cX11_letter 19 = .ok (.ifCond .eq 7, 3) := by decide +kernel
theorem dX11_letter_22 : decode cX11_letter 22 = .ok (.iconst 0, 1) := by decide +kernel
theorem dX11_letter_23 : decode cX11_letter 23 = .ok (.goto 4, 3) := by decide +kernel
theorem dX11_letter_26 : decode cX11_letter 26 = .ok (.iconst 2, 1) := by decide +kernel
theorem dX11_letter_27 : decode cX11_letter 27 = .ok (.invokevirtual 119, 3) := by decide +kernel
theorem dX11_letter_30 : decode cX11_letter 30 = .ok (.ifCond .eq 7, 3) := by decide +kernel
theorem dX11_letter_33 : decode cX11_letter 33 = .ok (.iconst 0, 1) := by decide +kernel
theorem dX11_letter_34 : decode cX11_letter 34 = .ok (.goto 9, 3) := by decide +kernel
theorem dX11_letter_37 : decode cX11_letter 37 = .ok (.aload_n 0, 1) := by decide +kernel
theorem dX11_letter_38 : decode cX11_letter 38 = .ok (.iload_n 1, 1) := by decide +kernel
theorem dX11_letter_39 : decode cX11_letter 39 = .ok (.iload_n 2, 1) := by decide +kernel
theorem dX11_letter_40 : decode cX11_letter 40 = .ok (.invokevirtual 189, 3) := by decide +kernel
theorem dX11_letter_43 : decode cX11_letter 43 = .ok (.ireturn, 1) := by decide +kernel
theorem dX11_crease_0 : decode cX11_crease 0 = .ok (.aload_n 0, 1) := by decide +kernel
theorem dX11_crease_1 : decode cX11_crease 1 = .ok (.iload_n 1, 1) := by decide +kernel
theorem dX11_crease_2 : decode cX11_crease 2 = .ok (.invokestatic 112, 3) := by decide +kernel
theorem dX11_crease_5 : decode cX11_crease 5 = .ok (.ifCond .eq 11, 3) := by decide +kernel
theorem dX11_crease_8 : decode cX11_crease 8 = .ok (.iload_n 2, 1) := by decide +kernel
theorem dX11_crease_9 : decode cX11_crease 9 = .ok (.ifCond .lt 7, 3) := by decide +kernel
theorem dX11_crease_12 : decode cX11_crease 12 = .ok (.iconst 0, 1) := by decide +kernel
theorem dX11_crease_13 : decode cX11_crease 13 = .ok (.goto 4, 3) := by decide +kernel
theorem dX11_crease_16 : decode cX11_crease 16 = .ok (.iconst 1, 1) := by decide +kernel
theorem dX11_crease_17 : decode cX11_crease 17 = .ok (.invokevirtual 119, 3) := by decide +kernel
theorem dX11_crease_20 : decode cX11_crease 20 = .ok (.ifCond .eq 5, 3) := by decide +kernel
theorem dX11_crease_23 : decode cX11_crease 23 = .ok (.iconst 0, 1) := by decide +kernel
theorem dX11_crease_24 : decode cX11_crease 24 = .ok (.ireturn, 1) := by decide +kernel
theorem dX11_crease_25 : decode cX11_crease 25 = .ok (.iload_n 2, 1) := by decide +kernel
theorem dX11_crease_26 : decode cX11_crease 26 = .ok (.aload_n 0, 1) := by decide +kernel
theorem dX11_crease_27 : decode cX11_crease 27 = .ok (.iload_n 1, 1) := by decide +kernel
theorem dX11_crease_28 : decode cX11_crease 28 = .ok (.iconst 4, 1) := by decide +kernel
theorem dX11_crease_29 : decode cX11_crease 29 = .ok (.invokevirtual 57, 3) := by decide +kernel
theorem dX11_crease_32 : decode cX11_crease 32 = .ok (.if_icmp .ge 15, 3) := by decide +kernel
theorem dX11_crease_35 : decode cX11_crease 35 = .ok (.aload_n 0, 1) := by decide +kernel
theorem dX11_crease_36 : decode cX11_crease 36 = .ok (.iload_n 1, 1) := by decide +kernel
theorem dX11_crease_37 : decode cX11_crease 37 = .ok (.bipush 7, 2) := by decide +kernel
theorem dX11_crease_39 : decode cX11_crease 39 = .ok (.iload_n 2, 1) := by decide +kernel
theorem dX11_crease_40 : decode cX11_crease 40 = .ok (.iadd, 1) := by decide +kernel
theorem dX11_crease_41 : decode cX11_crease 41 = .ok (.invokevirtual 57, 3) := by decide +kernel
theorem dX11_crease_44 : decode cX11_crease 44 = .ok (.goto 5, 3) := by decide +kernel
theorem dX11_crease_47 : decode cX11_crease 47 = .ok (.bipush (-10), 2) := by decide +kernel
theorem dX11_crease_49 : decode cX11_crease 49 = .ok (.ireturn, 1) := by decide +kernel
theorem dX11_least_0 : decode cX11_least 0 = .ok (.aload_n 0, 1) := by decide +kernel
theorem dX11_least_1 : decode cX11_least 1 = .ok (.iload_n 1, 1) := by decide +kernel
theorem dX11_least_2 : decode cX11_least 2 = .ok (.invokestatic 112, 3) := by decide +kernel
theorem dX11_least_5 : decode cX11_least 5 = .ok (.ifCond .eq 11, 3) := by decide +kernel
theorem dX11_least_8 : decode cX11_least 8 = .ok (.iload_n 2, 1) := by decide +kernel
theorem dX11_least_9 : decode cX11_least 9 = .ok (.ifCond .lt 7, 3) := by decide +kernel
theorem dX11_least_12 : decode cX11_least 12 = .ok (.iconst 0, 1) := by decide +kernel
theorem dX11_least_13 : decode cX11_least 13 = .ok (.goto 4, 3) := by decide +kernel
theorem dX11_least_16 : decode cX11_least 16 = .ok (.iconst 1, 1) := by decide +kernel
theorem dX11_least_17 : decode cX11_least 17 = .ok (.invokevirtual 119, 3) := by decide +kernel
theorem dX11_least_20 : decode cX11_least 20 = .ok (.ifCond .eq 5, 3) := by decide +kernel
theorem dX11_least_23 : decode cX11_least 23 = .ok (.iconst 0, 1) := by decide +kernel
theorem dX11_least_24 : decode cX11_least 24 = .ok (.ireturn, 1) := by decide +kernel
theorem dX11_least_25 : decode cX11_least 25 = .ok (.aload_n 0, 1) := by decide +kernel
theorem dX11_least_26 : decode cX11_least 26 = .ok (.iload_n 1, 1) := by decide +kernel
theorem dX11_least_27 : decode cX11_least 27 = .ok (.invokevirtual 80, 3) := by decide +kernel
theorem dX11_least_30 : decode cX11_least 30 = .ok (.aload_n 0, 1) := by decide +kernel
theorem dX11_least_31 : decode cX11_least 31 = .ok (.invokevirtual 109, 3) := by decide +kernel
theorem dX11_least_34 : decode cX11_least 34 = .ok (.iload_n 2, 1) := by decide +kernel
theorem dX11_least_35 : decode cX11_least 35 = .ok (.aload_n 0, 1) := by decide +kernel
theorem dX11_least_36 : decode cX11_least 36 = .ok (.getfield 69, 3) := by decide +kernel
theorem dX11_least_39 : decode cX11_least 39 = .ok (.if_icmp .ge 12, 3) := by decide +kernel
theorem dX11_least_42 : decode cX11_least 42 = .ok (.aload_n 0, 1) := by decide +kernel
theorem dX11_least_43 : decode cX11_least 43 = .ok (.getfield 31, 3) := by decide +kernel
theorem dX11_least_46 : decode cX11_least 46 = .ok (.iload_n 2, 1) := by decide +kernel
theorem dX11_least_47 : decode cX11_least 47 = .ok (.iaload, 1) := by decide +kernel
theorem dX11_least_48 : decode cX11_least 48 = .ok (.goto 5, 3) := by decide +kernel
theorem dX11_least_51 : decode cX11_least 51 = .ok (.bipush (-10), 2) := by decide +kernel
theorem dX11_least_53 : decode cX11_least 53 = .ok (.ireturn, 1) := by decide +kernel
theorem dX11_areAlike_0 : decode cX11_areAlike 0 = .ok (.iconst 1, 1) := by decide +kernel
theorem dX11_areAlike_1 : decode cX11_areAlike 1 = .ok (.istore_n 3, 1) := by decide +kernel
theorem dX11_areAlike_2 : decode cX11_areAlike 2 = .ok (.iconst 0, 1) := by decide +kernel
theorem dX11_areAlike_3 : decode cX11_areAlike 3 = .ok (.istore 4, 2) := by decide +kernel
theorem dX11_areAlike_5 : decode cX11_areAlike 5 = .ok (.iload 4, 2) := by decide +kernel
theorem dX11_areAlike_7 : decode cX11_areAlike 7 = .ok (.iconst 4, 1) := by decide +kernel
theorem dX11_areAlike_8 : decode cX11_areAlike 8 = .ok (.if_icmp .ge 36, 3) := by decide +kernel
theorem dX11_areAlike_11 : decode cX11_areAlike 11 = .ok (.iload_n 3, 1) := by decide +kernel
theorem dX11_areAlike_12 : decode cX11_areAlike 12 = .ok (.ifCond .eq 24, 3) := by decide +kernel
theorem dX11_areAlike_15 : decode cX11_areAlike 15 = .ok (.aload_n 0, 1) := by decide +kernel
theorem dX11_areAlike_16 : decode cX11_areAlike 16 = .ok (.iload_n 1, 1) := by decide +kernel
theorem dX11_areAlike_17 : decode cX11_areAlike 17 = .ok (.iload 4, 2) := by decide +kernel
theorem dX11_areAlike_19 : decode cX11_areAlike 19 = .ok (.invokevirtual 57, 3) := by decide +kernel
theorem dX11_areAlike_22 : decode cX11_areAlike 22 = .ok (.aload_n 0, 1) := by decide +kernel
theorem dX11_areAlike_23 : decode cX11_areAlike 23 = .ok (.iload_n 2, 1) := by decide +kernel
theorem dX11_areAlike_24 : decode cX11_areAlike 24 = .ok (.iload 4, 2) := by decide +kernel
theorem dX11_areAlike_26 : decode cX11_areAlike 26 = .ok (.invokevirtual 57, 3) := by decide +kernel
theorem dX11_areAlike_29 : decode cX11_areAlike 29 = .ok (.if_icmp .ne 7, 3) := by decide +kernel
theorem dX11_areAlike_32 : decode cX11_areAlike 32 = .ok (.iconst 1, 1) := by decide +kernel
theorem dX11_areAlike_33 : decode cX11_areAlike 33 = .ok (.goto 4, 3) := by decide +kernel
theorem dX11_areAlike_36 : decode cX11_areAlike 36 = .ok (.iconst 0, 1) := by decide +kernel
theorem dX11_areAlike_37 : decode cX11_areAlike 37 = .ok (.istore_n 3, 1) := by decide +kernel
theorem dX11_areAlike_38 : decode cX11_areAlike 38 = .ok (.iinc 4 1, 3) := by decide +kernel
theorem dX11_areAlike_41 : decode cX11_areAlike 41 = .ok (.goto (-36), 3) := by decide +kernel
theorem dX11_areAlike_44 : decode cX11_areAlike 44 = .ok (.iload_n 3, 1) := by decide +kernel
theorem dX11_areAlike_45 : decode cX11_areAlike 45 = .ok (.ireturn, 1) := by decide +kernel
theorem dX11_counted_0 : decode cX11_counted 0 = .ok (.iconst 0, 1) := by decide +kernel
theorem dX11_counted_1 : decode cX11_counted 1 = .ok (.istore_n 2, 1) := by decide +kernel
theorem dX11_counted_2 : decode cX11_counted 2 = .ok (.iconst 0, 1) := by decide +kernel
theorem dX11_counted_3 : decode cX11_counted 3 = .ok (.istore_n 3, 1) := by decide +kernel
theorem dX11_counted_4 : decode cX11_counted 4 = .ok (.iload_n 3, 1) := by decide +kernel
theorem dX11_counted_5 : decode cX11_counted 5 = .ok (.iconst 5, 1) := by decide +kernel
theorem dX11_counted_6 : decode cX11_counted 6 = .ok (.if_icmp .ge 145, 3) := by decide +kernel
theorem dX11_counted_9 : decode cX11_counted 9 = .ok (.iconst 1, 1) := by decide +kernel
theorem dX11_counted_10 : decode cX11_counted 10 = .ok (.istore 4, 2) := by decide +kernel
theorem dX11_counted_12 : decode cX11_counted 12 = .ok (.iconst 0, 1) := by decide +kernel
theorem dX11_counted_13 : decode cX11_counted 13 = .ok (.istore 5, 2) := by decide +kernel
theorem dX11_counted_15 : decode cX11_counted 15 = .ok (.iload 5, 2) := by decide +kernel
theorem dX11_counted_17 : decode cX11_counted 17 = .ok (.iload_n 3, 1) := by decide +kernel
theorem dX11_counted_18 : decode cX11_counted 18 = .ok (.if_icmp .ge 31, 3) := by decide +kernel
theorem dX11_counted_21 : decode cX11_counted 21 = .ok (.iload 4, 2) := by decide +kernel
theorem dX11_counted_23 : decode cX11_counted 23 = .ok (.ifCond .eq 17, 3) := by decide +kernel
theorem dX11_counted_26 : decode cX11_counted 26 = .ok (.aload_n 0, 1) := by decide +kernel
theorem dX11_counted_27 : decode cX11_counted 27 = .ok (.iload_n 3, 1) := by decide +kernel
theorem dX11_counted_28 : decode cX11_counted 28 = .ok (.iload 5, 2) := by decide +kernel
theorem dX11_counted_30 : decode cX11_counted 30 = .ok (.invokevirtual 192, 3) := by decide +kernel
theorem dX11_counted_33 : decode cX11_counted 33 = .ok (.ifCond .ne 7, 3) := by decide +kernel
theorem dX11_counted_36 : decode cX11_counted 36 = .ok (.iconst 1, 1) := by decide +kernel
theorem dX11_counted_37 : decode cX11_counted 37 = .ok (.goto 4, 3) := by decide +kernel
theorem dX11_counted_40 : decode cX11_counted 40 = .ok (.iconst 0, 1) := by decide +kernel
theorem dX11_counted_41 : decode cX11_counted 41 = .ok (.istore 4, 2) := by decide +kernel
theorem dX11_counted_43 : decode cX11_counted 43 = .ok (.iinc 5 1, 3) := by decide +kernel
theorem dX11_counted_46 : decode cX11_counted 46 = .ok (.goto (-31), 3) := by decide +kernel
theorem dX11_counted_49 : decode cX11_counted 49 = .ok (.aload_n 0, 1) := by decide +kernel
theorem dX11_counted_50 : decode cX11_counted 50 = .ok (.iload_n 3, 1) := by decide +kernel
theorem dX11_counted_51 : decode cX11_counted 51 = .ok (.invokevirtual 83, 3) := by decide +kernel
theorem dX11_counted_54 : decode cX11_counted 54 = .ok (.ifCond .ne 7, 3) := by decide +kernel
theorem dX11_counted_57 : decode cX11_counted 57 = .ok (.iconst 1, 1) := by decide +kernel
theorem dX11_counted_58 : decode cX11_counted 58 = .ok (.goto 4, 3) := by decide +kernel
theorem dX11_counted_61 : decode cX11_counted 61 = .ok (.iconst 0, 1) := by decide +kernel
theorem dX11_counted_62 : decode cX11_counted 62 = .ok (.istore 5, 2) := by decide +kernel
theorem dX11_counted_64 : decode cX11_counted 64 = .ok (.iload_n 2, 1) := by decide +kernel
theorem dX11_counted_65 : decode cX11_counted 65 = .ok (.iload_n 1, 1) := by decide +kernel
theorem dX11_counted_66 : decode cX11_counted 66 = .ok (.ifCond .ne 13, 3) := by decide +kernel
theorem dX11_counted_69 : decode cX11_counted 69 = .ok (.aload_n 0, 1) := by decide +kernel
theorem dX11_counted_70 : decode cX11_counted 70 = .ok (.iload_n 3, 1) := by decide +kernel
theorem dX11_counted_71 : decode cX11_counted 71 = .ok (.bipush 6, 2) := by decide +kernel
theorem dX11_counted_73 : decode cX11_counted 73 = .ok (.invokevirtual 57, 3) := by decide +kernel
theorem dX11_counted_76 : decode cX11_counted 76 = .ok (.goto 67, 3) := by decide +kernel
theorem dX11_counted_79 : decode cX11_counted 79 = .ok (.iload_n 1, 1) := by decide +kernel
theorem dX11_counted_80 : decode cX11_counted 80 = .ok (.iconst 1, 1) := by decide +kernel
theorem dX11_counted_81 : decode cX11_counted 81 = .ok (.if_icmp .ne 8, 3) := by decide +kernel
theorem dX11_counted_84 : decode cX11_counted 84 = .ok (.iload 5, 2) := by decide +kernel
theorem dX11_counted_86 : decode cX11_counted 86 = .ok (.goto 57, 3) := by decide +kernel
theorem dX11_counted_89 : decode cX11_counted 89 = .ok (.iload_n 1, 1) := by decide +kernel
theorem dX11_counted_90 : decode cX11_counted 90 = .ok (.iconst 2, 1) := by decide +kernel
theorem dX11_counted_91 : decode cX11_counted 91 = .ok (.if_icmp .ne 12, 3) := by decide +kernel
theorem dX11_counted_94 : decode cX11_counted 94 = .ok (.aload_n 0, 1) := by decide +kernel
theorem dX11_counted_95 : decode cX11_counted 95 = .ok (.iload_n 3, 1) := by decide +kernel
theorem dX11_counted_96 : decode cX11_counted 96 = .ok (.iconst 4, 1) := by decide +kernel
theorem dX11_counted_97 : decode cX11_counted 97 = .ok (.invokevirtual 189, 3) := by decide +kernel
theorem dX11_counted_100 : decode cX11_counted 100 = .ok (.goto 43, 3) := by decide +kernel
theorem dX11_counted_103 : decode cX11_counted 103 = .ok (.iload_n 1, 1) := by decide +kernel
theorem dX11_counted_104 : decode cX11_counted 104 = .ok (.iconst 3, 1) := by decide +kernel
theorem dX11_counted_105 : decode cX11_counted 105 = .ok (.if_icmp .ne 11, 3) := by decide +kernel
theorem dX11_counted_108 : decode cX11_counted 108 = .ok (.aload_n 0, 1) := by decide +kernel
theorem dX11_counted_109 : decode cX11_counted 109 = .ok (.iload_n 3, 1) := by decide +kernel
theorem dX11_counted_110 : decode cX11_counted 110 = .ok (.invokevirtual 83, 3) := by decide +kernel
theorem dX11_counted_113 : decode cX11_counted 113 = .ok (.goto 30, 3) := by decide +kernel
theorem dX11_counted_116 : decode cX11_counted 116 = .ok (.iload_n 1, 1) := by decide +kernel
theorem dX11_counted_117 : decode cX11_counted 117 = .ok (.iconst 4, 1) := by decide +kernel
theorem dX11_counted_118 : decode cX11_counted 118 = .ok (.if_icmp .ne 15, 3) := by decide +kernel
theorem dX11_counted_121 : decode cX11_counted 121 = .ok (.aload_n 0, 1) := by decide +kernel
theorem dX11_counted_122 : decode cX11_counted 122 = .ok (.iload_n 3, 1) := by decide +kernel
theorem dX11_counted_123 : decode cX11_counted 123 = .ok (.iconst 5, 1) := by decide +kernel
theorem dX11_counted_124 : decode cX11_counted 124 = .ok (.invokevirtual 57, 3) := by decide +kernel
theorem dX11_counted_127 : decode cX11_counted 127 = .ok (.invokestatic 137, 3) := by decide +kernel
theorem dX11_counted_130 : decode cX11_counted 130 = .ok (.goto 13, 3) := by decide +kernel
theorem dX11_counted_133 : decode cX11_counted 133 = .ok (.iload 4, 2) := by decide +kernel
theorem dX11_counted_135 : decode cX11_counted 135 = .ok (.ifCond .eq 7, 3) := by decide +kernel
theorem dX11_counted_138 : decode cX11_counted 138 = .ok (.iconst 1, 1) := by decide +kernel
theorem dX11_counted_139 : decode cX11_counted 139 = .ok (.goto 4, 3) := by decide +kernel
theorem dX11_counted_142 : decode cX11_counted 142 = .ok (.iconst 0, 1) := by decide +kernel
theorem dX11_counted_143 : decode cX11_counted 143 = .ok (.iadd, 1) := by decide +kernel
theorem dX11_counted_144 : decode cX11_counted 144 = .ok (.istore_n 2, 1) := by decide +kernel
theorem dX11_counted_145 : decode cX11_counted 145 = .ok (.iinc 3 1, 3) := by decide +kernel
theorem dX11_counted_148 : decode cX11_counted 148 = .ok (.goto (-144), 3) := by decide +kernel
theorem dX11_counted_151 : decode cX11_counted 151 = .ok (.iload_n 1, 1) := by decide +kernel
theorem dX11_counted_152 : decode cX11_counted 152 = .ok (.bipush 6, 2) := by decide +kernel
theorem dX11_counted_154 : decode cX11_counted 154 = .ok (.if_icmp .ne 10, 3) := by decide +kernel
theorem dX11_counted_157 : decode cX11_counted 157 = .ok (.aload_n 0, 1) := by decide +kernel
theorem dX11_counted_158 : decode cX11_counted 158 = .ok (.getfield 54, 3) := by decide +kernel
theorem dX11_counted_161 : decode cX11_counted 161 = .ok (.goto 4, 3) := by decide +kernel
theorem dX11_counted_164 : decode cX11_counted 164 = .ok (.iload_n 2, 1) := by decide +kernel
theorem dX11_counted_165 : decode cX11_counted 165 = .ok (.ireturn, 1) := by decide +kernel
theorem dX11_count_0 : decode cX11_count 0 = .ok (.aload_n 0, 1) := by decide +kernel
theorem dX11_count_1 : decode cX11_count 1 = .ok (.iload_n 1, 1) := by decide +kernel
theorem dX11_count_2 : decode cX11_count 2 = .ok (.iconst 0, 1) := by decide +kernel
theorem dX11_count_3 : decode cX11_count 3 = .ok (.bipush 6, 2) := by decide +kernel
theorem dX11_count_5 : decode cX11_count 5 = .ok (.invokestatic 50, 3) := by decide +kernel
theorem dX11_count_8 : decode cX11_count 8 = .ok (.ifCond .eq 7, 3) := by decide +kernel
theorem dX11_count_11 : decode cX11_count 11 = .ok (.iconst 0, 1) := by decide +kernel
theorem dX11_count_12 : decode cX11_count 12 = .ok (.goto 4, 3) := by decide +kernel
theorem dX11_count_15 : decode cX11_count 15 = .ok (.iconst 1, 1) := by decide +kernel
theorem dX11_count_16 : decode cX11_count 16 = .ok (.invokevirtual 119, 3) := by decide +kernel
theorem dX11_count_19 : decode cX11_count 19 = .ok (.ifCond .eq 7, 3) := by decide +kernel
theorem dX11_count_22 : decode cX11_count 22 = .ok (.iconst 0, 1) := by decide +kernel
theorem dX11_count_23 : decode cX11_count 23 = .ok (.goto 8, 3) := by decide +kernel
theorem dX11_count_26 : decode cX11_count 26 = .ok (.aload_n 0, 1) := by decide +kernel
theorem dX11_count_27 : decode cX11_count 27 = .ok (.iload_n 1, 1) := by decide +kernel
theorem dX11_count_28 : decode cX11_count 28 = .ok (.invokevirtual 195, 3) := by decide +kernel
theorem dX11_count_31 : decode cX11_count 31 = .ok (.ireturn, 1) := by decide +kernel
theorem dX11_why_0 : decode cX11_why 0 = .ok (.aload_n 0, 1) := by decide +kernel
theorem dX11_why_1 : decode cX11_why 1 = .ok (.iload_n 1, 1) := by decide +kernel
theorem dX11_why_2 : decode cX11_why 2 = .ok (.invokestatic 112, 3) := by decide +kernel
theorem dX11_why_5 : decode cX11_why 5 = .ok (.ifCond .eq 16, 3) := by decide +kernel
theorem dX11_why_8 : decode cX11_why 8 = .ok (.iload_n 2, 1) := by decide +kernel
theorem dX11_why_9 : decode cX11_why 9 = .ok (.iconst 0, 1) := by decide +kernel
theorem dX11_why_10 : decode cX11_why 10 = .ok (.iconst 3, 1) := by decide +kernel
theorem dX11_why_11 : decode cX11_why 11 = .ok (.invokestatic 50, 3) := by decide +kernel
theorem dX11_why_14 : decode cX11_why 14 = .ok (.ifCond .eq 7, 3) := by decide +kernel
theorem dX11_why_17 : decode cX11_why 17 = .ok (.iconst 0, 1) := by decide +kernel
theorem dX11_why_18 : decode cX11_why 18 = .ok (.goto 4, 3) := by decide +kernel
theorem dX11_why_21 : decode cX11_why 21 = .ok (.iconst 1, 1) := by decide +kernel
theorem dX11_why_22 : decode cX11_why 22 = .ok (.invokevirtual 119, 3) := by decide +kernel
theorem dX11_why_25 : decode cX11_why 25 = .ok (.ifCond .eq 7, 3) := by decide +kernel
theorem dX11_why_28 : decode cX11_why 28 = .ok (.iconst 0, 1) := by decide +kernel
theorem dX11_why_29 : decode cX11_why 29 = .ok (.goto 9, 3) := by decide +kernel
theorem dX11_why_32 : decode cX11_why 32 = .ok (.aload_n 0, 1) := by decide +kernel
theorem dX11_why_33 : decode cX11_why 33 = .ok (.iload_n 1, 1) := by decide +kernel
theorem dX11_why_34 : decode cX11_why 34 = .ok (.iload_n 2, 1) := by decide +kernel
theorem dX11_why_35 : decode cX11_why 35 = .ok (.invokevirtual 116, 3) := by decide +kernel
theorem dX11_why_38 : decode cX11_why 38 = .ok (.ireturn, 1) := by decide +kernel
theorem dX11_ifFolded_0 : decode cX11_ifFolded 0 = .ok (.aload_n 0, 1) := by decide +kernel
theorem dX11_ifFolded_1 : decode cX11_ifFolded 1 = .ok (.iload_n 1, 1) := by decide +kernel
theorem dX11_ifFolded_2 : decode cX11_ifFolded 2 = .ok (.invokestatic 112, 3) := by decide +kernel
theorem dX11_ifFolded_5 : decode cX11_ifFolded 5 = .ok (.ifCond .eq 16, 3) := by decide +kernel
theorem dX11_ifFolded_8 : decode cX11_ifFolded 8 = .ok (.iload_n 2, 1) := by decide +kernel
theorem dX11_ifFolded_9 : decode cX11_ifFolded 9 = .ok (.iconst 0, 1) := by decide +kernel
theorem dX11_ifFolded_10 : decode cX11_ifFolded 10 = .ok (.iconst 3, 1) := by decide +kernel
theorem dX11_ifFolded_11 : decode cX11_ifFolded 11 = .ok (.invokestatic 50, 3) := by decide +kernel
theorem dX11_ifFolded_14 : decode cX11_ifFolded 14 = .ok (.ifCond .eq 7, 3) := by decide +kernel
theorem dX11_ifFolded_17 : decode cX11_ifFolded 17 = .ok (.iconst 0, 1) := by decide +kernel
theorem dX11_ifFolded_18 : decode cX11_ifFolded 18 = .ok (.goto 4, 3) := by decide +kernel
theorem dX11_ifFolded_21 : decode cX11_ifFolded 21 = .ok (.iconst 1, 1) := by decide +kernel
theorem dX11_ifFolded_22 : decode cX11_ifFolded 22 = .ok (.invokevirtual 119, 3) := by decide +kernel
theorem dX11_ifFolded_25 : decode cX11_ifFolded 25 = .ok (.ifCond .eq 7, 3) := by decide +kernel
theorem dX11_ifFolded_28 : decode cX11_ifFolded 28 = .ok (.iconst 0, 1) := by decide +kernel
theorem dX11_ifFolded_29 : decode cX11_ifFolded 29 = .ok (.goto 9, 3) := by decide +kernel
theorem dX11_ifFolded_32 : decode cX11_ifFolded 32 = .ok (.aload_n 0, 1) := by decide +kernel
theorem dX11_ifFolded_33 : decode cX11_ifFolded 33 = .ok (.iload_n 1, 1) := by decide +kernel
theorem dX11_ifFolded_34 : decode cX11_ifFolded 34 = .ok (.iload_n 2, 1) := by decide +kernel
theorem dX11_ifFolded_35 : decode cX11_ifFolded 35 = .ok (.invokevirtual 171, 3) := by decide +kernel
theorem dX11_ifFolded_38 : decode cX11_ifFolded 38 = .ok (.ireturn, 1) := by decide +kernel
theorem dX11_distance_0 : decode cX11_distance 0 = .ok (.aload_n 0, 1) := by decide +kernel
theorem dX11_distance_1 : decode cX11_distance 1 = .ok (.iload_n 1, 1) := by decide +kernel
theorem dX11_distance_2 : decode cX11_distance 2 = .ok (.invokestatic 112, 3) := by decide +kernel
theorem dX11_distance_5 : decode cX11_distance 5 = .ok (.ifCond .eq 14, 3) := by decide +kernel
theorem dX11_distance_8 : decode cX11_distance 8 = .ok (.iload_n 2, 1) := by decide +kernel
theorem dX11_distance_9 : decode cX11_distance 9 = .ok (.invokestatic 112, 3) := by decide +kernel
theorem dX11_distance_12 : decode cX11_distance 12 = .ok (.ifCond .eq 7, 3) := by decide +kernel
theorem dX11_distance_15 : decode cX11_distance 15 = .ok (.iconst 0, 1) := by decide +kernel
theorem dX11_distance_16 : decode cX11_distance 16 = .ok (.goto 4, 3) := by decide +kernel
theorem dX11_distance_19 : decode cX11_distance 19 = .ok (.iconst 1, 1) := by decide +kernel
theorem dX11_distance_20 : decode cX11_distance 20 = .ok (.invokevirtual 119, 3) := by decide +kernel
theorem dX11_distance_23 : decode cX11_distance 23 = .ok (.ifCond .eq 7, 3) := by decide +kernel
theorem dX11_distance_26 : decode cX11_distance 26 = .ok (.iconst 0, 1) := by decide +kernel
theorem dX11_distance_27 : decode cX11_distance 27 = .ok (.goto 9, 3) := by decide +kernel
theorem dX11_distance_30 : decode cX11_distance 30 = .ok (.aload_n 0, 1) := by decide +kernel
theorem dX11_distance_31 : decode cX11_distance 31 = .ok (.iload_n 1, 1) := by decide +kernel
theorem dX11_distance_32 : decode cX11_distance 32 = .ok (.iload_n 2, 1) := by decide +kernel
theorem dX11_distance_33 : decode cX11_distance 33 = .ok (.invokevirtual 198, 3) := by decide +kernel
theorem dX11_distance_36 : decode cX11_distance 36 = .ok (.ireturn, 1) := by decide +kernel
theorem dX11_nearestTo_0 : decode cX11_nearestTo 0 = .ok (.bipush (-10), 2) := by decide +kernel
theorem dX11_nearestTo_2 : decode cX11_nearestTo 2 = .ok (.istore_n 2, 1) := by decide +kernel
theorem dX11_nearestTo_3 : decode cX11_nearestTo 3 = .ok (.bipush 99, 2) := by decide +kernel
theorem dX11_nearestTo_5 : decode cX11_nearestTo 5 = .ok (.istore_n 3, 1) := by decide +kernel
theorem dX11_nearestTo_6 : decode cX11_nearestTo 6 = .ok (.iconst 0, 1) := by decide +kernel
theorem dX11_nearestTo_7 : decode cX11_nearestTo 7 = .ok (.istore 4, 2) := by decide +kernel
theorem dX11_nearestTo_9 : decode cX11_nearestTo 9 = .ok (.iload 4, 2) := by decide +kernel
theorem dX11_nearestTo_11 : decode cX11_nearestTo 11 = .ok (.iconst 5, 1) := by decide +kernel
theorem dX11_nearestTo_12 : decode cX11_nearestTo 12 = .ok (.if_icmp .ge 55, 3) := by decide +kernel
theorem dX11_nearestTo_15 : decode cX11_nearestTo 15 = .ok (.iload 4, 2) := by decide +kernel
theorem dX11_nearestTo_17 : decode cX11_nearestTo 17 = .ok (.iload_n 1, 1) := by decide +kernel
theorem dX11_nearestTo_18 : decode cX11_nearestTo 18 = .ok (.if_icmp .ne 8, 3) := by decide +kernel
theorem dX11_nearestTo_21 : decode cX11_nearestTo 21 = .ok (.bipush 99, 2) := by decide +kernel
theorem dX11_nearestTo_23 : decode cX11_nearestTo 23 = .ok (.goto 10, 3) := by decide +kernel
theorem dX11_nearestTo_26 : decode cX11_nearestTo 26 = .ok (.aload_n 0, 1) := by decide +kernel
theorem dX11_nearestTo_27 : decode cX11_nearestTo 27 = .ok (.iload_n 1, 1) := by decide +kernel
theorem dX11_nearestTo_28 : decode cX11_nearestTo 28 = .ok (.iload 4, 2) := by decide +kernel
theorem dX11_nearestTo_30 : decode cX11_nearestTo 30 = .ok (.invokevirtual 198, 3) := by decide +kernel
theorem dX11_nearestTo_33 : decode cX11_nearestTo 33 = .ok (.istore 5, 2) := by decide +kernel
theorem dX11_nearestTo_35 : decode cX11_nearestTo 35 = .ok (.iload 5, 2) := by decide +kernel
theorem dX11_nearestTo_37 : decode cX11_nearestTo 37 = .ok (.iload_n 3, 1) := by decide +kernel
theorem dX11_nearestTo_38 : decode cX11_nearestTo 38 = .ok (.if_icmp .ge 8, 3) := by decide +kernel
theorem dX11_nearestTo_41 : decode cX11_nearestTo 41 = .ok (.iload 4, 2) := by decide +kernel
theorem dX11_nearestTo_43 : decode cX11_nearestTo 43 = .ok (.goto 4, 3) := by decide +kernel
theorem dX11_nearestTo_46 : decode cX11_nearestTo 46 = .ok (.iload_n 2, 1) := by decide +kernel
theorem dX11_nearestTo_47 : decode cX11_nearestTo 47 = .ok (.istore_n 2, 1) := by decide +kernel
theorem dX11_nearestTo_48 : decode cX11_nearestTo 48 = .ok (.iload 5, 2) := by decide +kernel
theorem dX11_nearestTo_50 : decode cX11_nearestTo 50 = .ok (.iload_n 3, 1) := by decide +kernel
theorem dX11_nearestTo_51 : decode cX11_nearestTo 51 = .ok (.if_icmp .ge 8, 3) := by decide +kernel
theorem dX11_nearestTo_54 : decode cX11_nearestTo 54 = .ok (.iload 5, 2) := by decide +kernel
theorem dX11_nearestTo_56 : decode cX11_nearestTo 56 = .ok (.goto 4, 3) := by decide +kernel
theorem dX11_nearestTo_59 : decode cX11_nearestTo 59 = .ok (.iload_n 3, 1) := by decide +kernel
theorem dX11_nearestTo_60 : decode cX11_nearestTo 60 = .ok (.istore_n 3, 1) := by decide +kernel
theorem dX11_nearestTo_61 : decode cX11_nearestTo 61 = .ok (.iinc 4 1, 3) := by decide +kernel
theorem dX11_nearestTo_64 : decode cX11_nearestTo 64 = .ok (.goto (-55), 3) := by decide +kernel
theorem dX11_nearestTo_67 : decode cX11_nearestTo 67 = .ok (.iload_n 2, 1) := by decide +kernel
theorem dX11_nearestTo_68 : decode cX11_nearestTo 68 = .ok (.ireturn, 1) := by decide +kernel
theorem dX11_nearest_0 : decode cX11_nearest 0 = .ok (.aload_n 0, 1) := by decide +kernel
theorem dX11_nearest_1 : decode cX11_nearest 1 = .ok (.iload_n 1, 1) := by decide +kernel
theorem dX11_nearest_2 : decode cX11_nearest 2 = .ok (.invokestatic 112, 3) := by decide +kernel
theorem dX11_nearest_5 : decode cX11_nearest 5 = .ok (.ifCond .eq 7, 3) := by decide +kernel
theorem dX11_nearest_8 : decode cX11_nearest 8 = .ok (.iconst 0, 1) := by decide +kernel
theorem dX11_nearest_9 : decode cX11_nearest 9 = .ok (.goto 4, 3) := by decide +kernel
theorem dX11_nearest_12 : decode cX11_nearest 12 = .ok (.iconst 1, 1) := by decide +kernel
theorem dX11_nearest_13 : decode cX11_nearest 13 = .ok (.invokevirtual 119, 3) := by decide +kernel
theorem dX11_nearest_16 : decode cX11_nearest 16 = .ok (.ifCond .eq 7, 3) := by decide +kernel
theorem dX11_nearest_19 : decode cX11_nearest 19 = .ok (.iconst 0, 1) := by decide +kernel
theorem dX11_nearest_20 : decode cX11_nearest 20 = .ok (.goto 8, 3) := by decide +kernel
theorem dX11_nearest_23 : decode cX11_nearest 23 = .ok (.aload_n 0, 1) := by decide +kernel
theorem dX11_nearest_24 : decode cX11_nearest 24 = .ok (.iload_n 1, 1) := by decide +kernel
theorem dX11_nearest_25 : decode cX11_nearest 25 = .ok (.invokevirtual 201, 3) := by decide +kernel
theorem dX11_nearest_28 : decode cX11_nearest 28 = .ok (.ireturn, 1) := by decide +kernel
theorem dX11_hook_0 : decode cX11_hook 0 = .ok (.iconst 0, 1) := by decide +kernel
theorem dX11_hook_1 : decode cX11_hook 1 = .ok (.istore_n 1, 1) := by decide +kernel
theorem dX11_hook_2 : decode cX11_hook 2 = .ok (.iconst 0, 1) := by decide +kernel
theorem dX11_hook_3 : decode cX11_hook 3 = .ok (.istore_n 2, 1) := by decide +kernel
theorem dX11_hook_4 : decode cX11_hook 4 = .ok (.iload_n 2, 1) := by decide +kernel
theorem dX11_hook_5 : decode cX11_hook 5 = .ok (.iconst 4, 1) := by decide +kernel
theorem dX11_hook_6 : decode cX11_hook 6 = .ok (.if_icmp .ge 23, 3) := by decide +kernel
theorem dX11_hook_9 : decode cX11_hook 9 = .ok (.bipush 9, 2) := by decide +kernel
theorem dX11_hook_11 : decode cX11_hook 11 = .ok (.iload_n 1, 1) := by decide +kernel
theorem dX11_hook_12 : decode cX11_hook 12 = .ok (.imul, 1) := by decide +kernel
theorem dX11_hook_13 : decode cX11_hook 13 = .ok (.aload_n 0, 1) := by decide +kernel
theorem dX11_hook_14 : decode cX11_hook 14 = .ok (.getfield 22, 3) := by decide +kernel
theorem dX11_hook_17 : decode cX11_hook 17 = .ok (.iload_n 2, 1) := by decide +kernel
theorem dX11_hook_18 : decode cX11_hook 18 = .ok (.iaload, 1) := by decide +kernel
theorem dX11_hook_19 : decode cX11_hook 19 = .ok (.iadd, 1) := by decide +kernel
theorem dX11_hook_20 : decode cX11_hook 20 = .ok (.iconst 4, 1) := by decide +kernel
theorem dX11_hook_21 : decode cX11_hook 21 = .ok (.iadd, 1) := by decide +kernel
theorem dX11_hook_22 : decode cX11_hook 22 = .ok (.istore_n 1, 1) := by decide +kernel
theorem dX11_hook_23 : decode cX11_hook 23 = .ok (.iinc 2 1, 3) := by decide +kernel
theorem dX11_hook_26 : decode cX11_hook 26 = .ok (.goto (-22), 3) := by decide +kernel
theorem dX11_hook_29 : decode cX11_hook 29 = .ok (.iload_n 1, 1) := by decide +kernel
theorem dX11_hook_30 : decode cX11_hook 30 = .ok (.ireturn, 1) := by decide +kernel
theorem dX11_unhooks_0 : decode cX11_unhooks 0 = .ok (.iload_n 1, 1) := by decide +kernel
theorem dX11_unhooks_1 : decode cX11_unhooks 1 = .ok (.istore_n 2, 1) := by decide +kernel
theorem dX11_unhooks_2 : decode cX11_unhooks 2 = .ok (.iconst 3, 1) := by decide +kernel
theorem dX11_unhooks_3 : decode cX11_unhooks 3 = .ok (.istore_n 3, 1) := by decide +kernel
theorem dX11_unhooks_4 : decode cX11_unhooks 4 = .ok (.iload_n 3, 1) := by decide +kernel
theorem dX11_unhooks_5 : decode cX11_unhooks 5 = .ok (.ifCond .lt 26, 3) := by decide +kernel
theorem dX11_unhooks_8 : decode cX11_unhooks 8 = .ok (.aload_n 0, 1) := by decide +kernel
theorem dX11_unhooks_9 : decode cX11_unhooks 9 = .ok (.getfield 22, 3) := by decide +kernel
theorem dX11_unhooks_12 : decode cX11_unhooks 12 = .ok (.iload_n 3, 1) := by decide +kernel
theorem dX11_unhooks_13 : decode cX11_unhooks 13 = .ok (.iload_n 2, 1) := by decide +kernel
theorem dX11_unhooks_14 : decode cX11_unhooks 14 = .ok (.bipush 9, 2) := by decide +kernel
theorem dX11_unhooks_16 : decode cX11_unhooks 16 = .ok (.irem, 1) := by decide +kernel
theorem dX11_unhooks_17 : decode cX11_unhooks 17 = .ok (.iconst 4, 1) := by decide +kernel
theorem dX11_unhooks_18 : decode cX11_unhooks 18 = .ok (.isub, 1) := by decide +kernel
theorem dX11_unhooks_19 : decode cX11_unhooks 19 = .ok (.iastore, 1) := by decide +kernel
theorem dX11_unhooks_20 : decode cX11_unhooks 20 = .ok (.iload_n 2, 1) := by decide +kernel
theorem dX11_unhooks_21 : decode cX11_unhooks 21 = .ok (.bipush 9, 2) := by decide +kernel
theorem dX11_unhooks_23 : decode cX11_unhooks 23 = .ok (.idiv, 1) := by decide +kernel
theorem dX11_unhooks_24 : decode cX11_unhooks 24 = .ok (.istore_n 2, 1) := by decide +kernel
theorem dX11_unhooks_25 : decode cX11_unhooks 25 = .ok (.iinc 3 (-1), 3) := by decide +kernel
theorem dX11_unhooks_28 : decode cX11_unhooks 28 = .ok (.goto (-24), 3) := by decide +kernel
theorem dX11_unhooks_31 : decode cX11_unhooks 31 = .ok (.return_, 1) := by decide +kernel
theorem dX11_spread_0 : decode cX11_spread 0 = .ok (.iconst 0, 1) := by decide +kernel
theorem dX11_spread_1 : decode cX11_spread 1 = .ok (.istore_n 2, 1) := by decide +kernel
theorem dX11_spread_2 : decode cX11_spread 2 = .ok (.iload_n 2, 1) := by decide +kernel
theorem dX11_spread_3 : decode cX11_spread 3 = .ok (.sipush 6561, 3) := by decide +kernel
theorem dX11_spread_6 : decode cX11_spread 6 = .ok (.if_icmp .ge 16, 3) := by decide +kernel
theorem dX11_spread_9 : decode cX11_spread 9 = .ok (.aload_n 0, 1) := by decide +kernel
theorem dX11_spread_10 : decode cX11_spread 10 = .ok (.getfield 40, 3) := by decide +kernel
theorem dX11_spread_13 : decode cX11_spread 13 = .ok (.iload_n 2, 1) := by decide +kernel
theorem dX11_spread_14 : decode cX11_spread 14 = .ok (.iconst 0, 1) := by decide +kernel
theorem dX11_spread_15 : decode cX11_spread 15 = .ok (.iastore, 1) := by decide +kernel
theorem dX11_spread_16 : decode cX11_spread 16 = .ok (.iinc 2 1, 3) := by decide +kernel
theorem dX11_spread_19 : decode cX11_spread 19 = .ok (.goto (-17), 3) := by decide +kernel
theorem dX11_spread_22 : decode cX11_spread 22 = .ok (.iconst 0, 1) := by decide +kernel
theorem dX11_spread_23 : decode cX11_spread 23 = .ok (.istore_n 2, 1) := by decide +kernel
theorem dX11_spread_24 : decode cX11_spread 24 = .ok (.iload_n 2, 1) := by decide +kernel
theorem dX11_spread_25 : decode cX11_spread 25 = .ok (.iconst 4, 1) := by decide +kernel
theorem dX11_spread_26 : decode cX11_spread 26 = .ok (.if_icmp .ge 18, 3) := by decide +kernel
theorem dX11_spread_29 : decode cX11_spread 29 = .ok (.aload_n 0, 1) := by decide +kernel
theorem dX11_spread_30 : decode cX11_spread 30 = .ok (.getfield 22, 3) := by decide +kernel
theorem dX11_spread_33 : decode cX11_spread 33 = .ok (.iload_n 2, 1) := by decide +kernel
theorem dX11_spread_34 : decode cX11_spread 34 = .ok (.iload_n 2, 1) := by decide +kernel
theorem dX11_spread_35 : decode cX11_spread 35 = .ok (.iconst 1, 1) := by decide +kernel
theorem dX11_spread_36 : decode cX11_spread 36 = .ok (.iadd, 1) := by decide +kernel
theorem dX11_spread_37 : decode cX11_spread 37 = .ok (.iastore, 1) := by decide +kernel
theorem dX11_spread_38 : decode cX11_spread 38 = .ok (.iinc 2 1, 3) := by decide +kernel
theorem dX11_spread_41 : decode cX11_spread 41 = .ok (.goto (-17), 3) := by decide +kernel
theorem dX11_spread_44 : decode cX11_spread 44 = .ok (.aload_n 0, 1) := by decide +kernel
theorem dX11_spread_45 : decode cX11_spread 45 = .ok (.getfield 43, 3) := by decide +kernel
theorem dX11_spread_48 : decode cX11_spread 48 = .ok (.iconst 0, 1) := by decide +kernel
theorem dX11_spread_49 : decode cX11_spread 49 = .ok (.aload_n 0, 1) := by decide +kernel
theorem dX11_spread_50 : decode cX11_spread 50 = .ok (.invokevirtual 204, 3) := by decide +kernel
theorem dX11_spread_53 : decode cX11_spread 53 = .ok (.iastore, 1) := by decide +kernel
theorem dX11_spread_54 : decode cX11_spread 54 = .ok (.aload_n 0, 1) := by decide +kernel
theorem dX11_spread_55 : decode cX11_spread 55 = .ok (.getfield 40, 3) := by decide +kernel
theorem dX11_spread_58 : decode cX11_spread 58 = .ok (.aload_n 0, 1) := by decide +kernel
theorem dX11_spread_59 : decode cX11_spread 59 = .ok (.getfield 43, 3) := by decide +kernel
theorem dX11_spread_62 : decode cX11_spread 62 = .ok (.iconst 0, 1) := by decide +kernel
theorem dX11_spread_63 : decode cX11_spread 63 = .ok (.iaload, 1) := by decide +kernel
theorem dX11_spread_64 : decode cX11_spread 64 = .ok (.iconst 1, 1) := by decide +kernel
theorem dX11_spread_65 : decode cX11_spread 65 = .ok (.iastore, 1) := by decide +kernel
theorem dX11_spread_66 : decode cX11_spread 66 = .ok (.iconst 1, 1) := by decide +kernel
theorem dX11_spread_67 : decode cX11_spread 67 = .ok (.istore_n 2, 1) := by decide +kernel
theorem dX11_spread_68 : decode cX11_spread 68 = .ok (.iconst 0, 1) := by decide +kernel
theorem dX11_spread_69 : decode cX11_spread 69 = .ok (.istore_n 3, 1) := by decide +kernel
theorem dX11_spread_70 : decode cX11_spread 70 = .ok (.iconst 0, 1) := by decide +kernel
theorem dX11_spread_71 : decode cX11_spread 71 = .ok (.istore 4, 2) := by decide +kernel
theorem dX11_spread_73 : decode cX11_spread 73 = .ok (.iload 4, 2) := by decide +kernel
theorem dX11_spread_75 : decode cX11_spread 75 = .ok (.iload_n 2, 1) := by decide +kernel
theorem dX11_spread_76 : decode cX11_spread 76 = .ok (.if_icmp .ge 115, 3) := by decide +kernel
theorem dX11_spread_79 : decode cX11_spread 79 = .ok (.iload_n 3, 1) := by decide +kernel
theorem dX11_spread_80 : decode cX11_spread 80 = .ok (.aload_n 0, 1) := by decide +kernel
theorem dX11_spread_81 : decode cX11_spread 81 = .ok (.getfield 40, 3) := by decide +kernel
theorem dX11_spread_84 : decode cX11_spread 84 = .ok (.aload_n 0, 1) := by decide +kernel
theorem dX11_spread_85 : decode cX11_spread 85 = .ok (.getfield 43, 3) := by decide +kernel
theorem dX11_spread_88 : decode cX11_spread 88 = .ok (.iload 4, 2) := by decide +kernel
theorem dX11_spread_90 : decode cX11_spread 90 = .ok (.iaload, 1) := by decide +kernel
theorem dX11_spread_91 : decode cX11_spread 91 = .ok (.iaload, 1) := by decide +kernel
theorem dX11_spread_92 : decode cX11_spread 92 = .ok (.iload_n 1, 1) := by decide +kernel
theorem dX11_spread_93 : decode cX11_spread 93 = .ok (.iconst 1, 1) := by decide +kernel
theorem dX11_spread_94 : decode cX11_spread 94 = .ok (.iadd, 1) := by decide +kernel
theorem dX11_spread_95 : decode cX11_spread 95 = .ok (.if_icmp .ne 7, 3) := by decide +kernel
theorem dX11_spread_98 : decode cX11_spread 98 = .ok (.iconst 1, 1) := by decide +kernel
theorem dX11_spread_99 : decode cX11_spread 99 = .ok (.goto 4, 3) := by decide +kernel
theorem dX11_spread_102 : decode cX11_spread 102 = .ok (.iconst 0, 1) := by decide +kernel
theorem dX11_spread_103 : decode cX11_spread 103 = .ok (.iadd, 1) := by decide +kernel
theorem dX11_spread_104 : decode cX11_spread 104 = .ok (.istore_n 3, 1) := by decide +kernel
theorem dX11_spread_105 : decode cX11_spread 105 = .ok (.iconst 0, 1) := by decide +kernel
theorem dX11_spread_106 : decode cX11_spread 106 = .ok (.istore 5, 2) := by decide +kernel
theorem dX11_spread_108 : decode cX11_spread 108 = .ok (.iload 5, 2) := by decide +kernel
theorem dX11_spread_110 : decode cX11_spread 110 = .ok (.iconst 4, 1) := by decide +kernel
theorem dX11_spread_111 : decode cX11_spread 111 = .ok (.if_icmp .ge 74, 3) := by decide +kernel
theorem dX11_spread_114 : decode cX11_spread 114 = .ok (.aload_n 0, 1) := by decide +kernel
theorem dX11_spread_115 : decode cX11_spread 115 = .ok (.aload_n 0, 1) := by decide +kernel
theorem dX11_spread_116 : decode cX11_spread 116 = .ok (.getfield 43, 3) := by decide +kernel
theorem dX11_spread_119 : decode cX11_spread 119 = .ok (.iload 4, 2) := by decide +kernel
theorem dX11_spread_121 : decode cX11_spread 121 = .ok (.iaload, 1) := by decide +kernel
theorem dX11_spread_122 : decode cX11_spread 122 = .ok (.invokevirtual 207, 3) := by decide +kernel
theorem dX11_spread_125 : decode cX11_spread 125 = .ok (.aload_n 0, 1) := by decide +kernel
theorem dX11_spread_126 : decode cX11_spread 126 = .ok (.iload 5, 2) := by decide +kernel
theorem dX11_spread_128 : decode cX11_spread 128 = .ok (.invokevirtual 86, 3) := by decide +kernel
theorem dX11_spread_131 : decode cX11_spread 131 = .ok (.aload_n 0, 1) := by decide +kernel
theorem dX11_spread_132 : decode cX11_spread 132 = .ok (.invokevirtual 204, 3) := by decide +kernel
theorem dX11_spread_135 : decode cX11_spread 135 = .ok (.istore 6, 2) := by decide +kernel
theorem dX11_spread_137 : decode cX11_spread 137 = .ok (.aload_n 0, 1) := by decide +kernel
theorem dX11_spread_138 : decode cX11_spread 138 = .ok (.getfield 40, 3) := by decide +kernel
theorem dX11_spread_141 : decode cX11_spread 141 = .ok (.iload 6, 2) := by decide +kernel
theorem dX11_spread_143 : decode cX11_spread 143 = .ok (.iaload, 1) := by decide +kernel
theorem dX11_spread_144 : decode cX11_spread 144 = .ok (.ifCond .ne 35, 3) := by decide +kernel
theorem dX11_spread_147 : decode cX11_spread 147 = .ok (.aload_n 0, 1) := by decide +kernel
theorem dX11_spread_148 : decode cX11_spread 148 = .ok (.getfield 40, 3) := by decide +kernel
theorem dX11_spread_151 : decode cX11_spread 151 = .ok (.iload 6, 2) := by decide +kernel
theorem dX11_spread_153 : decode cX11_spread 153 = .ok (.aload_n 0, 1) := by decide +kernel
theorem dX11_spread_154 : decode cX11_spread 154 = .ok (.getfield 40, 3) := by decide +kernel
theorem dX11_spread_157 : decode cX11_spread 157 = .ok (.aload_n 0, 1) := by decide +kernel
theorem dX11_spread_158 : decode cX11_spread 158 = .ok (.getfield 43, 3) := by decide +kernel
theorem dX11_spread_161 : decode cX11_spread 161 = .ok (.iload 4, 2) := by decide +kernel
theorem dX11_spread_163 : decode cX11_spread 163 = .ok (.iaload, 1) := by decide +kernel
theorem dX11_spread_164 : decode cX11_spread 164 = .ok (.iaload, 1) := by decide +kernel
theorem dX11_spread_165 : decode cX11_spread 165 = .ok (.iconst 1, 1) := by decide +kernel
theorem dX11_spread_166 : decode cX11_spread 166 = .ok (.iadd, 1) := by decide +kernel
theorem dX11_spread_167 : decode cX11_spread 167 = .ok (.iastore, 1) := by decide +kernel
theorem dX11_spread_168 : decode cX11_spread 168 = .ok (.aload_n 0, 1) := by decide +kernel
theorem dX11_spread_169 : decode cX11_spread 169 = .ok (.getfield 43, 3) := by decide +kernel
theorem dX11_spread_172 : decode cX11_spread 172 = .ok (.iload_n 2, 1) := by decide +kernel
theorem dX11_spread_173 : decode cX11_spread 173 = .ok (.iload 6, 2) := by decide +kernel
theorem dX11_spread_175 : decode cX11_spread 175 = .ok (.iastore, 1) := by decide +kernel
theorem dX11_spread_176 : decode cX11_spread 176 = .ok (.iinc 2 1, 3) := by decide +kernel
theorem dX11_spread_179 : decode cX11_spread 179 = .ok (.iinc 5 1, 3) := by decide +kernel
theorem dX11_spread_182 : decode cX11_spread 182 = .ok (.goto (-74), 3) := by decide +kernel
theorem dX11_spread_185 : decode cX11_spread 185 = .ok (.iinc 4 1, 3) := by decide +kernel
theorem dX11_spread_188 : decode cX11_spread 188 = .ok (.goto (-115), 3) := by decide +kernel
theorem dX11_spread_191 : decode cX11_spread 191 = .ok (.iload_n 3, 1) := by decide +kernel
theorem dX11_spread_192 : decode cX11_spread 192 = .ok (.ireturn, 1) := by decide +kernel
theorem dX11_sums_0 : decode cX11_sums 0 = .ok (.iconst 0, 1) := by decide +kernel
theorem dX11_sums_1 : decode cX11_sums 1 = .ok (.istore_n 1, 1) := by decide +kernel
theorem dX11_sums_2 : decode cX11_sums 2 = .ok (.iconst 0, 1) := by decide +kernel
theorem dX11_sums_3 : decode cX11_sums 3 = .ok (.istore_n 2, 1) := by decide +kernel
theorem dX11_sums_4 : decode cX11_sums 4 = .ok (.iload_n 2, 1) := by decide +kernel
theorem dX11_sums_5 : decode cX11_sums 5 = .ok (.sipush 384, 3) := by decide +kernel
theorem dX11_sums_8 : decode cX11_sums 8 = .ok (.if_icmp .ge 43, 3) := by decide +kernel
theorem dX11_sums_11 : decode cX11_sums 11 = .ok (.iload_n 1, 1) := by decide +kernel
theorem dX11_sums_12 : decode cX11_sums 12 = .ok (.iload_n 2, 1) := by decide +kernel
theorem dX11_sums_13 : decode cX11_sums 13 = .ok (.iconst 2, 1) := by decide +kernel
theorem dX11_sums_14 : decode cX11_sums 14 = .ok (.irem, 1) := by decide +kernel
theorem dX11_sums_15 : decode cX11_sums 15 = .ok (.iload_n 2, 1) := by decide +kernel
theorem dX11_sums_16 : decode cX11_sums 16 = .ok (.iconst 2, 1) := by decide +kernel
theorem dX11_sums_17 : decode cX11_sums 17 = .ok (.idiv, 1) := by decide +kernel
theorem dX11_sums_18 : decode cX11_sums 18 = .ok (.iconst 4, 1) := by decide +kernel
theorem dX11_sums_19 : decode cX11_sums 19 = .ok (.irem, 1) := by decide +kernel
theorem dX11_sums_20 : decode cX11_sums 20 = .ok (.iadd, 1) := by decide +kernel
theorem dX11_sums_21 : decode cX11_sums 21 = .ok (.iload_n 2, 1) := by decide +kernel
theorem dX11_sums_22 : decode cX11_sums 22 = .ok (.bipush 8, 2) := by decide +kernel
theorem dX11_sums_24 : decode cX11_sums 24 = .ok (.idiv, 1) := by decide +kernel
theorem dX11_sums_25 : decode cX11_sums 25 = .ok (.bipush 6, 2) := by decide +kernel
theorem dX11_sums_27 : decode cX11_sums 27 = .ok (.irem, 1) := by decide +kernel
theorem dX11_sums_28 : decode cX11_sums 28 = .ok (.iadd, 1) := by decide +kernel
theorem dX11_sums_29 : decode cX11_sums 29 = .ok (.iload_n 2, 1) := by decide +kernel
theorem dX11_sums_30 : decode cX11_sums 30 = .ok (.bipush 48, 2) := by decide +kernel
theorem dX11_sums_32 : decode cX11_sums 32 = .ok (.idiv, 1) := by decide +kernel
theorem dX11_sums_33 : decode cX11_sums 33 = .ok (.iadd, 1) := by decide +kernel
theorem dX11_sums_34 : decode cX11_sums 34 = .ok (.iload_n 0, 1) := by decide +kernel
theorem dX11_sums_35 : decode cX11_sums 35 = .ok (.if_icmp .ne 7, 3) := by decide +kernel
theorem dX11_sums_38 : decode cX11_sums 38 = .ok (.iconst 1, 1) := by decide +kernel
theorem dX11_sums_39 : decode cX11_sums 39 = .ok (.goto 4, 3) := by decide +kernel
theorem dX11_sums_42 : decode cX11_sums 42 = .ok (.iconst 0, 1) := by decide +kernel
theorem dX11_sums_43 : decode cX11_sums 43 = .ok (.iadd, 1) := by decide +kernel
theorem dX11_sums_44 : decode cX11_sums 44 = .ok (.istore_n 1, 1) := by decide +kernel
theorem dX11_sums_45 : decode cX11_sums 45 = .ok (.iinc 2 1, 3) := by decide +kernel
theorem dX11_sums_48 : decode cX11_sums 48 = .ok (.goto (-44), 3) := by decide +kernel
theorem dX11_sums_51 : decode cX11_sums 51 = .ok (.iload_n 1, 1) := by decide +kernel
theorem dX11_sums_52 : decode cX11_sums 52 = .ok (.ireturn, 1) := by decide +kernel
theorem dX11_ways_0 : decode cX11_ways 0 = .ok (.aload_n 0, 1) := by decide +kernel
theorem dX11_ways_1 : decode cX11_ways 1 = .ok (.iload_n 1, 1) := by decide +kernel
theorem dX11_ways_2 : decode cX11_ways 2 = .ok (.iconst 0, 1) := by decide +kernel
theorem dX11_ways_3 : decode cX11_ways 3 = .ok (.bipush 20, 2) := by decide +kernel
theorem dX11_ways_5 : decode cX11_ways 5 = .ok (.invokestatic 50, 3) := by decide +kernel
theorem dX11_ways_8 : decode cX11_ways 8 = .ok (.ifCond .eq 16, 3) := by decide +kernel
theorem dX11_ways_11 : decode cX11_ways 11 = .ok (.iload_n 2, 1) := by decide +kernel
theorem dX11_ways_12 : decode cX11_ways 12 = .ok (.iconst 0, 1) := by decide +kernel
theorem dX11_ways_13 : decode cX11_ways 13 = .ok (.iconst 1, 1) := by decide +kernel
theorem dX11_ways_14 : decode cX11_ways 14 = .ok (.invokestatic 50, 3) := by decide +kernel
theorem dX11_ways_17 : decode cX11_ways 17 = .ok (.ifCond .eq 7, 3) := by decide +kernel
theorem dX11_ways_20 : decode cX11_ways 20 = .ok (.iconst 0, 1) := by decide +kernel
theorem dX11_ways_21 : decode cX11_ways 21 = .ok (.goto 4, 3) := by decide +kernel
theorem dX11_ways_24 : decode cX11_ways 24 = .ok (.iconst 1, 1) := by decide +kernel
theorem dX11_ways_25 : decode cX11_ways 25 = .ok (.invokevirtual 119, 3) := by decide +kernel
theorem dX11_ways_28 : decode cX11_ways 28 = .ok (.ifCond .eq 5, 3) := by decide +kernel
theorem dX11_ways_31 : decode cX11_ways 31 = .ok (.iconst 0, 1) := by decide +kernel
theorem dX11_ways_32 : decode cX11_ways 32 = .ok (.ireturn, 1) := by decide +kernel
theorem dX11_ways_33 : decode cX11_ways 33 = .ok (.iload_n 2, 1) := by decide +kernel
theorem dX11_ways_34 : decode cX11_ways 34 = .ok (.ifCond .ne 10, 3) := by decide +kernel
theorem dX11_ways_37 : decode cX11_ways 37 = .ok (.iload_n 1, 1) := by decide +kernel
theorem dX11_ways_38 : decode cX11_ways 38 = .ok (.invokestatic 210, 3) := by decide +kernel
theorem dX11_ways_41 : decode cX11_ways 41 = .ok (.goto 8, 3) := by decide +kernel
theorem dX11_ways_44 : decode cX11_ways 44 = .ok (.aload_n 0, 1) := by decide +kernel
theorem dX11_ways_45 : decode cX11_ways 45 = .ok (.iload_n 1, 1) := by decide +kernel
theorem dX11_ways_46 : decode cX11_ways 46 = .ok (.invokevirtual 213, 3) := by decide +kernel
theorem dX11_ways_49 : decode cX11_ways 49 = .ok (.ireturn, 1) := by decide +kernel
theorem dX11_pressedNow_0 : decode cX11_pressedNow 0 = .ok (.iconst 0, 1) := by decide +kernel
theorem dX11_pressedNow_1 : decode cX11_pressedNow 1 = .ok (.istore_n 1, 1) := by decide +kernel
theorem dX11_pressedNow_2 : decode cX11_pressedNow 2 = .ok (.iconst 0, 1) := by decide +kernel
theorem dX11_pressedNow_3 : decode cX11_pressedNow 3 = .ok (.istore_n 2, 1) := by decide +kernel
theorem dX11_pressedNow_4 : decode cX11_pressedNow 4 = .ok (.iload_n 2, 1) := by decide +kernel
theorem dX11_pressedNow_5 : decode cX11_pressedNow 5 = .ok (.iconst 5, 1) := by decide +kernel
theorem dX11_pressedNow_6 : decode cX11_pressedNow 6 = .ok (.if_icmp .ge 18, 3) := by decide +kernel
theorem dX11_pressedNow_9 : decode cX11_pressedNow 9 = .ok (.iload_n 1, 1) := by decide +kernel
theorem dX11_pressedNow_10 : decode cX11_pressedNow 10 = .ok (.aload_n 0, 1) := by decide +kernel
theorem dX11_pressedNow_11 : decode cX11_pressedNow 11 = .ok (.iload_n 2, 1) := by decide +kernel
theorem dX11_pressedNow_12 : decode cX11_pressedNow 12 = .ok (.iconst 4, 1) := by decide +kernel
theorem dX11_pressedNow_13 : decode cX11_pressedNow 13 = .ok (.invokevirtual 57, 3) := by decide +kernel
theorem dX11_pressedNow_16 : decode cX11_pressedNow 16 = .ok (.iadd, 1) := by decide +kernel
theorem dX11_pressedNow_17 : decode cX11_pressedNow 17 = .ok (.istore_n 1, 1) := by decide +kernel
theorem dX11_pressedNow_18 : decode cX11_pressedNow 18 = .ok (.iinc 2 1, 3) := by decide +kernel
theorem dX11_pressedNow_21 : decode cX11_pressedNow 21 = .ok (.goto (-17), 3) := by decide +kernel
theorem dX11_pressedNow_24 : decode cX11_pressedNow 24 = .ok (.iload_n 1, 1) := by decide +kernel
theorem dX11_pressedNow_25 : decode cX11_pressedNow 25 = .ok (.ifCond .ne 7, 3) := by decide +kernel
theorem dX11_pressedNow_28 : decode cX11_pressedNow 28 = .ok (.dconst 1, 1) := by decide +kernel
theorem dX11_pressedNow_29 : decode cX11_pressedNow 29 = .ok (.goto 13, 3) := by decide +kernel
theorem dX11_pressedNow_32 : decode cX11_pressedNow 32 = .ok (.aload_n 0, 1) := by decide +kernel
theorem dX11_pressedNow_33 : decode cX11_pressedNow 33 = .ok (.invokevirtual 168, 3) := by decide +kernel
theorem dX11_pressedNow_36 : decode cX11_pressedNow 36 = .ok (.i2d, 1) := by decide +kernel
theorem dX11_pressedNow_37 : decode cX11_pressedNow 37 = .ok (.dconst 1, 1) := by decide +kernel
theorem dX11_pressedNow_38 : decode cX11_pressedNow 38 = .ok (.dmul, 1) := by decide +kernel
theorem dX11_pressedNow_39 : decode cX11_pressedNow 39 = .ok (.iload_n 1, 1) := by decide +kernel
theorem dX11_pressedNow_40 : decode cX11_pressedNow 40 = .ok (.i2d, 1) := by decide +kernel
theorem dX11_pressedNow_41 : decode cX11_pressedNow 41 = .ok (.ddiv, 1) := by decide +kernel
theorem dX11_pressedNow_42 : decode cX11_pressedNow 42 = .ok (.dreturn, 1) := by decide +kernel
theorem dX11_pressed_0 : decode cX11_pressed 0 = .ok (.aload_n 0, 1) := by decide +kernel
theorem dX11_pressed_1 : decode cX11_pressed 1 = .ok (.iconst 0, 1) := by decide +kernel
theorem dX11_pressed_2 : decode cX11_pressed 2 = .ok (.putfield 46, 3) := by decide +kernel
theorem dX11_pressed_5 : decode cX11_pressed 5 = .ok (.aload_n 0, 1) := by decide +kernel
theorem dX11_pressed_6 : decode cX11_pressed 6 = .ok (.invokevirtual 216, 3) := by decide +kernel
theorem dX11_pressed_9 : decode cX11_pressed 9 = .ok (.dreturn, 1) := by decide +kernel
theorem dX11_meanLength_0 : decode cX11_meanLength 0 = .ok (.aload_n 0, 1) := by decide +kernel
theorem dX11_meanLength_1 : decode cX11_meanLength 1 = .ok (.iconst 0, 1) := by decide +kernel
theorem dX11_meanLength_2 : decode cX11_meanLength 2 = .ok (.putfield 46, 3) := by decide +kernel
theorem dX11_meanLength_5 : decode cX11_meanLength 5 = .ok (.aload_n 0, 1) := by decide +kernel
theorem dX11_meanLength_6 : decode cX11_meanLength 6 = .ok (.invokevirtual 168, 3) := by decide +kernel
theorem dX11_meanLength_9 : decode cX11_meanLength 9 = .ok (.i2f, 1) := by decide +kernel
theorem dX11_meanLength_10 : decode cX11_meanLength 10 = .ok (.ldc 220, 2) := by decide +kernel
theorem dX11_meanLength_12 : decode cX11_meanLength 12 = .ok (.fdiv, 1) := by decide +kernel
theorem dX11_meanLength_13 : decode cX11_meanLength 13 = .ok (.freturn, 1) := by decide +kernel
theorem dX11_adds_0 : decode cX11_adds 0 = .ok (.aload_n 0, 1) := by decide +kernel
theorem dX11_adds_1 : decode cX11_adds 1 = .ok (.ldc2_w 221, 3) := by decide +kernel
theorem dX11_adds_4 : decode cX11_adds 4 = .ok (.aload_n 0, 1) := by decide +kernel
theorem dX11_adds_5 : decode cX11_adds 5 = .ok (.getfield 223, 3) := by decide +kernel
theorem dX11_adds_8 : decode cX11_adds 8 = .ok (.lmul, 1) := by decide +kernel
theorem dX11_adds_9 : decode cX11_adds 9 = .ok (.lload_n 1, 1) := by decide +kernel
theorem dX11_adds_10 : decode cX11_adds 10 = .ok (.ladd, 1) := by decide +kernel
theorem dX11_adds_11 : decode cX11_adds 11 = .ok (.putfield 223, 3) := by decide +kernel
theorem dX11_adds_14 : decode cX11_adds 14 = .ok (.return_, 1) := by decide +kernel
theorem dX11_addsWord_0 : decode cX11_addsWord 0 = .ok (.aload_n 0, 1) := by decide +kernel
theorem dX11_addsWord_1 : decode cX11_addsWord 1 = .ok (.iload_n 1, 1) := by decide +kernel
theorem dX11_addsWord_2 : decode cX11_addsWord 2 = .ok (.invokevirtual 80, 3) := by decide +kernel
theorem dX11_addsWord_5 : decode cX11_addsWord 5 = .ok (.aload_n 0, 1) := by decide +kernel
theorem dX11_addsWord_6 : decode cX11_addsWord 6 = .ok (.invokevirtual 109, 3) := by decide +kernel
theorem dX11_addsWord_9 : decode cX11_addsWord 9 = .ok (.iconst 0, 1) := by decide +kernel
theorem dX11_addsWord_10 : decode cX11_addsWord 10 = .ok (.istore_n 2, 1) := by decide +kernel
theorem dX11_addsWord_11 : decode cX11_addsWord 11 = .ok (.iload_n 2, 1) := by decide +kernel
theorem dX11_addsWord_12 : decode cX11_addsWord 12 = .ok (.aload_n 0, 1) := by decide +kernel
theorem dX11_addsWord_13 : decode cX11_addsWord 13 = .ok (.getfield 69, 3) := by decide +kernel
theorem dX11_addsWord_16 : decode cX11_addsWord 16 = .ok (.if_icmp .ge 20, 3) := by decide +kernel
theorem dX11_addsWord_19 : decode cX11_addsWord 19 = .ok (.aload_n 0, 1) := by decide +kernel
theorem dX11_addsWord_20 : decode cX11_addsWord 20 = .ok (.aload_n 0, 1) := by decide +kernel
theorem dX11_addsWord_21 : decode cX11_addsWord 21 = .ok (.getfield 31, 3) := by decide +kernel
theorem dX11_addsWord_24 : decode cX11_addsWord 24 = .ok (.iload_n 2, 1) := by decide +kernel
theorem dX11_addsWord_25 : decode cX11_addsWord 25 = .ok (.iaload, 1) := by decide +kernel
theorem dX11_addsWord_26 : decode cX11_addsWord 26 = .ok (.i2l, 1) := by decide +kernel
theorem dX11_addsWord_27 : decode cX11_addsWord 27 = .ok (.invokevirtual 227, 3) := by decide +kernel
theorem dX11_addsWord_30 : decode cX11_addsWord 30 = .ok (.iinc 2 1, 3) := by decide +kernel
theorem dX11_addsWord_33 : decode cX11_addsWord 33 = .ok (.goto (-22), 3) := by decide +kernel
theorem dX11_addsWord_36 : decode cX11_addsWord 36 = .ok (.return_, 1) := by decide +kernel
theorem dX11_addsLetter_0 : decode cX11_addsLetter 0 = .ok (.iconst 0, 1) := by decide +kernel
theorem dX11_addsLetter_1 : decode cX11_addsLetter 1 = .ok (.istore_n 2, 1) := by decide +kernel
theorem dX11_addsLetter_2 : decode cX11_addsLetter 2 = .ok (.iload_n 2, 1) := by decide +kernel
theorem dX11_addsLetter_3 : decode cX11_addsLetter 3 = .ok (.iconst 4, 1) := by decide +kernel
theorem dX11_addsLetter_4 : decode cX11_addsLetter 4 = .ok (.if_icmp .ge 20, 3) := by decide +kernel
theorem dX11_addsLetter_7 : decode cX11_addsLetter 7 = .ok (.aload_n 0, 1) := by decide +kernel
theorem dX11_addsLetter_8 : decode cX11_addsLetter 8 = .ok (.aload_n 0, 1) := by decide +kernel
theorem dX11_addsLetter_9 : decode cX11_addsLetter 9 = .ok (.iload_n 1, 1) := by decide +kernel
theorem dX11_addsLetter_10 : decode cX11_addsLetter 10 = .ok (.iload_n 2, 1) := by decide +kernel
theorem dX11_addsLetter_11 : decode cX11_addsLetter 11 = .ok (.invokevirtual 57, 3) := by decide +kernel
theorem dX11_addsLetter_14 : decode cX11_addsLetter 14 = .ok (.i2l, 1) := by decide +kernel
theorem dX11_addsLetter_15 : decode cX11_addsLetter 15 = .ok (.invokevirtual 227, 3) := by decide +kernel
theorem dX11_addsLetter_18 : decode cX11_addsLetter 18 = .ok (.iinc 2 1, 3) := by decide +kernel
theorem dX11_addsLetter_21 : decode cX11_addsLetter 21 = .ok (.goto (-19), 3) := by decide +kernel
theorem dX11_addsLetter_24 : decode cX11_addsLetter 24 = .ok (.iconst 0, 1) := by decide +kernel
theorem dX11_addsLetter_25 : decode cX11_addsLetter 25 = .ok (.istore_n 2, 1) := by decide +kernel
theorem dX11_addsLetter_26 : decode cX11_addsLetter 26 = .ok (.iload_n 2, 1) := by decide +kernel
theorem dX11_addsLetter_27 : decode cX11_addsLetter 27 = .ok (.bipush 10, 2) := by decide +kernel
theorem dX11_addsLetter_29 : decode cX11_addsLetter 29 = .ok (.if_icmp .gt 20, 3) := by decide +kernel
theorem dX11_addsLetter_32 : decode cX11_addsLetter 32 = .ok (.aload_n 0, 1) := by decide +kernel
theorem dX11_addsLetter_33 : decode cX11_addsLetter 33 = .ok (.aload_n 0, 1) := by decide +kernel
theorem dX11_addsLetter_34 : decode cX11_addsLetter 34 = .ok (.iload_n 1, 1) := by decide +kernel
theorem dX11_addsLetter_35 : decode cX11_addsLetter 35 = .ok (.iload_n 2, 1) := by decide +kernel
theorem dX11_addsLetter_36 : decode cX11_addsLetter 36 = .ok (.invokevirtual 189, 3) := by decide +kernel
theorem dX11_addsLetter_39 : decode cX11_addsLetter 39 = .ok (.i2l, 1) := by decide +kernel
theorem dX11_addsLetter_40 : decode cX11_addsLetter 40 = .ok (.invokevirtual 227, 3) := by decide +kernel
theorem dX11_addsLetter_43 : decode cX11_addsLetter 43 = .ok (.iinc 2 1, 3) := by decide +kernel
theorem dX11_addsLetter_46 : decode cX11_addsLetter 46 = .ok (.goto (-20), 3) := by decide +kernel
theorem dX11_addsLetter_49 : decode cX11_addsLetter 49 = .ok (.iconst 0, 1) := by decide +kernel
theorem dX11_addsLetter_50 : decode cX11_addsLetter 50 = .ok (.istore_n 2, 1) := by decide +kernel
theorem dX11_addsLetter_51 : decode cX11_addsLetter 51 = .ok (.iload_n 2, 1) := by decide +kernel
theorem dX11_addsLetter_52 : decode cX11_addsLetter 52 = .ok (.aload_n 0, 1) := by decide +kernel
theorem dX11_addsLetter_53 : decode cX11_addsLetter 53 = .ok (.iload_n 1, 1) := by decide +kernel
theorem dX11_addsLetter_54 : decode cX11_addsLetter 54 = .ok (.iconst 4, 1) := by decide +kernel
theorem dX11_addsLetter_55 : decode cX11_addsLetter 55 = .ok (.invokevirtual 57, 3) := by decide +kernel
theorem dX11_addsLetter_58 : decode cX11_addsLetter 58 = .ok (.if_icmp .ge 23, 3) := by decide +kernel
theorem dX11_addsLetter_61 : decode cX11_addsLetter 61 = .ok (.aload_n 0, 1) := by decide +kernel
theorem dX11_addsLetter_62 : decode cX11_addsLetter 62 = .ok (.aload_n 0, 1) := by decide +kernel
theorem dX11_addsLetter_63 : decode cX11_addsLetter 63 = .ok (.iload_n 1, 1) := by decide +kernel
theorem dX11_addsLetter_64 : decode cX11_addsLetter 64 = .ok (.bipush 7, 2) := by decide +kernel
theorem dX11_addsLetter_66 : decode cX11_addsLetter 66 = .ok (.iload_n 2, 1) := by decide +kernel
theorem dX11_addsLetter_67 : decode cX11_addsLetter 67 = .ok (.iadd, 1) := by decide +kernel
theorem dX11_addsLetter_68 : decode cX11_addsLetter 68 = .ok (.invokevirtual 57, 3) := by decide +kernel
theorem dX11_addsLetter_71 : decode cX11_addsLetter 71 = .ok (.i2l, 1) := by decide +kernel
theorem dX11_addsLetter_72 : decode cX11_addsLetter 72 = .ok (.invokevirtual 227, 3) := by decide +kernel
theorem dX11_addsLetter_75 : decode cX11_addsLetter 75 = .ok (.iinc 2 1, 3) := by decide +kernel
theorem dX11_addsLetter_78 : decode cX11_addsLetter 78 = .ok (.goto (-27), 3) := by decide +kernel
theorem dX11_addsLetter_81 : decode cX11_addsLetter 81 = .ok (.aload_n 0, 1) := by decide +kernel
theorem dX11_addsLetter_82 : decode cX11_addsLetter 82 = .ok (.iload_n 1, 1) := by decide +kernel
theorem dX11_addsLetter_83 : decode cX11_addsLetter 83 = .ok (.invokevirtual 231, 3) := by decide +kernel
theorem dX11_addsLetter_86 : decode cX11_addsLetter 86 = .ok (.iconst 0, 1) := by decide +kernel
theorem dX11_addsLetter_87 : decode cX11_addsLetter 87 = .ok (.istore_n 2, 1) := by decide +kernel
theorem dX11_addsLetter_88 : decode cX11_addsLetter 88 = .ok (.iload_n 2, 1) := by decide +kernel
theorem dX11_addsLetter_89 : decode cX11_addsLetter 89 = .ok (.iconst 4, 1) := by decide +kernel
theorem dX11_addsLetter_90 : decode cX11_addsLetter 90 = .ok (.if_icmp .ge 20, 3) := by decide +kernel
theorem dX11_addsLetter_93 : decode cX11_addsLetter 93 = .ok (.aload_n 0, 1) := by decide +kernel
theorem dX11_addsLetter_94 : decode cX11_addsLetter 94 = .ok (.aload_n 0, 1) := by decide +kernel
theorem dX11_addsLetter_95 : decode cX11_addsLetter 95 = .ok (.iload_n 1, 1) := by decide +kernel
theorem dX11_addsLetter_96 : decode cX11_addsLetter 96 = .ok (.iload_n 2, 1) := by decide +kernel
theorem dX11_addsLetter_97 : decode cX11_addsLetter 97 = .ok (.invokevirtual 116, 3) := by decide +kernel
theorem dX11_addsLetter_100 : decode cX11_addsLetter 100 = .ok (.i2l, 1) := by decide +kernel
theorem dX11_addsLetter_101 : decode cX11_addsLetter 101 = .ok (.invokevirtual 227, 3) := by decide +kernel
theorem dX11_addsLetter_104 : decode cX11_addsLetter 104 = .ok (.iinc 2 1, 3) := by decide +kernel
theorem dX11_addsLetter_107 : decode cX11_addsLetter 107 = .ok (.goto (-19), 3) := by decide +kernel
theorem dX11_addsLetter_110 : decode cX11_addsLetter 110 = .ok (.iconst 0, 1) := by decide +kernel
theorem dX11_addsLetter_111 : decode cX11_addsLetter 111 = .ok (.istore_n 2, 1) := by decide +kernel
theorem dX11_addsLetter_112 : decode cX11_addsLetter 112 = .ok (.iload_n 2, 1) := by decide +kernel
theorem dX11_addsLetter_113 : decode cX11_addsLetter 113 = .ok (.iconst 4, 1) := by decide +kernel
theorem dX11_addsLetter_114 : decode cX11_addsLetter 114 = .ok (.if_icmp .ge 20, 3) := by decide +kernel
theorem dX11_addsLetter_117 : decode cX11_addsLetter 117 = .ok (.aload_n 0, 1) := by decide +kernel
theorem dX11_addsLetter_118 : decode cX11_addsLetter 118 = .ok (.aload_n 0, 1) := by decide +kernel
theorem dX11_addsLetter_119 : decode cX11_addsLetter 119 = .ok (.iload_n 1, 1) := by decide +kernel
theorem dX11_addsLetter_120 : decode cX11_addsLetter 120 = .ok (.iload_n 2, 1) := by decide +kernel
theorem dX11_addsLetter_121 : decode cX11_addsLetter 121 = .ok (.invokevirtual 171, 3) := by decide +kernel
theorem dX11_addsLetter_124 : decode cX11_addsLetter 124 = .ok (.i2l, 1) := by decide +kernel
theorem dX11_addsLetter_125 : decode cX11_addsLetter 125 = .ok (.invokevirtual 227, 3) := by decide +kernel
theorem dX11_addsLetter_128 : decode cX11_addsLetter 128 = .ok (.iinc 2 1, 3) := by decide +kernel
theorem dX11_addsLetter_131 : decode cX11_addsLetter 131 = .ok (.goto (-19), 3) := by decide +kernel
theorem dX11_addsLetter_134 : decode cX11_addsLetter 134 = .ok (.iconst 0, 1) := by decide +kernel
theorem dX11_addsLetter_135 : decode cX11_addsLetter 135 = .ok (.istore_n 2, 1) := by decide +kernel
theorem dX11_addsLetter_136 : decode cX11_addsLetter 136 = .ok (.iload_n 2, 1) := by decide +kernel
theorem dX11_addsLetter_137 : decode cX11_addsLetter 137 = .ok (.iconst 5, 1) := by decide +kernel
theorem dX11_addsLetter_138 : decode cX11_addsLetter 138 = .ok (.if_icmp .ge 20, 3) := by decide +kernel
theorem dX11_addsLetter_141 : decode cX11_addsLetter 141 = .ok (.aload_n 0, 1) := by decide +kernel
theorem dX11_addsLetter_142 : decode cX11_addsLetter 142 = .ok (.aload_n 0, 1) := by decide +kernel
theorem dX11_addsLetter_143 : decode cX11_addsLetter 143 = .ok (.iload_n 1, 1) := by decide +kernel
theorem dX11_addsLetter_144 : decode cX11_addsLetter 144 = .ok (.iload_n 2, 1) := by decide +kernel
theorem dX11_addsLetter_145 : decode cX11_addsLetter 145 = .ok (.invokevirtual 198, 3) := by decide +kernel
theorem dX11_addsLetter_148 : decode cX11_addsLetter 148 = .ok (.i2l, 1) := by decide +kernel
theorem dX11_addsLetter_149 : decode cX11_addsLetter 149 = .ok (.invokevirtual 227, 3) := by decide +kernel
theorem dX11_addsLetter_152 : decode cX11_addsLetter 152 = .ok (.iinc 2 1, 3) := by decide +kernel
theorem dX11_addsLetter_155 : decode cX11_addsLetter 155 = .ok (.goto (-19), 3) := by decide +kernel
theorem dX11_addsLetter_158 : decode cX11_addsLetter 158 = .ok (.aload_n 0, 1) := by decide +kernel
theorem dX11_addsLetter_159 : decode cX11_addsLetter 159 = .ok (.aload_n 0, 1) := by decide +kernel
theorem dX11_addsLetter_160 : decode cX11_addsLetter 160 = .ok (.iload_n 1, 1) := by decide +kernel
theorem dX11_addsLetter_161 : decode cX11_addsLetter 161 = .ok (.invokevirtual 201, 3) := by decide +kernel
theorem dX11_addsLetter_164 : decode cX11_addsLetter 164 = .ok (.i2l, 1) := by decide +kernel
theorem dX11_addsLetter_165 : decode cX11_addsLetter 165 = .ok (.invokevirtual 227, 3) := by decide +kernel
theorem dX11_addsLetter_168 : decode cX11_addsLetter 168 = .ok (.return_, 1) := by decide +kernel
theorem dX11_digest_0 : decode cX11_digest 0 = .ok (.aload_n 0, 1) := by decide +kernel
theorem dX11_digest_1 : decode cX11_digest 1 = .ok (.iconst 0, 1) := by decide +kernel
theorem dX11_digest_2 : decode cX11_digest 2 = .ok (.putfield 46, 3) := by decide +kernel
theorem dX11_digest_5 : decode cX11_digest 5 = .ok (.aload_n 0, 1) := by decide +kernel
theorem dX11_digest_6 : decode cX11_digest 6 = .ok (.ldc2_w 234, 3) := by decide +kernel
theorem dX11_digest_9 : decode cX11_digest 9 = .ok (.putfield 223, 3) := by decide +kernel
theorem dX11_digest_12 : decode cX11_digest 12 = .ok (.iconst 0, 1) := by decide +kernel
theorem dX11_digest_13 : decode cX11_digest 13 = .ok (.istore_n 1, 1) := by decide +kernel
theorem dX11_digest_14 : decode cX11_digest 14 = .ok (.iload_n 1, 1) := by decide +kernel
theorem dX11_digest_15 : decode cX11_digest 15 = .ok (.bipush 6, 2) := by decide +kernel
theorem dX11_digest_17 : decode cX11_digest 17 = .ok (.if_icmp .gt 19, 3) := by decide +kernel
theorem dX11_digest_20 : decode cX11_digest 20 = .ok (.aload_n 0, 1) := by decide +kernel
theorem dX11_digest_21 : decode cX11_digest 21 = .ok (.aload_n 0, 1) := by decide +kernel
theorem dX11_digest_22 : decode cX11_digest 22 = .ok (.iload_n 1, 1) := by decide +kernel
theorem dX11_digest_23 : decode cX11_digest 23 = .ok (.invokevirtual 195, 3) := by decide +kernel
theorem dX11_digest_26 : decode cX11_digest 26 = .ok (.i2l, 1) := by decide +kernel
theorem dX11_digest_27 : decode cX11_digest 27 = .ok (.invokevirtual 227, 3) := by decide +kernel
theorem dX11_digest_30 : decode cX11_digest 30 = .ok (.iinc 1 1, 3) := by decide +kernel
theorem dX11_digest_33 : decode cX11_digest 33 = .ok (.goto (-19), 3) := by decide +kernel
theorem dX11_digest_36 : decode cX11_digest 36 = .ok (.iconst 0, 1) := by decide +kernel
theorem dX11_digest_37 : decode cX11_digest 37 = .ok (.istore_n 1, 1) := by decide +kernel
theorem dX11_digest_38 : decode cX11_digest 38 = .ok (.iload_n 1, 1) := by decide +kernel
theorem dX11_digest_39 : decode cX11_digest 39 = .ok (.iconst 5, 1) := by decide +kernel
theorem dX11_digest_40 : decode cX11_digest 40 = .ok (.if_icmp .ge 14, 3) := by decide +kernel
theorem dX11_digest_43 : decode cX11_digest 43 = .ok (.aload_n 0, 1) := by decide +kernel
theorem dX11_digest_44 : decode cX11_digest 44 = .ok (.iload_n 1, 1) := by decide +kernel
theorem dX11_digest_45 : decode cX11_digest 45 = .ok (.invokevirtual 236, 3) := by decide +kernel
theorem dX11_digest_48 : decode cX11_digest 48 = .ok (.iinc 1 1, 3) := by decide +kernel
theorem dX11_digest_51 : decode cX11_digest 51 = .ok (.goto (-13), 3) := by decide +kernel
theorem dX11_digest_54 : decode cX11_digest 54 = .ok (.aload_n 0, 1) := by decide +kernel
theorem dX11_digest_55 : decode cX11_digest 55 = .ok (.iconst 0, 1) := by decide +kernel
theorem dX11_digest_56 : decode cX11_digest 56 = .ok (.invokevirtual 83, 3) := by decide +kernel
theorem dX11_digest_59 : decode cX11_digest 59 = .ok (.istore_n 1, 1) := by decide +kernel
theorem dX11_digest_60 : decode cX11_digest 60 = .ok (.aload_n 0, 1) := by decide +kernel
theorem dX11_digest_61 : decode cX11_digest 61 = .ok (.iload_n 1, 1) := by decide +kernel
theorem dX11_digest_62 : decode cX11_digest 62 = .ok (.invokestatic 210, 3) := by decide +kernel
theorem dX11_digest_65 : decode cX11_digest 65 = .ok (.i2l, 1) := by decide +kernel
theorem dX11_digest_66 : decode cX11_digest 66 = .ok (.invokevirtual 227, 3) := by decide +kernel
theorem dX11_digest_69 : decode cX11_digest 69 = .ok (.aload_n 0, 1) := by decide +kernel
theorem dX11_digest_70 : decode cX11_digest 70 = .ok (.aload_n 0, 1) := by decide +kernel
theorem dX11_digest_71 : decode cX11_digest 71 = .ok (.iload_n 1, 1) := by decide +kernel
theorem dX11_digest_72 : decode cX11_digest 72 = .ok (.invokevirtual 213, 3) := by decide +kernel
theorem dX11_digest_75 : decode cX11_digest 75 = .ok (.i2l, 1) := by decide +kernel
theorem dX11_digest_76 : decode cX11_digest 76 = .ok (.invokevirtual 227, 3) := by decide +kernel
theorem dX11_digest_79 : decode cX11_digest 79 = .ok (.aload_n 0, 1) := by decide +kernel
theorem dX11_digest_80 : decode cX11_digest 80 = .ok (.aload_n 0, 1) := by decide +kernel
theorem dX11_digest_81 : decode cX11_digest 81 = .ok (.invokevirtual 216, 3) := by decide +kernel
theorem dX11_digest_84 : decode cX11_digest 84 = .ok (.invokestatic 239, 3) := by decide +kernel
theorem dX11_digest_87 : decode cX11_digest 87 = .ok (.invokevirtual 227, 3) := by decide +kernel
theorem dX11_digest_90 : decode cX11_digest 90 = .ok (.aload_n 0, 1) := by decide +kernel
theorem dX11_digest_91 : decode cX11_digest 91 = .ok (.aload_n 0, 1) := by decide +kernel
theorem dX11_digest_92 : decode cX11_digest 92 = .ok (.invokevirtual 168, 3) := by decide +kernel
theorem dX11_digest_95 : decode cX11_digest 95 = .ok (.i2f, 1) := by decide +kernel
theorem dX11_digest_96 : decode cX11_digest 96 = .ok (.ldc 220, 2) := by decide +kernel
theorem dX11_digest_98 : decode cX11_digest 98 = .ok (.fdiv, 1) := by decide +kernel
theorem dX11_digest_99 : decode cX11_digest 99 = .ok (.invokestatic 245, 3) := by decide +kernel
theorem dX11_digest_102 : decode cX11_digest 102 = .ok (.i2l, 1) := by decide +kernel
theorem dX11_digest_103 : decode cX11_digest 103 = .ok (.invokevirtual 227, 3) := by decide +kernel
theorem dX11_digest_106 : decode cX11_digest 106 = .ok (.aload_n 0, 1) := by decide +kernel
theorem dX11_digest_107 : decode cX11_digest 107 = .ok (.aload_n 0, 1) := by decide +kernel
theorem dX11_digest_108 : decode cX11_digest 108 = .ok (.getfield 164, 3) := by decide +kernel
theorem dX11_digest_111 : decode cX11_digest 111 = .ok (.ifCond .eq 7, 3) := by decide +kernel
theorem dX11_digest_114 : decode cX11_digest 114 = .ok (.lconst 1, 1) := by decide +kernel
theorem dX11_digest_115 : decode cX11_digest 115 = .ok (.goto 4, 3) := by decide +kernel
theorem dX11_digest_118 : decode cX11_digest 118 = .ok (.lconst 0, 1) := by decide +kernel
theorem dX11_digest_119 : decode cX11_digest 119 = .ok (.invokevirtual 227, 3) := by decide +kernel
theorem dX11_digest_122 : decode cX11_digest 122 = .ok (.aload_n 0, 1) := by decide +kernel
theorem dX11_digest_123 : decode cX11_digest 123 = .ok (.aload_n 0, 1) := by decide +kernel
theorem dX11_digest_124 : decode cX11_digest 124 = .ok (.getfield 140, 3) := by decide +kernel
theorem dX11_digest_127 : decode cX11_digest 127 = .ok (.i2l, 1) := by decide +kernel
theorem dX11_digest_128 : decode cX11_digest 128 = .ok (.invokevirtual 227, 3) := by decide +kernel
theorem dX11_digest_131 : decode cX11_digest 131 = .ok (.iconst 0, 1) := by decide +kernel
theorem dX11_digest_132 : decode cX11_digest 132 = .ok (.istore_n 2, 1) := by decide +kernel
theorem dX11_digest_133 : decode cX11_digest 133 = .ok (.iload_n 2, 1) := by decide +kernel
theorem dX11_digest_134 : decode cX11_digest 134 = .ok (.aload_n 0, 1) := by decide +kernel
theorem dX11_digest_135 : decode cX11_digest 135 = .ok (.getfield 140, 3) := by decide +kernel
theorem dX11_digest_138 : decode cX11_digest 138 = .ok (.if_icmp .ge 20, 3) := by decide +kernel
theorem dX11_digest_141 : decode cX11_digest 141 = .ok (.aload_n 0, 1) := by decide +kernel
theorem dX11_digest_142 : decode cX11_digest 142 = .ok (.aload_n 0, 1) := by decide +kernel
theorem dX11_digest_143 : decode cX11_digest 143 = .ok (.getfield 19, 3) := by decide +kernel
theorem dX11_digest_146 : decode cX11_digest 146 = .ok (.iload_n 2, 1) := by decide +kernel
theorem dX11_digest_147 : decode cX11_digest 147 = .ok (.iaload, 1) := by decide +kernel
theorem dX11_digest_148 : decode cX11_digest 148 = .ok (.i2l, 1) := by decide +kernel
theorem dX11_digest_149 : decode cX11_digest 149 = .ok (.invokevirtual 227, 3) := by decide +kernel
theorem dX11_digest_152 : decode cX11_digest 152 = .ok (.iinc 2 1, 3) := by decide +kernel
theorem dX11_digest_155 : decode cX11_digest 155 = .ok (.goto (-22), 3) := by decide +kernel
theorem dX11_digest_158 : decode cX11_digest 158 = .ok (.aload_n 0, 1) := by decide +kernel
theorem dX11_digest_159 : decode cX11_digest 159 = .ok (.getfield 223, 3) := by decide +kernel
theorem dX11_digest_162 : decode cX11_digest 162 = .ok (.lreturn, 1) := by decide +kernel
