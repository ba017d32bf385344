theorem dX7_init_0 : decode cX7_init 0 = .ok (.aload_n 0, 1) := by decide +kernel
theorem dX7_init_1 : decode cX7_init 1 = .ok (.invokespecial 1, 3) := by decide +kernel
theorem dX7_init_4 : decode cX7_init 4 = .ok (.aload_n 0, 1) := by decide +kernel
theorem dX7_init_5 : decode cX7_init 5 = .ok (.bipush 50, 2) := by decide +kernel
theorem dX7_init_7 : decode cX7_init 7 = .ok (.newarray .int, 2) := by decide +kernel
theorem dX7_init_9 : decode cX7_init 9 = .ok (.putfield 7, 3) := by decide +kernel
theorem dX7_init_12 : decode cX7_init 12 = .ok (.aload_n 0, 1) := by decide +kernel
theorem dX7_init_13 : decode cX7_init 13 = .ok (.bipush 12, 2) := by decide +kernel
theorem dX7_init_15 : decode cX7_init 15 = .ok (.newarray .long, 2) := by decide +kernel
theorem dX7_init_17 : decode cX7_init 17 = .ok (.putfield 13, 3) := by decide +kernel
theorem dX7_init_20 : decode cX7_init 20 = .ok (.aload_n 0, 1) := by decide +kernel
theorem dX7_init_21 : decode cX7_init 21 = .ok (.bipush 7, 2) := by decide +kernel
theorem dX7_init_23 : decode cX7_init 23 = .ok (.newarray .int, 2) := by decide +kernel
theorem dX7_init_25 : decode cX7_init 25 = .ok (.putfield 17, 3) := by decide +kernel
theorem dX7_init_28 : decode cX7_init 28 = .ok (.aload_n 0, 1) := by decide +kernel
theorem dX7_init_29 : decode cX7_init 29 = .ok (.sipush 144, 3) := by decide +kernel
theorem dX7_init_32 : decode cX7_init 32 = .ok (.newarray .boolean, 2) := by decide +kernel
theorem dX7_init_34 : decode cX7_init 34 = .ok (.putfield 20, 3) := by decide +kernel
theorem dX7_init_37 : decode cX7_init 37 = .ok (.aload_n 0, 1) := by decide +kernel
theorem dX7_init_38 : decode cX7_init 38 = .ok (.bipush 12, 2) := by decide +kernel
theorem dX7_init_40 : decode cX7_init 40 = .ok (.newarray .int, 2) := by decide +kernel
theorem dX7_init_42 : decode cX7_init 42 = .ok (.putfield 24, 3) := by decide +kernel
theorem dX7_init_45 : decode cX7_init 45 = .ok (.aload_n 0, 1) := by decide +kernel
theorem dX7_init_46 : decode cX7_init 46 = .ok (.sipush 4096, 3) := by decide +kernel
theorem dX7_init_49 : decode cX7_init 49 = .ok (.newarray .boolean, 2) := by decide +kernel
theorem dX7_init_51 : decode cX7_init 51 = .ok (.putfield 27, 3) := by decide +kernel
theorem dX7_init_54 : decode cX7_init 54 = .ok (.aload_n 0, 1) := by decide +kernel
theorem dX7_init_55 : decode cX7_init 55 = .ok (.sipush 4096, 3) := by decide +kernel
theorem dX7_init_58 : decode cX7_init 58 = .ok (.newarray .int, 2) := by decide +kernel
theorem dX7_init_60 : decode cX7_init 60 = .ok (.putfield 30, 3) := by decide +kernel
theorem dX7_init_63 : decode cX7_init 63 = .ok (.aload_n 0, 1) := by decide +kernel
theorem dX7_init_64 : decode cX7_init 64 = .ok (.bipush 12, 2) := by decide +kernel
theorem dX7_init_66 : decode cX7_init 66 = .ok (.newarray .int, 2) := by decide +kernel
theorem dX7_init_68 : decode cX7_init 68 = .ok (.putfield 33, 3) := by decide +kernel
theorem dX7_init_71 : decode cX7_init 71 = .ok (.aload_n 0, 1) := by decide +kernel
theorem dX7_init_72 : decode cX7_init 72 = .ok (.bipush 120, 2) := by decide +kernel
theorem dX7_init_74 : decode cX7_init 74 = .ok (.newarray .int, 2) := by decide +kernel
theorem dX7_init_76 : decode cX7_init 76 = .ok (.putfield 36, 3) := by decide +kernel
theorem dX7_init_79 : decode cX7_init 79 = .ok (.aload_n 0, 1) := by decide +kernel
theorem dX7_init_80 : decode cX7_init 80 = .ok (.iconst 4, 1) := by decide +kernel
theorem dX7_init_81 : decode cX7_init 81 = .ok (.newarray .int, 2) := by decide +kernel
theorem dX7_init_83 : decode cX7_init 83 = .ok (.putfield 39, 3) := by decide +kernel
theorem dX7_init_86 : decode cX7_init 86 = .ok (.aload_n 0, 1) := by decide +kernel
theorem dX7_init_87 : decode cX7_init 87 = .ok (.iconst 4, 1) := by decide +kernel
theorem dX7_init_88 : decode cX7_init 88 = .ok (.newarray .int, 2) := by decide +kernel
theorem dX7_init_90 : decode cX7_init 90 = .ok (.putfield 42, 3) := by decide +kernel
theorem dX7_init_93 : decode cX7_init 93 = .ok (.aload_n 0, 1) := by decide +kernel
theorem dX7_init_94 : decode cX7_init 94 = .ok (.sipush 160, 3) := by decide +kernel
theorem dX7_init_97 : decode cX7_init 97 = .ok (.newarray .long, 2) := by decide +kernel
theorem dX7_init_99 : decode cX7_init 99 = .ok (.putfield 45, 3) := by decide +kernel
theorem dX7_init_102 : decode cX7_init 102 = .ok (.aload_n 0, 1) := by decide +kernel
theorem dX7_init_103 : decode cX7_init 103 = .ok (.bipush 40, 2) := by decide +kernel
theorem dX7_init_105 : decode cX7_init 105 = .ok (.newarray .long, 2) := by decide +kernel
theorem dX7_init_107 : decode cX7_init 107 = .ok (.putfield 48, 3) := by decide +kernel
theorem dX7_init_110 : decode cX7_init 110 = .ok (.aload_n 0, 1) := by decide +kernel
theorem dX7_init_111 : decode cX7_init 111 = .ok (.bipush 50, 2) := by decide +kernel
theorem dX7_init_113 : decode cX7_init 113 = .ok (.newarray .int, 2) := by decide +kernel
theorem dX7_init_115 : decode cX7_init 115 = .ok (.putfield 51, 3) := by decide +kernel
theorem dX7_init_118 : decode cX7_init 118 = .ok (.aload_n 0, 1) := by decide +kernel
theorem dX7_init_119 : decode cX7_init 119 = .ok (.bipush 50, 2) := by decide +kernel
theorem dX7_init_121 : decode cX7_init 121 = .ok (.newarray .int, 2) := by decide +kernel
theorem dX7_init_123 : decode cX7_init 123 = .ok (.putfield 54, 3) := by decide +kernel
theorem dX7_init_126 : decode cX7_init 126 = .ok (.aload_n 0, 1) := by decide +kernel
theorem dX7_init_127 : decode cX7_init 127 = .ok (.bipush 12, 2) := by decide +kernel
theorem dX7_init_129 : decode cX7_init 129 = .ok (.newarray .long, 2) := by decide +kernel
theorem dX7_init_131 : decode cX7_init 131 = .ok (.putfield 57, 3) := by decide +kernel
theorem dX7_init_134 : decode cX7_init 134 = .ok (.aload_n 0, 1) := by decide +kernel
theorem dX7_init_135 : decode cX7_init 135 = .ok (.bipush 12, 2) := by decide +kernel
theorem dX7_init_137 : decode cX7_init 137 = .ok (.newarray .long, 2) := by decide +kernel
theorem dX7_init_139 : decode cX7_init 139 = .ok (.putfield 60, 3) := by decide +kernel
theorem dX7_init_142 : decode cX7_init 142 = .ok (.aload_n 0, 1) := by decide +kernel
theorem dX7_init_143 : decode cX7_init 143 = .ok (.getfield 7, 3) := by decide +kernel
theorem dX7_init_146 : decode cX7_init 146 = .ok (.iconst 1, 1) := by decide +kernel
theorem dX7_init_147 : decode cX7_init 147 = .ok (.bipush 20, 2) := by decide +kernel
theorem dX7_init_149 : decode cX7_init 149 = .ok (.iastore, 1) := by decide +kernel
theorem dX7_init_150 : decode cX7_init 150 = .ok (.return_, 1) := by decide +kernel
theorem dX7_in_0 : decode cX7_in 0 = .ok (.iload_n 0, 1) := by decide +kernel
theorem dX7_in_1 : decode cX7_in 1 = .ok (.iload_n 1, 1) := by decide +kernel
theorem dX7_in_2 : decode cX7_in 2 = .ok (.if_icmp .lt 12, 3) := by decide +kernel
theorem dX7_in_5 : decode cX7_in 5 = .ok (.iload_n 0, 1) := by decide +kernel
theorem dX7_in_6 : decode cX7_in 6 = .ok (.iload_n 2, 1) := by decide +kernel
theorem dX7_in_7 : decode cX7_in 7 = .ok (.if_icmp .gt 7, 3) := by decide +kernel
theorem dX7_in_10 : decode cX7_in 10 = .ok (.iconst 1, 1) := by decide +kernel
theorem dX7_in_11 : decode cX7_in 11 = .ok (.goto 4, 3) := by decide +kernel
theorem dX7_in_14 : decode cX7_in 14 = .ok (.iconst 0, 1) := by decide +kernel
theorem dX7_in_15 : decode cX7_in 15 = .ok (.ireturn, 1) := by decide +kernel
theorem dX7_finds_0 : decode cX7_finds 0 = .ok (.aload_n 0, 1) := by decide +kernel
theorem dX7_finds_1 : decode cX7_finds 1 = .ok (.getfield 17, 3) := by decide +kernel
theorem dX7_finds_4 : decode cX7_finds 4 = .ok (.ldc 63, 2) := by decide +kernel
theorem dX7_finds_6 : decode cX7_finds 6 = .ok (.iload_n 1, 1) := by decide +kernel
theorem dX7_finds_7 : decode cX7_finds 7 = .ok (.isub, 1) := by decide +kernel
theorem dX7_finds_8 : decode cX7_finds 8 = .ok (.dup2, 1) := by decide +kernel
theorem dX7_finds_9 : decode cX7_finds 9 = .ok (.iaload, 1) := by decide +kernel
theorem dX7_finds_10 : decode cX7_finds 10 = .ok (.iconst 1, 1) := by decide +kernel
theorem dX7_finds_11 : decode cX7_finds 11 = .ok (.iadd, 1) := by decide +kernel
theorem dX7_finds_12 : decode cX7_finds 12 = .ok (.iastore, 1) := by decide +kernel
theorem dX7_finds_13 : decode cX7_finds 13 = .ok (.iload_n 1, 1) := by decide +kernel
theorem dX7_finds_14 : decode cX7_finds 14 = .ok (.ireturn, 1) := by decide +kernel
theorem dX7_its_0 : decode cX7_its 0 = .ok (.aload_n 0, 1) := by decide +kernel
theorem dX7_its_1 : decode cX7_its 1 = .ok (.getfield 7, 3) := by decide +kernel
theorem dX7_its_4 : decode cX7_its 4 = .ok (.iconst 2, 1) := by decide +kernel
theorem dX7_its_5 : decode cX7_its 5 = .ok (.iconst 4, 1) := by decide +kernel
theorem dX7_its_6 : decode cX7_its 6 = .ok (.iload_n 1, 1) := by decide +kernel
theorem dX7_its_7 : decode cX7_its 7 = .ok (.imul, 1) := by decide +kernel
theorem dX7_its_8 : decode cX7_its 8 = .ok (.iadd, 1) := by decide +kernel
theorem dX7_its_9 : decode cX7_its 9 = .ok (.iload_n 2, 1) := by decide +kernel
theorem dX7_its_10 : decode cX7_its 10 = .ok (.iadd, 1) := by decide +kernel
theorem dX7_its_11 : decode cX7_its 11 = .ok (.iaload, 1) := by decide +kernel
theorem dX7_its_12 : decode cX7_its 12 = .ok (.ireturn, 1) := by decide +kernel
theorem dX7_sets_0 : decode cX7_sets 0 = .ok (.aload_n 0, 1) := by decide +kernel
theorem dX7_sets_1 : decode cX7_sets 1 = .ok (.getfield 7, 3) := by decide +kernel
theorem dX7_sets_4 : decode cX7_sets 4 = .ok (.iconst 2, 1) := by decide +kernel
theorem dX7_sets_5 : decode cX7_sets 5 = .ok (.iconst 4, 1) := by decide +kernel
theorem dX7_sets_6 : decode cX7_sets 6 = .ok (.iload_n 1, 1) := by decide +kernel
theorem dX7_sets_7 : decode cX7_sets 7 = .ok (.imul, 1) := by decide +kernel
theorem dX7_sets_8 : decode cX7_sets 8 = .ok (.iadd, 1) := by decide +kernel
theorem dX7_sets_9 : decode cX7_sets 9 = .ok (.iload_n 2, 1) := by decide +kernel
theorem dX7_sets_10 : decode cX7_sets 10 = .ok (.iadd, 1) := by decide +kernel
theorem dX7_sets_11 : decode cX7_sets 11 = .ok (.iload_n 3, 1) := by decide +kernel
theorem dX7_sets_12 : decode cX7_sets 12 = .ok (.iastore, 1) := by decide +kernel
theorem dX7_sets_13 : decode cX7_sets 13 = .ok (.return_, 1) := by decide +kernel
theorem dX7_isPrint_0 : decode cX7_isPrint 0 = .ok (.iload_n 1, 1) := by decide +kernel
theorem dX7_isPrint_1 : decode cX7_isPrint 1 = .ok (.iconst 0, 1) := by decide +kernel
theorem dX7_isPrint_2 : decode cX7_isPrint 2 = .ok (.aload_n 0, 1) := by decide +kernel
theorem dX7_isPrint_3 : decode cX7_isPrint 3 = .ok (.getfield 7, 3) := by decide +kernel
theorem dX7_isPrint_6 : decode cX7_isPrint 6 = .ok (.iconst 0, 1) := by decide +kernel
theorem dX7_isPrint_7 : decode cX7_isPrint 7 = .ok (.iaload, 1) := by decide +kernel
theorem dX7_isPrint_8 : decode cX7_isPrint 8 = .ok (.iconst 1, 1) := by decide +kernel
theorem dX7_isPrint_9 : decode cX7_isPrint 9 = .ok (.isub, 1) := by decide +kernel
theorem dX7_isPrint_10 : decode cX7_isPrint 10 = .ok (.invokestatic 64, 3) := by decide +kernel
theorem dX7_isPrint_13 : decode cX7_isPrint 13 = .ok (.ireturn, 1) := by decide +kernel
theorem dX7_isKind_0 : decode cX7_isKind 0 = .ok (.iload_n 0, 1) := by decide +kernel
theorem dX7_isKind_1 : decode cX7_isKind 1 = .ok (.iconst 0, 1) := by decide +kernel
theorem dX7_isKind_2 : decode cX7_isKind 2 = .ok (.iconst 5, 1) := by decide +kernel
theorem dX7_isKind_3 : decode cX7_isKind 3 = .ok (.invokestatic 64, 3) := by decide +kernel
theorem dX7_isKind_6 : decode cX7_isKind 6 = .ok (.ireturn, 1) := by decide +kernel
theorem dX7_isSet_0 : decode cX7_isSet 0 = .ok (.iload_n 1, 1) := by decide +kernel
theorem dX7_isSet_1 : decode cX7_isSet 1 = .ok (.iconst 0, 1) := by decide +kernel
theorem dX7_isSet_2 : decode cX7_isSet 2 = .ok (.iconst 1, 1) := by decide +kernel
theorem dX7_isSet_3 : decode cX7_isSet 3 = .ok (.aload_n 0, 1) := by decide +kernel
theorem dX7_isSet_4 : decode cX7_isSet 4 = .ok (.getfield 7, 3) := by decide +kernel
theorem dX7_isSet_7 : decode cX7_isSet 7 = .ok (.iconst 0, 1) := by decide +kernel
theorem dX7_isSet_8 : decode cX7_isSet 8 = .ok (.iaload, 1) := by decide +kernel
theorem dX7_isSet_9 : decode cX7_isSet 9 = .ok (.ishl, 1) := by decide +kernel
theorem dX7_isSet_10 : decode cX7_isSet 10 = .ok (.iconst 1, 1) := by decide +kernel
theorem dX7_isSet_11 : decode cX7_isSet 11 = .ok (.isub, 1) := by decide +kernel
theorem dX7_isSet_12 : decode cX7_isSet 12 = .ok (.invokestatic 64, 3) := by decide +kernel
theorem dX7_isSet_15 : decode cX7_isSet 15 = .ok (.ireturn, 1) := by decide +kernel
theorem dX7_has_0 : decode cX7_has 0 = .ok (.iload_n 0, 1) := by decide +kernel
theorem dX7_has_1 : decode cX7_has 1 = .ok (.iload_n 1, 1) := by decide +kernel
theorem dX7_has_2 : decode cX7_has 2 = .ok (.ishr, 1) := by decide +kernel
theorem dX7_has_3 : decode cX7_has 3 = .ok (.iconst 1, 1) := by decide +kernel
theorem dX7_has_4 : decode cX7_has 4 = .ok (.iand, 1) := by decide +kernel
theorem dX7_has_5 : decode cX7_has 5 = .ok (.iconst 1, 1) := by decide +kernel
theorem dX7_has_6 : decode cX7_has 6 = .ok (.if_icmp .ne 7, 3) := by decide +kernel
theorem dX7_has_9 : decode cX7_has 9 = .ok (.iconst 1, 1) := by decide +kernel
theorem dX7_has_10 : decode cX7_has 10 = .ok (.goto 4, 3) := by decide +kernel
theorem dX7_has_13 : decode cX7_has 13 = .ok (.iconst 0, 1) := by decide +kernel
theorem dX7_has_14 : decode cX7_has 14 = .ok (.ireturn, 1) := by decide +kernel
theorem dX7_ones_0 : decode cX7_ones 0 = .ok (.iconst 0, 1) := by decide +kernel
theorem dX7_ones_1 : decode cX7_ones 1 = .ok (.istore_n 1, 1) := by decide +kernel
theorem dX7_ones_2 : decode cX7_ones 2 = .ok (.iload_n 0, 1) := by decide +kernel
theorem dX7_ones_3 : decode cX7_ones 3 = .ok (.istore_n 2, 1) := by decide +kernel
theorem dX7_ones_4 : decode cX7_ones 4 = .ok (.iload_n 2, 1) := by decide +kernel
theorem dX7_ones_5 : decode cX7_ones 5 = .ok (.ifCond .eq 15, 3) := by decide +kernel
theorem dX7_ones_8 : decode cX7_ones 8 = .ok (.iinc 1 1, 3) := by decide +kernel
theorem dX7_ones_11 : decode cX7_ones 11 = .ok (.iload_n 2, 1) := by decide +kernel
theorem dX7_ones_12 : decode cX7_ones 12 = .ok (.iload_n 2, 1) := by decide +kernel
theorem dX7_ones_13 : decode cX7_ones 13 = .ok (.iconst 1, 1) := by decide +kernel
theorem dX7_ones_14 : decode cX7_ones 14 = .ok (.isub, 1) := by decide +kernel
theorem dX7_ones_15 : decode cX7_ones 15 = .ok (.iand, 1) := by decide +kernel
theorem dX7_ones_16 : decode cX7_ones 16 = .ok (.istore_n 2, 1) := by decide +kernel
theorem dX7_ones_17 : decode cX7_ones 17 = .ok (.goto (-13), 3) := by decide +kernel
theorem dX7_ones_20 : decode cX7_ones 20 = .ok (.iload_n 1, 1) := by decide +kernel
theorem dX7_ones_21 : decode cX7_ones 21 = .ok (.ireturn, 1) := by decide +kernel
theorem dX7_many_0 : decode cX7_many 0 = .ok (.iconst 0, 1) := by decide +kernel
theorem dX7_many_1 : decode cX7_many 1 = .ok (.istore_n 2, 1) := by decide +kernel
theorem dX7_many_2 : decode cX7_many 2 = .ok (.lload_n 0, 1) := by decide +kernel
theorem dX7_many_3 : decode cX7_many 3 = .ok (.lstore_n 3, 1) := by decide +kernel
theorem dX7_many_4 : decode cX7_many 4 = .ok (.lload_n 3, 1) := by decide +kernel
theorem dX7_many_5 : decode cX7_many 5 = .ok (.lconst 0, 1) := by decide +kernel
theorem dX7_many_6 : decode cX7_many 6 = .ok (.lcmp, 1) := by decide +kernel
theorem dX7_many_7 : decode cX7_many 7 = .ok (.ifCond .eq 15, 3) := by decide +kernel
theorem dX7_many_10 : decode cX7_many 10 = .ok (.iinc 2 1, 3) := by decide +kernel
theorem dX7_many_13 : decode cX7_many 13 = .ok (.lload_n 3, 1) := by decide +kernel
theorem dX7_many_14 : decode cX7_many 14 = .ok (.lload_n 3, 1) := by decide +kernel
theorem dX7_many_15 : decode cX7_many 15 = .ok (.lconst 1, 1) := by decide +kernel
theorem dX7_many_16 : decode cX7_many 16 = .ok (.lsub, 1) := by decide +kernel
theorem dX7_many_17 : decode cX7_many 17 = .ok (.land, 1) := by decide +kernel
theorem dX7_many_18 : decode cX7_many 18 = .ok (.lstore_n 3, 1) := by decide +kernel
theorem dX7_many_19 : decode cX7_many 19 = .ok (.goto (-15), 3) := by decide +kernel
theorem dX7_many_22 : decode cX7_many 22 = .ok (.iload_n 2, 1) := by decide +kernel
theorem dX7_many_23 : decode cX7_many 23 = .ok (.ireturn, 1) := by decide +kernel
theorem dX7_trueWidth_0 : decode cX7_trueWidth 0 = .ok (.aload_n 0, 1) := by decide +kernel
theorem dX7_trueWidth_1 : decode cX7_trueWidth 1 = .ok (.iload_n 1, 1) := by decide +kernel
theorem dX7_trueWidth_2 : decode cX7_trueWidth 2 = .ok (.iconst 1, 1) := by decide +kernel
theorem dX7_trueWidth_3 : decode cX7_trueWidth 3 = .ok (.invokevirtual 68, 3) := by decide +kernel
theorem dX7_trueWidth_6 : decode cX7_trueWidth 6 = .ok (.istore_n 2, 1) := by decide +kernel
theorem dX7_trueWidth_7 : decode cX7_trueWidth 7 = .ok (.aload_n 0, 1) := by decide +kernel
theorem dX7_trueWidth_8 : decode cX7_trueWidth 8 = .ok (.iload_n 1, 1) := by decide +kernel
theorem dX7_trueWidth_9 : decode cX7_trueWidth 9 = .ok (.iconst 0, 1) := by decide +kernel
theorem dX7_trueWidth_10 : decode cX7_trueWidth 10 = .ok (.invokevirtual 68, 3) := by decide +kernel
theorem dX7_trueWidth_13 : decode cX7_trueWidth 13 = .ok (.tableswitch 76 1 5 #[35, 43, 51, 76, 62], 35) := by decide +kernel
theorem dX7_trueWidth_48 : decode cX7_trueWidth 48 = .ok (.bipush 100, 2) := by decide +kernel
theorem dX7_trueWidth_50 : decode cX7_trueWidth 50 = .ok (.iload_n 2, 1) := by decide +kernel
theorem dX7_trueWidth_51 : decode cX7_trueWidth 51 = .ok (.imul, 1) := by decide +kernel
theorem dX7_trueWidth_52 : decode cX7_trueWidth 52 = .ok (.bipush 90, 2) := by decide +kernel
theorem dX7_trueWidth_54 : decode cX7_trueWidth 54 = .ok (.idiv, 1) := by decide +kernel
theorem dX7_trueWidth_55 : decode cX7_trueWidth 55 = .ok (.ireturn, 1) := by decide +kernel
theorem dX7_trueWidth_56 : decode cX7_trueWidth 56 = .ok (.bipush 100, 2) := by decide +kernel
theorem dX7_trueWidth_58 : decode cX7_trueWidth 58 = .ok (.iload_n 2, 1) := by decide +kernel
theorem dX7_trueWidth_59 : decode cX7_trueWidth 59 = .ok (.imul, 1) := by decide +kernel
theorem dX7_trueWidth_60 : decode cX7_trueWidth 60 = .ok (.bipush 97, 2) := by decide +kernel
theorem dX7_trueWidth_62 : decode cX7_trueWidth 62 = .ok (.idiv, 1) := by decide +kernel
theorem dX7_trueWidth_63 : decode cX7_trueWidth 63 = .ok (.ireturn, 1) := by decide +kernel
theorem dX7_trueWidth_64 : decode cX7_trueWidth 64 = .ok (.bipush 100, 2) := by decide +kernel
theorem dX7_trueWidth_66 : decode cX7_trueWidth 66 = .ok (.iload_n 2, 1) := by decide +kernel
theorem dX7_trueWidth_67 : decode cX7_trueWidth 67 = .ok (.imul, 1) := by decide +kernel
theorem dX7_trueWidth_68 : decode cX7_trueWidth 68 = .ok (.bipush 97, 2) := by decide +kernel
theorem dX7_trueWidth_70 : decode cX7_trueWidth 70 = .ok (.idiv, 1) := by decide +kernel
theorem dX7_trueWidth_71 : decode cX7_trueWidth 71 = .ok (.bipush 10, 2) := by decide +kernel
theorem dX7_trueWidth_73 : decode cX7_trueWidth 73 = .ok (.iadd, 1) := by decide +kernel
theorem dX7_trueWidth_74 : decode cX7_trueWidth 74 = .ok (.ireturn, 1) := by decide +kernel
theorem dX7_trueWidth_75 : decode cX7_trueWidth 75 = .ok (.bipush 100, 2) := by decide +kernel
theorem dX7_trueWidth_77 : decode cX7_trueWidth 77 = .ok (.bipush 100, 2) := by decide +kernel
theorem dX7_trueWidth_79 : decode cX7_trueWidth 79 = .ok (.iload_n 2, 1) := by decide +kernel
theorem dX7_trueWidth_80 : decode cX7_trueWidth 80 = .ok (.imul, 1) := by decide +kernel
theorem dX7_trueWidth_81 : decode cX7_trueWidth 81 = .ok (.bipush 90, 2) := by decide +kernel
theorem dX7_trueWidth_83 : decode cX7_trueWidth 83 = .ok (.idiv, 1) := by decide +kernel
theorem dX7_trueWidth_84 : decode cX7_trueWidth 84 = .ok (.imul, 1) := by decide +kernel
theorem dX7_trueWidth_85 : decode cX7_trueWidth 85 = .ok (.bipush 80, 2) := by decide +kernel
theorem dX7_trueWidth_87 : decode cX7_trueWidth 87 = .ok (.idiv, 1) := by decide +kernel
theorem dX7_trueWidth_88 : decode cX7_trueWidth 88 = .ok (.ireturn, 1) := by decide +kernel
theorem dX7_trueWidth_89 : decode cX7_trueWidth 89 = .ok (.iload_n 2, 1) := by decide +kernel
theorem dX7_trueWidth_90 : decode cX7_trueWidth 90 = .ok (.ireturn, 1) := by decide +kernel
theorem dX7_hides_0 : decode cX7_hides 0 = .ok (.aload_n 0, 1) := by decide +kernel
theorem dX7_hides_1 : decode cX7_hides 1 = .ok (.iload_n 1, 1) := by decide +kernel
theorem dX7_hides_2 : decode cX7_hides 2 = .ok (.iconst 3, 1) := by decide +kernel
theorem dX7_hides_3 : decode cX7_hides 3 = .ok (.invokevirtual 68, 3) := by decide +kernel
theorem dX7_hides_6 : decode cX7_hides 6 = .ok (.iconst 1, 1) := by decide +kernel
theorem dX7_hides_7 : decode cX7_hides 7 = .ok (.if_icmp .ne 7, 3) := by decide +kernel
theorem dX7_hides_10 : decode cX7_hides 10 = .ok (.lconst 0, 1) := by decide +kernel
theorem dX7_hides_11 : decode cX7_hides 11 = .ok (.goto 6, 3) := by decide +kernel
theorem dX7_hides_14 : decode cX7_hides 14 = .ok (.ldc2_w 72, 3) := by decide +kernel
theorem dX7_hides_17 : decode cX7_hides 17 = .ok (.lstore_n 2, 1) := by decide +kernel
theorem dX7_hides_18 : decode cX7_hides 18 = .ok (.aload_n 0, 1) := by decide +kernel
theorem dX7_hides_19 : decode cX7_hides 19 = .ok (.iload_n 1, 1) := by decide +kernel
theorem dX7_hides_20 : decode cX7_hides 20 = .ok (.iconst 0, 1) := by decide +kernel
theorem dX7_hides_21 : decode cX7_hides 21 = .ok (.invokevirtual 68, 3) := by decide +kernel
theorem dX7_hides_24 : decode cX7_hides 24 = .ok (.istore 4, 2) := by decide +kernel
theorem dX7_hides_26 : decode cX7_hides 26 = .ok (.lload_n 2, 1) := by decide +kernel
theorem dX7_hides_27 : decode cX7_hides 27 = .ok (.iload 4, 2) := by decide +kernel
theorem dX7_hides_29 : decode cX7_hides 29 = .ok (.iconst 1, 1) := by decide +kernel
theorem dX7_hides_30 : decode cX7_hides 30 = .ok (.if_icmp .eq 9, 3) := by decide +kernel
theorem dX7_hides_33 : decode cX7_hides 33 = .ok (.iload 4, 2) := by decide +kernel
theorem dX7_hides_35 : decode cX7_hides 35 = .ok (.iconst 5, 1) := by decide +kernel
theorem dX7_hides_36 : decode cX7_hides 36 = .ok (.if_icmp .ne 9, 3) := by decide +kernel
theorem dX7_hides_39 : decode cX7_hides 39 = .ok (.ldc2_w 74, 3) := by decide +kernel
theorem dX7_hides_42 : decode cX7_hides 42 = .ok (.goto 4, 3) := by decide +kernel
theorem dX7_hides_45 : decode cX7_hides 45 = .ok (.lconst 0, 1) := by decide +kernel
theorem dX7_hides_46 : decode cX7_hides 46 = .ok (.lor, 1) := by decide +kernel
theorem dX7_hides_47 : decode cX7_hides 47 = .ok (.iload 4, 2) := by decide +kernel
theorem dX7_hides_49 : decode cX7_hides 49 = .ok (.iconst 5, 1) := by decide +kernel
theorem dX7_hides_50 : decode cX7_hides 50 = .ok (.if_icmp .ne 9, 3) := by decide +kernel
theorem dX7_hides_53 : decode cX7_hides 53 = .ok (.ldc2_w 76, 3) := by decide +kernel
theorem dX7_hides_56 : decode cX7_hides 56 = .ok (.goto 4, 3) := by decide +kernel
theorem dX7_hides_59 : decode cX7_hides 59 = .ok (.lconst 0, 1) := by decide +kernel
theorem dX7_hides_60 : decode cX7_hides 60 = .ok (.lor, 1) := by decide +kernel
theorem dX7_hides_61 : decode cX7_hides 61 = .ok (.lreturn, 1) := by decide +kernel
theorem dX7_shows_0 : decode cX7_shows 0 = .ok (.aload_n 0, 1) := by decide +kernel
theorem dX7_shows_1 : decode cX7_shows 1 = .ok (.getfield 13, 3) := by decide +kernel
theorem dX7_shows_4 : decode cX7_shows 4 = .ok (.iload_n 1, 1) := by decide +kernel
theorem dX7_shows_5 : decode cX7_shows 5 = .ok (.laload, 1) := by decide +kernel
theorem dX7_shows_6 : decode cX7_shows 6 = .ok (.aload_n 0, 1) := by decide +kernel
theorem dX7_shows_7 : decode cX7_shows 7 = .ok (.iload_n 1, 1) := by decide +kernel
theorem dX7_shows_8 : decode cX7_shows 8 = .ok (.invokevirtual 78, 3) := by decide +kernel
theorem dX7_shows_11 : decode cX7_shows 11 = .ok (.ldc2_w 82, 3) := by decide +kernel
theorem dX7_shows_14 : decode cX7_shows 14 = .ok (.lxor, 1) := by decide +kernel
theorem dX7_shows_15 : decode cX7_shows 15 = .ok (.land, 1) := by decide +kernel
theorem dX7_shows_16 : decode cX7_shows 16 = .ok (.lreturn, 1) := by decide +kernel
theorem dX7_addPrint_0 : decode cX7_addPrint 0 = .ok (.aload_n 0, 1) := by decide +kernel
theorem dX7_addPrint_1 : decode cX7_addPrint 1 = .ok (.getfield 7, 3) := by decide +kernel
theorem dX7_addPrint_4 : decode cX7_addPrint 4 = .ok (.iconst 0, 1) := by decide +kernel
theorem dX7_addPrint_5 : decode cX7_addPrint 5 = .ok (.iaload, 1) := by decide +kernel
theorem dX7_addPrint_6 : decode cX7_addPrint 6 = .ok (.istore 7, 2) := by decide +kernel
theorem dX7_addPrint_8 : decode cX7_addPrint 8 = .ok (.aload_n 0, 1) := by decide +kernel
theorem dX7_addPrint_9 : decode cX7_addPrint 9 = .ok (.getfield 13, 3) := by decide +kernel
theorem dX7_addPrint_12 : decode cX7_addPrint 12 = .ok (.iload 7, 2) := by decide +kernel
theorem dX7_addPrint_14 : decode cX7_addPrint 14 = .ok (.lload_n 2, 1) := by decide +kernel
theorem dX7_addPrint_15 : decode cX7_addPrint 15 = .ok (.ldc2_w 84, 3) := by decide +kernel
theorem dX7_addPrint_18 : decode cX7_addPrint 18 = .ok (.land, 1) := by decide +kernel
theorem dX7_addPrint_19 : decode cX7_addPrint 19 = .ok (.lastore, 1) := by decide +kernel
theorem dX7_addPrint_20 : decode cX7_addPrint 20 = .ok (.aload_n 0, 1) := by decide +kernel
theorem dX7_addPrint_21 : decode cX7_addPrint 21 = .ok (.iload 7, 2) := by decide +kernel
theorem dX7_addPrint_23 : decode cX7_addPrint 23 = .ok (.iconst 0, 1) := by decide +kernel
theorem dX7_addPrint_24 : decode cX7_addPrint 24 = .ok (.iload_n 1, 1) := by decide +kernel
theorem dX7_addPrint_25 : decode cX7_addPrint 25 = .ok (.invokevirtual 86, 3) := by decide +kernel
theorem dX7_addPrint_28 : decode cX7_addPrint 28 = .ok (.aload_n 0, 1) := by decide +kernel
theorem dX7_addPrint_29 : decode cX7_addPrint 29 = .ok (.iload 7, 2) := by decide +kernel
theorem dX7_addPrint_31 : decode cX7_addPrint 31 = .ok (.iconst 1, 1) := by decide +kernel
theorem dX7_addPrint_32 : decode cX7_addPrint 32 = .ok (.iload 4, 2) := by decide +kernel
theorem dX7_addPrint_34 : decode cX7_addPrint 34 = .ok (.invokevirtual 86, 3) := by decide +kernel
theorem dX7_addPrint_37 : decode cX7_addPrint 37 = .ok (.aload_n 0, 1) := by decide +kernel
theorem dX7_addPrint_38 : decode cX7_addPrint 38 = .ok (.iload 7, 2) := by decide +kernel
theorem dX7_addPrint_40 : decode cX7_addPrint 40 = .ok (.iconst 2, 1) := by decide +kernel
theorem dX7_addPrint_41 : decode cX7_addPrint 41 = .ok (.iload 5, 2) := by decide +kernel
theorem dX7_addPrint_43 : decode cX7_addPrint 43 = .ok (.invokevirtual 86, 3) := by decide +kernel
theorem dX7_addPrint_46 : decode cX7_addPrint 46 = .ok (.aload_n 0, 1) := by decide +kernel
theorem dX7_addPrint_47 : decode cX7_addPrint 47 = .ok (.iload 7, 2) := by decide +kernel
theorem dX7_addPrint_49 : decode cX7_addPrint 49 = .ok (.iconst 3, 1) := by decide +kernel
theorem dX7_addPrint_50 : decode cX7_addPrint 50 = .ok (.iload 6, 2) := by decide +kernel
theorem dX7_addPrint_52 : decode cX7_addPrint 52 = .ok (.invokevirtual 86, 3) := by decide +kernel
theorem dX7_addPrint_55 : decode cX7_addPrint 55 = .ok (.aload_n 0, 1) := by decide +kernel
theorem dX7_addPrint_56 : decode cX7_addPrint 56 = .ok (.getfield 7, 3) := by decide +kernel
theorem dX7_addPrint_59 : decode cX7_addPrint 59 = .ok (.iconst 0, 1) := by decide +kernel
theorem dX7_addPrint_60 : decode cX7_addPrint 60 = .ok (.dup2, 1) := by decide +kernel
theorem dX7_addPrint_61 : decode cX7_addPrint 61 = .ok (.iaload, 1) := by decide +kernel
theorem dX7_addPrint_62 : decode cX7_addPrint 62 = .ok (.iconst 1, 1) := by decide +kernel
theorem dX7_addPrint_63 : decode cX7_addPrint 63 = .ok (.iadd, 1) := by decide +kernel
theorem dX7_addPrint_64 : decode cX7_addPrint 64 = .ok (.iastore, 1) := by decide +kernel
theorem dX7_addPrint_65 : decode cX7_addPrint 65 = .ok (.return_, 1) := by decide +kernel
theorem dX7_print_0 : decode cX7_print 0 = .ok (.iload_n 1, 1) := by decide +kernel
theorem dX7_print_1 : decode cX7_print 1 = .ok (.invokestatic 90, 3) := by decide +kernel
theorem dX7_print_4 : decode cX7_print 4 = .ok (.ifCond .ne 10, 3) := by decide +kernel
theorem dX7_print_7 : decode cX7_print 7 = .ok (.aload_n 0, 1) := by decide +kernel
theorem dX7_print_8 : decode cX7_print 8 = .ok (.ldc 63, 2) := by decide +kernel
theorem dX7_print_10 : decode cX7_print 10 = .ok (.invokevirtual 94, 3) := by decide +kernel
theorem dX7_print_13 : decode cX7_print 13 = .ok (.ireturn, 1) := by decide +kernel
theorem dX7_print_14 : decode cX7_print 14 = .ok (.aload_n 0, 1) := by decide +kernel
theorem dX7_print_15 : decode cX7_print 15 = .ok (.getfield 7, 3) := by decide +kernel
theorem dX7_print_18 : decode cX7_print 18 = .ok (.iconst 0, 1) := by decide +kernel
theorem dX7_print_19 : decode cX7_print 19 = .ok (.iaload, 1) := by decide +kernel
theorem dX7_print_20 : decode cX7_print 20 = .ok (.bipush 12, 2) := by decide +kernel
theorem dX7_print_22 : decode cX7_print 22 = .ok (.if_icmp .ne 10, 3) := by decide +kernel
theorem dX7_print_25 : decode cX7_print 25 = .ok (.aload_n 0, 1) := by decide +kernel
theorem dX7_print_26 : decode cX7_print 26 = .ok (.ldc 98, 2) := by decide +kernel
theorem dX7_print_28 : decode cX7_print 28 = .ok (.invokevirtual 94, 3) := by decide +kernel
theorem dX7_print_31 : decode cX7_print 31 = .ok (.ireturn, 1) := by decide +kernel
theorem dX7_print_32 : decode cX7_print 32 = .ok (.aload_n 0, 1) := by decide +kernel
theorem dX7_print_33 : decode cX7_print 33 = .ok (.iload_n 1, 1) := by decide +kernel
theorem dX7_print_34 : decode cX7_print 34 = .ok (.lload_n 2, 1) := by decide +kernel
theorem dX7_print_35 : decode cX7_print 35 = .ok (.sipush 1000, 3) := by decide +kernel
theorem dX7_print_38 : decode cX7_print 38 = .ok (.iconst 0, 1) := by decide +kernel
theorem dX7_print_39 : decode cX7_print 39 = .ok (.iconst 0, 1) := by decide +kernel
theorem dX7_print_40 : decode cX7_print 40 = .ok (.invokevirtual 99, 3) := by decide +kernel
theorem dX7_print_43 : decode cX7_print 43 = .ok (.aload_n 0, 1) := by decide +kernel
theorem dX7_print_44 : decode cX7_print 44 = .ok (.getfield 7, 3) := by decide +kernel
theorem dX7_print_47 : decode cX7_print 47 = .ok (.iconst 0, 1) := by decide +kernel
theorem dX7_print_48 : decode cX7_print 48 = .ok (.iaload, 1) := by decide +kernel
theorem dX7_print_49 : decode cX7_print 49 = .ok (.iconst 1, 1) := by decide +kernel
theorem dX7_print_50 : decode cX7_print 50 = .ok (.isub, 1) := by decide +kernel
theorem dX7_print_51 : decode cX7_print 51 = .ok (.ireturn, 1) := by decide +kernel
theorem dX7_of_0 : decode cX7_of 0 = .ok (.aload_n 0, 1) := by decide +kernel
theorem dX7_of_1 : decode cX7_of 1 = .ok (.iload_n 1, 1) := by decide +kernel
theorem dX7_of_2 : decode cX7_of 2 = .ok (.invokevirtual 103, 3) := by decide +kernel
theorem dX7_of_5 : decode cX7_of 5 = .ok (.ifCond .eq 12, 3) := by decide +kernel
theorem dX7_of_8 : decode cX7_of 8 = .ok (.iload_n 2, 1) := by decide +kernel
theorem dX7_of_9 : decode cX7_of 9 = .ok (.iconst 0, 1) := by decide +kernel
theorem dX7_of_10 : decode cX7_of 10 = .ok (.iconst 5, 1) := by decide +kernel
theorem dX7_of_11 : decode cX7_of 11 = .ok (.invokestatic 64, 3) := by decide +kernel
theorem dX7_of_14 : decode cX7_of 14 = .ok (.ifCond .ne 10, 3) := by decide +kernel
theorem dX7_of_17 : decode cX7_of 17 = .ok (.aload_n 0, 1) := by decide +kernel
theorem dX7_of_18 : decode cX7_of 18 = .ok (.ldc 63, 2) := by decide +kernel
theorem dX7_of_20 : decode cX7_of 20 = .ok (.invokevirtual 94, 3) := by decide +kernel
theorem dX7_of_23 : decode cX7_of 23 = .ok (.ireturn, 1) := by decide +kernel
theorem dX7_of_24 : decode cX7_of 24 = .ok (.iload_n 2, 1) := by decide +kernel
theorem dX7_of_25 : decode cX7_of 25 = .ok (.iconst 4, 1) := by decide +kernel
theorem dX7_of_26 : decode cX7_of 26 = .ok (.if_icmp .ge 12, 3) := by decide +kernel
theorem dX7_of_29 : decode cX7_of 29 = .ok (.aload_n 0, 1) := by decide +kernel
theorem dX7_of_30 : decode cX7_of 30 = .ok (.iload_n 1, 1) := by decide +kernel
theorem dX7_of_31 : decode cX7_of 31 = .ok (.iload_n 2, 1) := by decide +kernel
theorem dX7_of_32 : decode cX7_of 32 = .ok (.invokevirtual 68, 3) := by decide +kernel
theorem dX7_of_35 : decode cX7_of 35 = .ok (.goto 24, 3) := by decide +kernel
theorem dX7_of_38 : decode cX7_of 38 = .ok (.iload_n 2, 1) := by decide +kernel
theorem dX7_of_39 : decode cX7_of 39 = .ok (.iconst 4, 1) := by decide +kernel
theorem dX7_of_40 : decode cX7_of 40 = .ok (.if_icmp .ne 11, 3) := by decide +kernel
theorem dX7_of_43 : decode cX7_of 43 = .ok (.aload_n 0, 1) := by decide +kernel
theorem dX7_of_44 : decode cX7_of 44 = .ok (.iload_n 1, 1) := by decide +kernel
theorem dX7_of_45 : decode cX7_of 45 = .ok (.invokevirtual 106, 3) := by decide +kernel
theorem dX7_of_48 : decode cX7_of 48 = .ok (.goto 11, 3) := by decide +kernel
theorem dX7_of_51 : decode cX7_of 51 = .ok (.aload_n 0, 1) := by decide +kernel
theorem dX7_of_52 : decode cX7_of 52 = .ok (.iload_n 1, 1) := by decide +kernel
theorem dX7_of_53 : decode cX7_of 53 = .ok (.invokevirtual 109, 3) := by decide +kernel
theorem dX7_of_56 : decode cX7_of 56 = .ok (.invokestatic 112, 3) := by decide +kernel
theorem dX7_of_59 : decode cX7_of 59 = .ok (.ireturn, 1) := by decide +kernel
theorem dX7_marks_0 : decode cX7_marks 0 = .ok (.aload_n 0, 1) := by decide +kernel
theorem dX7_marks_1 : decode cX7_marks 1 = .ok (.iload_n 1, 1) := by decide +kernel
theorem dX7_marks_2 : decode cX7_marks 2 = .ok (.invokevirtual 103, 3) := by decide +kernel
theorem dX7_marks_5 : decode cX7_marks 5 = .ok (.ifCond .eq 12, 3) := by decide +kernel
theorem dX7_marks_8 : decode cX7_marks 8 = .ok (.iload_n 2, 1) := by decide +kernel
theorem dX7_marks_9 : decode cX7_marks 9 = .ok (.iconst 0, 1) := by decide +kernel
theorem dX7_marks_10 : decode cX7_marks 10 = .ok (.iconst 2, 1) := by decide +kernel
theorem dX7_marks_11 : decode cX7_marks 11 = .ok (.invokestatic 64, 3) := by decide +kernel
theorem dX7_marks_14 : decode cX7_marks 14 = .ok (.ifCond .ne 11, 3) := by decide +kernel
theorem dX7_marks_17 : decode cX7_marks 17 = .ok (.aload_n 0, 1) := by decide +kernel
theorem dX7_marks_18 : decode cX7_marks 18 = .ok (.ldc 63, 2) := by decide +kernel
theorem dX7_marks_20 : decode cX7_marks 20 = .ok (.invokevirtual 94, 3) := by decide +kernel
theorem dX7_marks_23 : decode cX7_marks 23 = .ok (.i2l, 1) := by decide +kernel
theorem dX7_marks_24 : decode cX7_marks 24 = .ok (.lreturn, 1) := by decide +kernel
theorem dX7_marks_25 : decode cX7_marks 25 = .ok (.iload_n 2, 1) := by decide +kernel
theorem dX7_marks_26 : decode cX7_marks 26 = .ok (.ifCond .ne 12, 3) := by decide +kernel
theorem dX7_marks_29 : decode cX7_marks 29 = .ok (.aload_n 0, 1) := by decide +kernel
theorem dX7_marks_30 : decode cX7_marks 30 = .ok (.getfield 13, 3) := by decide +kernel
theorem dX7_marks_33 : decode cX7_marks 33 = .ok (.iload_n 1, 1) := by decide +kernel
theorem dX7_marks_34 : decode cX7_marks 34 = .ok (.laload, 1) := by decide +kernel
theorem dX7_marks_35 : decode cX7_marks 35 = .ok (.goto 21, 3) := by decide +kernel
theorem dX7_marks_38 : decode cX7_marks 38 = .ok (.iload_n 2, 1) := by decide +kernel
theorem dX7_marks_39 : decode cX7_marks 39 = .ok (.iconst 1, 1) := by decide +kernel
theorem dX7_marks_40 : decode cX7_marks 40 = .ok (.if_icmp .ne 11, 3) := by decide +kernel
theorem dX7_marks_43 : decode cX7_marks 43 = .ok (.aload_n 0, 1) := by decide +kernel
theorem dX7_marks_44 : decode cX7_marks 44 = .ok (.iload_n 1, 1) := by decide +kernel
theorem dX7_marks_45 : decode cX7_marks 45 = .ok (.invokevirtual 109, 3) := by decide +kernel
theorem dX7_marks_48 : decode cX7_marks 48 = .ok (.goto 8, 3) := by decide +kernel
theorem dX7_marks_51 : decode cX7_marks 51 = .ok (.aload_n 0, 1) := by decide +kernel
theorem dX7_marks_52 : decode cX7_marks 52 = .ok (.iload_n 1, 1) := by decide +kernel
theorem dX7_marks_53 : decode cX7_marks 53 = .ok (.invokevirtual 78, 3) := by decide +kernel
theorem dX7_marks_56 : decode cX7_marks 56 = .ok (.lreturn, 1) := by decide +kernel
theorem dX7_isTold_0 : decode cX7_isTold 0 = .ok (.iload_n 0, 1) := by decide +kernel
theorem dX7_isTold_1 : decode cX7_isTold 1 = .ok (.iconst 1, 1) := by decide +kernel
theorem dX7_isTold_2 : decode cX7_isTold 2 = .ok (.if_icmp .ne 14, 3) := by decide +kernel
theorem dX7_isTold_5 : decode cX7_isTold 5 = .ok (.iload_n 1, 1) := by decide +kernel
theorem dX7_isTold_6 : decode cX7_isTold 6 = .ok (.iconst 1, 1) := by decide +kernel
theorem dX7_isTold_7 : decode cX7_isTold 7 = .ok (.sipush 9999, 3) := by decide +kernel
theorem dX7_isTold_10 : decode cX7_isTold 10 = .ok (.invokestatic 64, 3) := by decide +kernel
theorem dX7_isTold_13 : decode cX7_isTold 13 = .ok (.goto 24, 3) := by decide +kernel
theorem dX7_isTold_16 : decode cX7_isTold 16 = .ok (.iload_n 0, 1) := by decide +kernel
theorem dX7_isTold_17 : decode cX7_isTold 17 = .ok (.iconst 2, 1) := by decide +kernel
theorem dX7_isTold_18 : decode cX7_isTold 18 = .ok (.if_icmp .ne 18, 3) := by decide +kernel
theorem dX7_isTold_21 : decode cX7_isTold 21 = .ok (.iload_n 1, 1) := by decide +kernel
theorem dX7_isTold_22 : decode cX7_isTold 22 = .ok (.iconst 0, 1) := by decide +kernel
theorem dX7_isTold_23 : decode cX7_isTold 23 = .ok (.sipush 2000, 3) := by decide +kernel
theorem dX7_isTold_26 : decode cX7_isTold 26 = .ok (.invokestatic 64, 3) := by decide +kernel
theorem dX7_isTold_29 : decode cX7_isTold 29 = .ok (.ifCond .eq 7, 3) := by decide +kernel
theorem dX7_isTold_32 : decode cX7_isTold 32 = .ok (.iconst 1, 1) := by decide +kernel
theorem dX7_isTold_33 : decode cX7_isTold 33 = .ok (.goto 4, 3) := by decide +kernel
theorem dX7_isTold_36 : decode cX7_isTold 36 = .ok (.iconst 0, 1) := by decide +kernel
theorem dX7_isTold_37 : decode cX7_isTold 37 = .ok (.ireturn, 1) := by decide +kernel
theorem dX7_set_0 : decode cX7_set 0 = .ok (.aload_n 0, 1) := by decide +kernel
theorem dX7_set_1 : decode cX7_set 1 = .ok (.iload_n 1, 1) := by decide +kernel
theorem dX7_set_2 : decode cX7_set 2 = .ok (.invokevirtual 103, 3) := by decide +kernel
theorem dX7_set_5 : decode cX7_set 5 = .ok (.ifCond .eq 11, 3) := by decide +kernel
theorem dX7_set_8 : decode cX7_set 8 = .ok (.iload_n 2, 1) := by decide +kernel
theorem dX7_set_9 : decode cX7_set 9 = .ok (.iload_n 3, 1) := by decide +kernel
theorem dX7_set_10 : decode cX7_set 10 = .ok (.invokestatic 116, 3) := by decide +kernel
theorem dX7_set_13 : decode cX7_set 13 = .ok (.ifCond .ne 10, 3) := by decide +kernel
theorem dX7_set_16 : decode cX7_set 16 = .ok (.aload_n 0, 1) := by decide +kernel
theorem dX7_set_17 : decode cX7_set 17 = .ok (.ldc 63, 2) := by decide +kernel
theorem dX7_set_19 : decode cX7_set 19 = .ok (.invokevirtual 94, 3) := by decide +kernel
theorem dX7_set_22 : decode cX7_set 22 = .ok (.ireturn, 1) := by decide +kernel
theorem dX7_set_23 : decode cX7_set 23 = .ok (.aload_n 0, 1) := by decide +kernel
theorem dX7_set_24 : decode cX7_set 24 = .ok (.iload_n 1, 1) := by decide +kernel
theorem dX7_set_25 : decode cX7_set 25 = .ok (.iload_n 2, 1) := by decide +kernel
theorem dX7_set_26 : decode cX7_set 26 = .ok (.invokevirtual 68, 3) := by decide +kernel
theorem dX7_set_29 : decode cX7_set 29 = .ok (.istore 4, 2) := by decide +kernel
theorem dX7_set_31 : decode cX7_set 31 = .ok (.aload_n 0, 1) := by decide +kernel
theorem dX7_set_32 : decode cX7_set 32 = .ok (.iload_n 1, 1) := by decide +kernel
theorem dX7_set_33 : decode cX7_set 33 = .ok (.iload_n 2, 1) := by decide +kernel
theorem dX7_set_34 : decode cX7_set 34 = .ok (.iload_n 3, 1) := by decide +kernel
theorem dX7_set_35 : decode cX7_set 35 = .ok (.invokevirtual 86, 3) := by decide +kernel
theorem dX7_set_38 : decode cX7_set 38 = .ok (.iload 4, 2) := by decide +kernel
theorem dX7_set_40 : decode cX7_set 40 = .ok (.ireturn, 1) := by decide +kernel
theorem dX7_scratch_0 : decode cX7_scratch 0 = .ok (.aload_n 0, 1) := by decide +kernel
theorem dX7_scratch_1 : decode cX7_scratch 1 = .ok (.iload_n 1, 1) := by decide +kernel
theorem dX7_scratch_2 : decode cX7_scratch 2 = .ok (.invokevirtual 103, 3) := by decide +kernel
theorem dX7_scratch_5 : decode cX7_scratch 5 = .ok (.ifCond .eq 13, 3) := by decide +kernel
theorem dX7_scratch_8 : decode cX7_scratch 8 = .ok (.iload_n 2, 1) := by decide +kernel
theorem dX7_scratch_9 : decode cX7_scratch 9 = .ok (.iconst 0, 1) := by decide +kernel
theorem dX7_scratch_10 : decode cX7_scratch 10 = .ok (.bipush 39, 2) := by decide +kernel
theorem dX7_scratch_12 : decode cX7_scratch 12 = .ok (.invokestatic 64, 3) := by decide +kernel
theorem dX7_scratch_15 : decode cX7_scratch 15 = .ok (.ifCond .ne 10, 3) := by decide +kernel
theorem dX7_scratch_18 : decode cX7_scratch 18 = .ok (.aload_n 0, 1) := by decide +kernel
theorem dX7_scratch_19 : decode cX7_scratch 19 = .ok (.ldc 63, 2) := by decide +kernel
theorem dX7_scratch_21 : decode cX7_scratch 21 = .ok (.invokevirtual 94, 3) := by decide +kernel
theorem dX7_scratch_24 : decode cX7_scratch 24 = .ok (.ireturn, 1) := by decide +kernel
theorem dX7_scratch_25 : decode cX7_scratch 25 = .ok (.aload_n 0, 1) := by decide +kernel
theorem dX7_scratch_26 : decode cX7_scratch 26 = .ok (.getfield 13, 3) := by decide +kernel
theorem dX7_scratch_29 : decode cX7_scratch 29 = .ok (.iload_n 1, 1) := by decide +kernel
theorem dX7_scratch_30 : decode cX7_scratch 30 = .ok (.laload, 1) := by decide +kernel
theorem dX7_scratch_31 : decode cX7_scratch 31 = .ok (.lstore 4, 2) := by decide +kernel
theorem dX7_scratch_33 : decode cX7_scratch 33 = .ok (.aload_n 0, 1) := by decide +kernel
theorem dX7_scratch_34 : decode cX7_scratch 34 = .ok (.getfield 13, 3) := by decide +kernel
theorem dX7_scratch_37 : decode cX7_scratch 37 = .ok (.iload_n 1, 1) := by decide +kernel
theorem dX7_scratch_38 : decode cX7_scratch 38 = .ok (.iload_n 3, 1) := by decide +kernel
theorem dX7_scratch_39 : decode cX7_scratch 39 = .ok (.ifCond .eq 12, 3) := by decide +kernel
theorem dX7_scratch_42 : decode cX7_scratch 42 = .ok (.lload 4, 2) := by decide +kernel
theorem dX7_scratch_44 : decode cX7_scratch 44 = .ok (.lconst 1, 1) := by decide +kernel
theorem dX7_scratch_45 : decode cX7_scratch 45 = .ok (.iload_n 2, 1) := by decide +kernel
theorem dX7_scratch_46 : decode cX7_scratch 46 = .ok (.lshl, 1) := by decide +kernel
theorem dX7_scratch_47 : decode cX7_scratch 47 = .ok (.lor, 1) := by decide +kernel
theorem dX7_scratch_48 : decode cX7_scratch 48 = .ok (.goto 13, 3) := by decide +kernel
theorem dX7_scratch_51 : decode cX7_scratch 51 = .ok (.lload 4, 2) := by decide +kernel
theorem dX7_scratch_53 : decode cX7_scratch 53 = .ok (.lconst 1, 1) := by decide +kernel
theorem dX7_scratch_54 : decode cX7_scratch 54 = .ok (.iload_n 2, 1) := by decide +kernel
theorem dX7_scratch_55 : decode cX7_scratch 55 = .ok (.lshl, 1) := by decide +kernel
theorem dX7_scratch_56 : decode cX7_scratch 56 = .ok (.ldc2_w 82, 3) := by decide +kernel
theorem dX7_scratch_59 : decode cX7_scratch 59 = .ok (.lxor, 1) := by decide +kernel
theorem dX7_scratch_60 : decode cX7_scratch 60 = .ok (.land, 1) := by decide +kernel
theorem dX7_scratch_61 : decode cX7_scratch 61 = .ok (.lastore, 1) := by decide +kernel
theorem dX7_scratch_62 : decode cX7_scratch 62 = .ok (.aload_n 0, 1) := by decide +kernel
theorem dX7_scratch_63 : decode cX7_scratch 63 = .ok (.getfield 13, 3) := by decide +kernel
theorem dX7_scratch_66 : decode cX7_scratch 66 = .ok (.iload_n 1, 1) := by decide +kernel
theorem dX7_scratch_67 : decode cX7_scratch 67 = .ok (.laload, 1) := by decide +kernel
theorem dX7_scratch_68 : decode cX7_scratch 68 = .ok (.lload 4, 2) := by decide +kernel
theorem dX7_scratch_70 : decode cX7_scratch 70 = .ok (.lcmp, 1) := by decide +kernel
theorem dX7_scratch_71 : decode cX7_scratch 71 = .ok (.ifCond .ne 7, 3) := by decide +kernel
theorem dX7_scratch_74 : decode cX7_scratch 74 = .ok (.iconst 0, 1) := by decide +kernel
theorem dX7_scratch_75 : decode cX7_scratch 75 = .ok (.goto 4, 3) := by decide +kernel
theorem dX7_scratch_78 : decode cX7_scratch 78 = .ok (.iconst 1, 1) := by decide +kernel
theorem dX7_scratch_79 : decode cX7_scratch 79 = .ok (.ireturn, 1) := by decide +kernel
theorem dX7_look_0 : decode cX7_look 0 = .ok (.aload_n 0, 1) := by decide +kernel
theorem dX7_look_1 : decode cX7_look 1 = .ok (.iload_n 1, 1) := by decide +kernel
theorem dX7_look_2 : decode cX7_look 2 = .ok (.invokevirtual 103, 3) := by decide +kernel
theorem dX7_look_5 : decode cX7_look 5 = .ok (.ifCond .ne 10, 3) := by decide +kernel
theorem dX7_look_8 : decode cX7_look 8 = .ok (.aload_n 0, 1) := by decide +kernel
theorem dX7_look_9 : decode cX7_look 9 = .ok (.ldc 63, 2) := by decide +kernel
theorem dX7_look_11 : decode cX7_look 11 = .ok (.invokevirtual 94, 3) := by decide +kernel
theorem dX7_look_14 : decode cX7_look 14 = .ok (.ireturn, 1) := by decide +kernel
theorem dX7_look_15 : decode cX7_look 15 = .ok (.aload_n 0, 1) := by decide +kernel
theorem dX7_look_16 : decode cX7_look 16 = .ok (.iload_n 1, 1) := by decide +kernel
theorem dX7_look_17 : decode cX7_look 17 = .ok (.iconst 3, 1) := by decide +kernel
theorem dX7_look_18 : decode cX7_look 18 = .ok (.invokevirtual 68, 3) := by decide +kernel
theorem dX7_look_21 : decode cX7_look 21 = .ok (.istore_n 2, 1) := by decide +kernel
theorem dX7_look_22 : decode cX7_look 22 = .ok (.aload_n 0, 1) := by decide +kernel
theorem dX7_look_23 : decode cX7_look 23 = .ok (.iload_n 1, 1) := by decide +kernel
theorem dX7_look_24 : decode cX7_look 24 = .ok (.iconst 3, 1) := by decide +kernel
theorem dX7_look_25 : decode cX7_look 25 = .ok (.iconst 1, 1) := by decide +kernel
theorem dX7_look_26 : decode cX7_look 26 = .ok (.invokevirtual 86, 3) := by decide +kernel
theorem dX7_look_29 : decode cX7_look 29 = .ok (.iconst 1, 1) := by decide +kernel
theorem dX7_look_30 : decode cX7_look 30 = .ok (.iload_n 2, 1) := by decide +kernel
theorem dX7_look_31 : decode cX7_look 31 = .ok (.isub, 1) := by decide +kernel
theorem dX7_look_32 : decode cX7_look 32 = .ok (.ireturn, 1) := by decide +kernel
theorem dX7_turn_0 : decode cX7_turn 0 = .ok (.aload_n 0, 1) := by decide +kernel
theorem dX7_turn_1 : decode cX7_turn 1 = .ok (.iload_n 1, 1) := by decide +kernel
theorem dX7_turn_2 : decode cX7_turn 2 = .ok (.invokevirtual 103, 3) := by decide +kernel
theorem dX7_turn_5 : decode cX7_turn 5 = .ok (.ifCond .eq 10, 3) := by decide +kernel
theorem dX7_turn_8 : decode cX7_turn 8 = .ok (.iload_n 2, 1) := by decide +kernel
theorem dX7_turn_9 : decode cX7_turn 9 = .ok (.invokestatic 90, 3) := by decide +kernel
theorem dX7_turn_12 : decode cX7_turn 12 = .ok (.ifCond .ne 10, 3) := by decide +kernel
theorem dX7_turn_15 : decode cX7_turn 15 = .ok (.aload_n 0, 1) := by decide +kernel
theorem dX7_turn_16 : decode cX7_turn 16 = .ok (.ldc 63, 2) := by decide +kernel
theorem dX7_turn_18 : decode cX7_turn 18 = .ok (.invokevirtual 94, 3) := by decide +kernel
theorem dX7_turn_21 : decode cX7_turn 21 = .ok (.ireturn, 1) := by decide +kernel
theorem dX7_turn_22 : decode cX7_turn 22 = .ok (.aload_n 0, 1) := by decide +kernel
theorem dX7_turn_23 : decode cX7_turn 23 = .ok (.iload_n 1, 1) := by decide +kernel
theorem dX7_turn_24 : decode cX7_turn 24 = .ok (.iconst 0, 1) := by decide +kernel
theorem dX7_turn_25 : decode cX7_turn 25 = .ok (.invokevirtual 68, 3) := by decide +kernel
theorem dX7_turn_28 : decode cX7_turn 28 = .ok (.istore_n 3, 1) := by decide +kernel
theorem dX7_turn_29 : decode cX7_turn 29 = .ok (.aload_n 0, 1) := by decide +kernel
theorem dX7_turn_30 : decode cX7_turn 30 = .ok (.iload_n 1, 1) := by decide +kernel
theorem dX7_turn_31 : decode cX7_turn 31 = .ok (.iconst 0, 1) := by decide +kernel
theorem dX7_turn_32 : decode cX7_turn 32 = .ok (.iload_n 2, 1) := by decide +kernel
theorem dX7_turn_33 : decode cX7_turn 33 = .ok (.invokevirtual 86, 3) := by decide +kernel
theorem dX7_turn_36 : decode cX7_turn 36 = .ok (.iload_n 3, 1) := by decide +kernel
theorem dX7_turn_37 : decode cX7_turn 37 = .ok (.ireturn, 1) := by decide +kernel
theorem dX7_isUnder_0 : decode cX7_isUnder 0 = .ok (.iload_n 1, 1) := by decide +kernel
theorem dX7_isUnder_1 : decode cX7_isUnder 1 = .ok (.ifCond .eq 28, 3) := by decide +kernel
theorem dX7_isUnder_4 : decode cX7_isUnder 4 = .ok (.iload_n 1, 1) := by decide +kernel
theorem dX7_isUnder_5 : decode cX7_isUnder 5 = .ok (.iload_n 0, 1) := by decide +kernel
theorem dX7_isUnder_6 : decode cX7_isUnder 6 = .ok (.if_icmp .eq 23, 3) := by decide +kernel
theorem dX7_isUnder_9 : decode cX7_isUnder 9 = .ok (.iload_n 1, 1) := by decide +kernel
theorem dX7_isUnder_10 : decode cX7_isUnder 10 = .ok (.iconst 1, 1) := by decide +kernel
theorem dX7_isUnder_11 : decode cX7_isUnder 11 = .ok (.if_icmp .ne 8, 3) := by decide +kernel
theorem dX7_isUnder_14 : decode cX7_isUnder 14 = .ok (.iload_n 0, 1) := by decide +kernel
theorem dX7_isUnder_15 : decode cX7_isUnder 15 = .ok (.iconst 5, 1) := by decide +kernel
theorem dX7_isUnder_16 : decode cX7_isUnder 16 = .ok (.if_icmp .eq 13, 3) := by decide +kernel
theorem dX7_isUnder_19 : decode cX7_isUnder 19 = .ok (.iload_n 1, 1) := by decide +kernel
theorem dX7_isUnder_20 : decode cX7_isUnder 20 = .ok (.iconst 2, 1) := by decide +kernel
theorem dX7_isUnder_21 : decode cX7_isUnder 21 = .ok (.if_icmp .ne 12, 3) := by decide +kernel
theorem dX7_isUnder_24 : decode cX7_isUnder 24 = .ok (.iload_n 0, 1) := by decide +kernel
theorem dX7_isUnder_25 : decode cX7_isUnder 25 = .ok (.iconst 3, 1) := by decide +kernel
theorem dX7_isUnder_26 : decode cX7_isUnder 26 = .ok (.if_icmp .ne 7, 3) := by decide +kernel
theorem dX7_isUnder_29 : decode cX7_isUnder 29 = .ok (.iconst 1, 1) := by decide +kernel
theorem dX7_isUnder_30 : decode cX7_isUnder 30 = .ok (.goto 4, 3) := by decide +kernel
theorem dX7_isUnder_33 : decode cX7_isUnder 33 = .ok (.iconst 0, 1) := by decide +kernel
theorem dX7_isUnder_34 : decode cX7_isUnder 34 = .ok (.ireturn, 1) := by decide +kernel
theorem dX7_as_0 : decode cX7_as 0 = .ok (.aload_n 0, 1) := by decide +kernel
theorem dX7_as_1 : decode cX7_as 1 = .ok (.iload_n 1, 1) := by decide +kernel
theorem dX7_as_2 : decode cX7_as 2 = .ok (.invokevirtual 103, 3) := by decide +kernel
theorem dX7_as_5 : decode cX7_as 5 = .ok (.ifCond .eq 10, 3) := by decide +kernel
theorem dX7_as_8 : decode cX7_as 8 = .ok (.iload_n 2, 1) := by decide +kernel
theorem dX7_as_9 : decode cX7_as 9 = .ok (.invokestatic 90, 3) := by decide +kernel
theorem dX7_as_12 : decode cX7_as 12 = .ok (.ifCond .ne 10, 3) := by decide +kernel
theorem dX7_as_15 : decode cX7_as 15 = .ok (.aload_n 0, 1) := by decide +kernel
theorem dX7_as_16 : decode cX7_as 16 = .ok (.ldc 63, 2) := by decide +kernel
theorem dX7_as_18 : decode cX7_as 18 = .ok (.invokevirtual 94, 3) := by decide +kernel
theorem dX7_as_21 : decode cX7_as 21 = .ok (.ireturn, 1) := by decide +kernel
theorem dX7_as_22 : decode cX7_as 22 = .ok (.aload_n 0, 1) := by decide +kernel
theorem dX7_as_23 : decode cX7_as 23 = .ok (.iload_n 1, 1) := by decide +kernel
theorem dX7_as_24 : decode cX7_as 24 = .ok (.iconst 0, 1) := by decide +kernel
theorem dX7_as_25 : decode cX7_as 25 = .ok (.invokevirtual 68, 3) := by decide +kernel
theorem dX7_as_28 : decode cX7_as 28 = .ok (.iload_n 2, 1) := by decide +kernel
theorem dX7_as_29 : decode cX7_as 29 = .ok (.invokestatic 120, 3) := by decide +kernel
theorem dX7_as_32 : decode cX7_as 32 = .ok (.ifCond .eq 12, 3) := by decide +kernel
theorem dX7_as_35 : decode cX7_as 35 = .ok (.aload_n 0, 1) := by decide +kernel
theorem dX7_as_36 : decode cX7_as 36 = .ok (.iload_n 1, 1) := by decide +kernel
theorem dX7_as_37 : decode cX7_as 37 = .ok (.iconst 2, 1) := by decide +kernel
theorem dX7_as_38 : decode cX7_as 38 = .ok (.invokevirtual 68, 3) := by decide +kernel
theorem dX7_as_41 : decode cX7_as 41 = .ok (.goto 9, 3) := by decide +kernel
theorem dX7_as_44 : decode cX7_as 44 = .ok (.aload_n 0, 1) := by decide +kernel
theorem dX7_as_45 : decode cX7_as 45 = .ok (.ldc 123, 2) := by decide +kernel
theorem dX7_as_47 : decode cX7_as 47 = .ok (.invokevirtual 94, 3) := by decide +kernel
theorem dX7_as_50 : decode cX7_as 50 = .ok (.ireturn, 1) := by decide +kernel
theorem dX7_slack_0 : decode cX7_slack 0 = .ok (.iload_n 1, 1) := by decide +kernel
theorem dX7_slack_1 : decode cX7_slack 1 = .ok (.iconst 0, 1) := by decide +kernel
theorem dX7_slack_2 : decode cX7_slack 2 = .ok (.sipush 999, 3) := by decide +kernel
theorem dX7_slack_5 : decode cX7_slack 5 = .ok (.invokestatic 64, 3) := by decide +kernel
theorem dX7_slack_8 : decode cX7_slack 8 = .ok (.ifCond .ne 10, 3) := by decide +kernel
theorem dX7_slack_11 : decode cX7_slack 11 = .ok (.aload_n 0, 1) := by decide +kernel
theorem dX7_slack_12 : decode cX7_slack 12 = .ok (.ldc 63, 2) := by decide +kernel
theorem dX7_slack_14 : decode cX7_slack 14 = .ok (.invokevirtual 94, 3) := by decide +kernel
theorem dX7_slack_17 : decode cX7_slack 17 = .ok (.ireturn, 1) := by decide +kernel
theorem dX7_slack_18 : decode cX7_slack 18 = .ok (.aload_n 0, 1) := by decide +kernel
theorem dX7_slack_19 : decode cX7_slack 19 = .ok (.getfield 7, 3) := by decide +kernel
theorem dX7_slack_22 : decode cX7_slack 22 = .ok (.iconst 1, 1) := by decide +kernel
theorem dX7_slack_23 : decode cX7_slack 23 = .ok (.iaload, 1) := by decide +kernel
theorem dX7_slack_24 : decode cX7_slack 24 = .ok (.istore_n 2, 1) := by decide +kernel
theorem dX7_slack_25 : decode cX7_slack 25 = .ok (.aload_n 0, 1) := by decide +kernel
theorem dX7_slack_26 : decode cX7_slack 26 = .ok (.getfield 7, 3) := by decide +kernel
theorem dX7_slack_29 : decode cX7_slack 29 = .ok (.iconst 1, 1) := by decide +kernel
theorem dX7_slack_30 : decode cX7_slack 30 = .ok (.iload_n 1, 1) := by decide +kernel
theorem dX7_slack_31 : decode cX7_slack 31 = .ok (.iastore, 1) := by decide +kernel
theorem dX7_slack_32 : decode cX7_slack 32 = .ok (.iload_n 2, 1) := by decide +kernel
theorem dX7_slack_33 : decode cX7_slack 33 = .ok (.ireturn, 1) := by decide +kernel
theorem dX7_apartBy_0 : decode cX7_apartBy 0 = .ok (.aload_n 0, 1) := by decide +kernel
theorem dX7_apartBy_1 : decode cX7_apartBy 1 = .ok (.iload_n 1, 1) := by decide +kernel
theorem dX7_apartBy_2 : decode cX7_apartBy 2 = .ok (.invokevirtual 106, 3) := by decide +kernel
theorem dX7_apartBy_5 : decode cX7_apartBy 5 = .ok (.aload_n 0, 1) := by decide +kernel
theorem dX7_apartBy_6 : decode cX7_apartBy 6 = .ok (.iload_n 2, 1) := by decide +kernel
theorem dX7_apartBy_7 : decode cX7_apartBy 7 = .ok (.invokevirtual 106, 3) := by decide +kernel
theorem dX7_apartBy_10 : decode cX7_apartBy 10 = .ok (.isub, 1) := by decide +kernel
theorem dX7_apartBy_11 : decode cX7_apartBy 11 = .ok (.istore_n 3, 1) := by decide +kernel
theorem dX7_apartBy_12 : decode cX7_apartBy 12 = .ok (.iload_n 3, 1) := by decide +kernel
theorem dX7_apartBy_13 : decode cX7_apartBy 13 = .ok (.ifCond .ge 8, 3) := by decide +kernel
theorem dX7_apartBy_16 : decode cX7_apartBy 16 = .ok (.iload_n 3, 1) := by decide +kernel
theorem dX7_apartBy_17 : decode cX7_apartBy 17 = .ok (.ineg, 1) := by decide +kernel
theorem dX7_apartBy_18 : decode cX7_apartBy 18 = .ok (.goto 4, 3) := by decide +kernel
theorem dX7_apartBy_21 : decode cX7_apartBy 21 = .ok (.iload_n 3, 1) := by decide +kernel
theorem dX7_apartBy_22 : decode cX7_apartBy 22 = .ok (.ireturn, 1) := by decide +kernel
theorem dX7_marksAllow_0 : decode cX7_marksAllow 0 = .ok (.aload_n 0, 1) := by decide +kernel
theorem dX7_marksAllow_1 : decode cX7_marksAllow 1 = .ok (.iload_n 2, 1) := by decide +kernel
theorem dX7_marksAllow_2 : decode cX7_marksAllow 2 = .ok (.iconst 0, 1) := by decide +kernel
theorem dX7_marksAllow_3 : decode cX7_marksAllow 3 = .ok (.invokevirtual 68, 3) := by decide +kernel
theorem dX7_marksAllow_6 : decode cX7_marksAllow 6 = .ok (.iconst 4, 1) := by decide +kernel
theorem dX7_marksAllow_7 : decode cX7_marksAllow 7 = .ok (.if_icmp .eq 29, 3) := by decide +kernel
theorem dX7_marksAllow_10 : decode cX7_marksAllow 10 = .ok (.aload_n 0, 1) := by decide +kernel
theorem dX7_marksAllow_11 : decode cX7_marksAllow 11 = .ok (.iload_n 1, 1) := by decide +kernel
theorem dX7_marksAllow_12 : decode cX7_marksAllow 12 = .ok (.invokevirtual 109, 3) := by decide +kernel
theorem dX7_marksAllow_15 : decode cX7_marksAllow 15 = .ok (.aload_n 0, 1) := by decide +kernel
theorem dX7_marksAllow_16 : decode cX7_marksAllow 16 = .ok (.iload_n 2, 1) := by decide +kernel
theorem dX7_marksAllow_17 : decode cX7_marksAllow 17 = .ok (.invokevirtual 109, 3) := by decide +kernel
theorem dX7_marksAllow_20 : decode cX7_marksAllow 20 = .ok (.aload_n 0, 1) := by decide +kernel
theorem dX7_marksAllow_21 : decode cX7_marksAllow 21 = .ok (.iload_n 2, 1) := by decide +kernel
theorem dX7_marksAllow_22 : decode cX7_marksAllow 22 = .ok (.invokevirtual 78, 3) := by decide +kernel
theorem dX7_marksAllow_25 : decode cX7_marksAllow 25 = .ok (.lor, 1) := by decide +kernel
theorem dX7_marksAllow_26 : decode cX7_marksAllow 26 = .ok (.ldc2_w 82, 3) := by decide +kernel
theorem dX7_marksAllow_29 : decode cX7_marksAllow 29 = .ok (.lxor, 1) := by decide +kernel
theorem dX7_marksAllow_30 : decode cX7_marksAllow 30 = .ok (.land, 1) := by decide +kernel
theorem dX7_marksAllow_31 : decode cX7_marksAllow 31 = .ok (.lconst 0, 1) := by decide +kernel
theorem dX7_marksAllow_32 : decode cX7_marksAllow 32 = .ok (.lcmp, 1) := by decide +kernel
theorem dX7_marksAllow_33 : decode cX7_marksAllow 33 = .ok (.ifCond .ne 7, 3) := by decide +kernel
theorem dX7_marksAllow_36 : decode cX7_marksAllow 36 = .ok (.iconst 1, 1) := by decide +kernel
theorem dX7_marksAllow_37 : decode cX7_marksAllow 37 = .ok (.goto 4, 3) := by decide +kernel
theorem dX7_marksAllow_40 : decode cX7_marksAllow 40 = .ok (.iconst 0, 1) := by decide +kernel
theorem dX7_marksAllow_41 : decode cX7_marksAllow 41 = .ok (.ireturn, 1) := by decide +kernel
theorem dX7_canBe_0 : decode cX7_canBe 0 = .ok (.aload_n 0, 1) := by decide +kernel
theorem dX7_canBe_1 : decode cX7_canBe 1 = .ok (.iload_n 1, 1) := by decide +kernel
theorem dX7_canBe_2 : decode cX7_canBe 2 = .ok (.iload_n 2, 1) := by decide +kernel
theorem dX7_canBe_3 : decode cX7_canBe 3 = .ok (.invokevirtual 124, 3) := by decide +kernel
theorem dX7_canBe_6 : decode cX7_canBe 6 = .ok (.ifCond .eq 22, 3) := by decide +kernel
theorem dX7_canBe_9 : decode cX7_canBe 9 = .ok (.aload_n 0, 1) := by decide +kernel
theorem dX7_canBe_10 : decode cX7_canBe 10 = .ok (.iload_n 1, 1) := by decide +kernel
theorem dX7_canBe_11 : decode cX7_canBe 11 = .ok (.iload_n 2, 1) := by decide +kernel
theorem dX7_canBe_12 : decode cX7_canBe 12 = .ok (.invokevirtual 127, 3) := by decide +kernel
theorem dX7_canBe_15 : decode cX7_canBe 15 = .ok (.aload_n 0, 1) := by decide +kernel
theorem dX7_canBe_16 : decode cX7_canBe 16 = .ok (.getfield 7, 3) := by decide +kernel
theorem dX7_canBe_19 : decode cX7_canBe 19 = .ok (.iconst 1, 1) := by decide +kernel
theorem dX7_canBe_20 : decode cX7_canBe 20 = .ok (.iaload, 1) := by decide +kernel
theorem dX7_canBe_21 : decode cX7_canBe 21 = .ok (.if_icmp .gt 7, 3) := by decide +kernel
theorem dX7_canBe_24 : decode cX7_canBe 24 = .ok (.iconst 1, 1) := by decide +kernel
theorem dX7_canBe_25 : decode cX7_canBe 25 = .ok (.goto 4, 3) := by decide +kernel
theorem dX7_canBe_28 : decode cX7_canBe 28 = .ok (.iconst 0, 1) := by decide +kernel
theorem dX7_canBe_29 : decode cX7_canBe 29 = .ok (.ireturn, 1) := by decide +kernel
theorem dX7_areTwo_0 : decode cX7_areTwo 0 = .ok (.aload_n 0, 1) := by decide +kernel
theorem dX7_areTwo_1 : decode cX7_areTwo 1 = .ok (.iload_n 1, 1) := by decide +kernel
theorem dX7_areTwo_2 : decode cX7_areTwo 2 = .ok (.invokevirtual 103, 3) := by decide +kernel
theorem dX7_areTwo_5 : decode cX7_areTwo 5 = .ok (.ifCond .eq 20, 3) := by decide +kernel
theorem dX7_areTwo_8 : decode cX7_areTwo 8 = .ok (.aload_n 0, 1) := by decide +kernel
theorem dX7_areTwo_9 : decode cX7_areTwo 9 = .ok (.iload_n 2, 1) := by decide +kernel
theorem dX7_areTwo_10 : decode cX7_areTwo 10 = .ok (.invokevirtual 103, 3) := by decide +kernel
theorem dX7_areTwo_13 : decode cX7_areTwo 13 = .ok (.ifCond .eq 12, 3) := by decide +kernel
theorem dX7_areTwo_16 : decode cX7_areTwo 16 = .ok (.iload_n 1, 1) := by decide +kernel
theorem dX7_areTwo_17 : decode cX7_areTwo 17 = .ok (.iload_n 2, 1) := by decide +kernel
theorem dX7_areTwo_18 : decode cX7_areTwo 18 = .ok (.if_icmp .eq 7, 3) := by decide +kernel
theorem dX7_areTwo_21 : decode cX7_areTwo 21 = .ok (.iconst 1, 1) := by decide +kernel
theorem dX7_areTwo_22 : decode cX7_areTwo 22 = .ok (.goto 4, 3) := by decide +kernel
theorem dX7_areTwo_25 : decode cX7_areTwo 25 = .ok (.iconst 0, 1) := by decide +kernel
theorem dX7_areTwo_26 : decode cX7_areTwo 26 = .ok (.ireturn, 1) := by decide +kernel
theorem dX7_ahead_0 : decode cX7_ahead 0 = .ok (.aload_n 0, 1) := by decide +kernel
theorem dX7_ahead_1 : decode cX7_ahead 1 = .ok (.iload_n 1, 1) := by decide +kernel
theorem dX7_ahead_2 : decode cX7_ahead 2 = .ok (.iload_n 2, 1) := by decide +kernel
theorem dX7_ahead_3 : decode cX7_ahead 3 = .ok (.invokevirtual 130, 3) := by decide +kernel
theorem dX7_ahead_6 : decode cX7_ahead 6 = .ok (.ifCond .ne 10, 3) := by decide +kernel
theorem dX7_ahead_9 : decode cX7_ahead 9 = .ok (.aload_n 0, 1) := by decide +kernel
theorem dX7_ahead_10 : decode cX7_ahead 10 = .ok (.ldc 63, 2) := by decide +kernel
theorem dX7_ahead_12 : decode cX7_ahead 12 = .ok (.invokevirtual 94, 3) := by decide +kernel
theorem dX7_ahead_15 : decode cX7_ahead 15 = .ok (.ireturn, 1) := by decide +kernel
theorem dX7_ahead_16 : decode cX7_ahead 16 = .ok (.aload_n 0, 1) := by decide +kernel
theorem dX7_ahead_17 : decode cX7_ahead 17 = .ok (.iload_n 1, 1) := by decide +kernel
theorem dX7_ahead_18 : decode cX7_ahead 18 = .ok (.iload_n 2, 1) := by decide +kernel
theorem dX7_ahead_19 : decode cX7_ahead 19 = .ok (.invokevirtual 133, 3) := by decide +kernel
theorem dX7_ahead_22 : decode cX7_ahead 22 = .ok (.ifCond .eq 7, 3) := by decide +kernel
theorem dX7_ahead_25 : decode cX7_ahead 25 = .ok (.iconst 1, 1) := by decide +kernel
theorem dX7_ahead_26 : decode cX7_ahead 26 = .ok (.goto 4, 3) := by decide +kernel
theorem dX7_ahead_29 : decode cX7_ahead 29 = .ok (.iconst 0, 1) := by decide +kernel
theorem dX7_ahead_30 : decode cX7_ahead 30 = .ok (.ireturn, 1) := by decide +kernel
theorem dX7_order_0 : decode cX7_order 0 = .ok (.aload_n 0, 1) := by decide +kernel
theorem dX7_order_1 : decode cX7_order 1 = .ok (.iload_n 1, 1) := by decide +kernel
theorem dX7_order_2 : decode cX7_order 2 = .ok (.iload_n 2, 1) := by decide +kernel
theorem dX7_order_3 : decode cX7_order 3 = .ok (.invokevirtual 130, 3) := by decide +kernel
theorem dX7_order_6 : decode cX7_order 6 = .ok (.ifCond .ne 10, 3) := by decide +kernel
theorem dX7_order_9 : decode cX7_order 9 = .ok (.aload_n 0, 1) := by decide +kernel
theorem dX7_order_10 : decode cX7_order 10 = .ok (.ldc 63, 2) := by decide +kernel
theorem dX7_order_12 : decode cX7_order 12 = .ok (.invokevirtual 94, 3) := by decide +kernel
theorem dX7_order_15 : decode cX7_order 15 = .ok (.ireturn, 1) := by decide +kernel
theorem dX7_order_16 : decode cX7_order 16 = .ok (.aload_n 0, 1) := by decide +kernel
theorem dX7_order_17 : decode cX7_order 17 = .ok (.iload_n 1, 1) := by decide +kernel
theorem dX7_order_18 : decode cX7_order 18 = .ok (.iload_n 2, 1) := by decide +kernel
theorem dX7_order_19 : decode cX7_order 19 = .ok (.invokevirtual 133, 3) := by decide +kernel
theorem dX7_order_22 : decode cX7_order 22 = .ok (.ifCond .eq 7, 3) := by decide +kernel
theorem dX7_order_25 : decode cX7_order 25 = .ok (.iconst 1, 1) := by decide +kernel
theorem dX7_order_26 : decode cX7_order 26 = .ok (.goto 4, 3) := by decide +kernel
theorem dX7_order_29 : decode cX7_order 29 = .ok (.iconst 0, 1) := by decide +kernel
theorem dX7_order_30 : decode cX7_order 30 = .ok (.aload_n 0, 1) := by decide +kernel
theorem dX7_order_31 : decode cX7_order 31 = .ok (.iload_n 2, 1) := by decide +kernel
theorem dX7_order_32 : decode cX7_order 32 = .ok (.iload_n 1, 1) := by decide +kernel
theorem dX7_order_33 : decode cX7_order 33 = .ok (.invokevirtual 133, 3) := by decide +kernel
theorem dX7_order_36 : decode cX7_order 36 = .ok (.ifCond .eq 7, 3) := by decide +kernel
theorem dX7_order_39 : decode cX7_order 39 = .ok (.iconst 2, 1) := by decide +kernel
theorem dX7_order_40 : decode cX7_order 40 = .ok (.goto 4, 3) := by decide +kernel
theorem dX7_order_43 : decode cX7_order 43 = .ok (.iconst 0, 1) := by decide +kernel
theorem dX7_order_44 : decode cX7_order 44 = .ok (.iadd, 1) := by decide +kernel
theorem dX7_order_45 : decode cX7_order 45 = .ok (.ireturn, 1) := by decide +kernel
theorem dX7_alike_0 : decode cX7_alike 0 = .ok (.aload_n 0, 1) := by decide +kernel
theorem dX7_alike_1 : decode cX7_alike 1 = .ok (.iload_n 1, 1) := by decide +kernel
theorem dX7_alike_2 : decode cX7_alike 2 = .ok (.iload_n 2, 1) := by decide +kernel
theorem dX7_alike_3 : decode cX7_alike 3 = .ok (.invokevirtual 130, 3) := by decide +kernel
theorem dX7_alike_6 : decode cX7_alike 6 = .ok (.ifCond .ne 10, 3) := by decide +kernel
theorem dX7_alike_9 : decode cX7_alike 9 = .ok (.aload_n 0, 1) := by decide +kernel
theorem dX7_alike_10 : decode cX7_alike 10 = .ok (.ldc 63, 2) := by decide +kernel
theorem dX7_alike_12 : decode cX7_alike 12 = .ok (.invokevirtual 94, 3) := by decide +kernel
theorem dX7_alike_15 : decode cX7_alike 15 = .ok (.ireturn, 1) := by decide +kernel
theorem dX7_alike_16 : decode cX7_alike 16 = .ok (.aload_n 0, 1) := by decide +kernel
theorem dX7_alike_17 : decode cX7_alike 17 = .ok (.iload_n 1, 1) := by decide +kernel
theorem dX7_alike_18 : decode cX7_alike 18 = .ok (.invokevirtual 78, 3) := by decide +kernel
theorem dX7_alike_21 : decode cX7_alike 21 = .ok (.aload_n 0, 1) := by decide +kernel
theorem dX7_alike_22 : decode cX7_alike 22 = .ok (.iload_n 2, 1) := by decide +kernel
theorem dX7_alike_23 : decode cX7_alike 23 = .ok (.invokevirtual 78, 3) := by decide +kernel
theorem dX7_alike_26 : decode cX7_alike 26 = .ok (.lor, 1) := by decide +kernel
theorem dX7_alike_27 : decode cX7_alike 27 = .ok (.lstore_n 3, 1) := by decide +kernel
theorem dX7_alike_28 : decode cX7_alike 28 = .ok (.ldc2_w 84, 3) := by decide +kernel
theorem dX7_alike_31 : decode cX7_alike 31 = .ok (.lload_n 3, 1) := by decide +kernel
theorem dX7_alike_32 : decode cX7_alike 32 = .ok (.ldc2_w 82, 3) := by decide +kernel
theorem dX7_alike_35 : decode cX7_alike 35 = .ok (.lxor, 1) := by decide +kernel
theorem dX7_alike_36 : decode cX7_alike 36 = .ok (.land, 1) := by decide +kernel
theorem dX7_alike_37 : decode cX7_alike 37 = .ok (.aload_n 0, 1) := by decide +kernel
theorem dX7_alike_38 : decode cX7_alike 38 = .ok (.iload_n 1, 1) := by decide +kernel
theorem dX7_alike_39 : decode cX7_alike 39 = .ok (.invokevirtual 109, 3) := by decide +kernel
theorem dX7_alike_42 : decode cX7_alike 42 = .ok (.aload_n 0, 1) := by decide +kernel
theorem dX7_alike_43 : decode cX7_alike 43 = .ok (.iload_n 2, 1) := by decide +kernel
theorem dX7_alike_44 : decode cX7_alike 44 = .ok (.invokevirtual 109, 3) := by decide +kernel
theorem dX7_alike_47 : decode cX7_alike 47 = .ok (.lxor, 1) := by decide +kernel
theorem dX7_alike_48 : decode cX7_alike 48 = .ok (.ldc2_w 82, 3) := by decide +kernel
theorem dX7_alike_51 : decode cX7_alike 51 = .ok (.lxor, 1) := by decide +kernel
theorem dX7_alike_52 : decode cX7_alike 52 = .ok (.land, 1) := by decide +kernel
theorem dX7_alike_53 : decode cX7_alike 53 = .ok (.invokestatic 112, 3) := by decide +kernel
theorem dX7_alike_56 : decode cX7_alike 56 = .ok (.ireturn, 1) := by decide +kernel
theorem dX7_slackFor_0 : decode cX7_slackFor 0 = .ok (.aload_n 0, 1) := by decide +kernel
theorem dX7_slackFor_1 : decode cX7_slackFor 1 = .ok (.iload_n 1, 1) := by decide +kernel
theorem dX7_slackFor_2 : decode cX7_slackFor 2 = .ok (.iload_n 2, 1) := by decide +kernel
theorem dX7_slackFor_3 : decode cX7_slackFor 3 = .ok (.invokevirtual 130, 3) := by decide +kernel
theorem dX7_slackFor_6 : decode cX7_slackFor 6 = .ok (.ifCond .ne 10, 3) := by decide +kernel
theorem dX7_slackFor_9 : decode cX7_slackFor 9 = .ok (.aload_n 0, 1) := by decide +kernel
theorem dX7_slackFor_10 : decode cX7_slackFor 10 = .ok (.ldc 63, 2) := by decide +kernel
theorem dX7_slackFor_12 : decode cX7_slackFor 12 = .ok (.invokevirtual 94, 3) := by decide +kernel
theorem dX7_slackFor_15 : decode cX7_slackFor 15 = .ok (.ireturn, 1) := by decide +kernel
theorem dX7_slackFor_16 : decode cX7_slackFor 16 = .ok (.aload_n 0, 1) := by decide +kernel
theorem dX7_slackFor_17 : decode cX7_slackFor 17 = .ok (.iload_n 1, 1) := by decide +kernel
theorem dX7_slackFor_18 : decode cX7_slackFor 18 = .ok (.iload_n 2, 1) := by decide +kernel
theorem dX7_slackFor_19 : decode cX7_slackFor 19 = .ok (.invokevirtual 124, 3) := by decide +kernel
theorem dX7_slackFor_22 : decode cX7_slackFor 22 = .ok (.ifCond .ne 12, 3) := by decide +kernel
theorem dX7_slackFor_25 : decode cX7_slackFor 25 = .ok (.aload_n 0, 1) := by decide +kernel
theorem dX7_slackFor_26 : decode cX7_slackFor 26 = .ok (.iload_n 2, 1) := by decide +kernel
theorem dX7_slackFor_27 : decode cX7_slackFor 27 = .ok (.iload_n 1, 1) := by decide +kernel
theorem dX7_slackFor_28 : decode cX7_slackFor 28 = .ok (.invokevirtual 124, 3) := by decide +kernel
theorem dX7_slackFor_31 : decode cX7_slackFor 31 = .ok (.ifCond .eq 7, 3) := by decide +kernel
theorem dX7_slackFor_34 : decode cX7_slackFor 34 = .ok (.iconst 1, 1) := by decide +kernel
theorem dX7_slackFor_35 : decode cX7_slackFor 35 = .ok (.goto 4, 3) := by decide +kernel
theorem dX7_slackFor_38 : decode cX7_slackFor 38 = .ok (.iconst 0, 1) := by decide +kernel
theorem dX7_slackFor_39 : decode cX7_slackFor 39 = .ok (.istore_n 3, 1) := by decide +kernel
theorem dX7_slackFor_40 : decode cX7_slackFor 40 = .ok (.aload_n 0, 1) := by decide +kernel
theorem dX7_slackFor_41 : decode cX7_slackFor 41 = .ok (.iload_n 1, 1) := by decide +kernel
theorem dX7_slackFor_42 : decode cX7_slackFor 42 = .ok (.iload_n 2, 1) := by decide +kernel
theorem dX7_slackFor_43 : decode cX7_slackFor 43 = .ok (.invokevirtual 127, 3) := by decide +kernel
theorem dX7_slackFor_46 : decode cX7_slackFor 46 = .ok (.istore 4, 2) := by decide +kernel
theorem dX7_slackFor_48 : decode cX7_slackFor 48 = .ok (.iload_n 3, 1) := by decide +kernel
theorem dX7_slackFor_49 : decode cX7_slackFor 49 = .ok (.ifCond .eq 16, 3) := by decide +kernel
theorem dX7_slackFor_52 : decode cX7_slackFor 52 = .ok (.iload 4, 2) := by decide +kernel
theorem dX7_slackFor_54 : decode cX7_slackFor 54 = .ok (.sipush 999, 3) := by decide +kernel
theorem dX7_slackFor_57 : decode cX7_slackFor 57 = .ok (.if_icmp .gt 8, 3) := by decide +kernel
theorem dX7_slackFor_60 : decode cX7_slackFor 60 = .ok (.iload 4, 2) := by decide +kernel
theorem dX7_slackFor_62 : decode cX7_slackFor 62 = .ok (.goto 9, 3) := by decide +kernel
theorem dX7_slackFor_65 : decode cX7_slackFor 65 = .ok (.aload_n 0, 1) := by decide +kernel
theorem dX7_slackFor_66 : decode cX7_slackFor 66 = .ok (.ldc 136, 2) := by decide +kernel
theorem dX7_slackFor_68 : decode cX7_slackFor 68 = .ok (.invokevirtual 94, 3) := by decide +kernel
theorem dX7_slackFor_71 : decode cX7_slackFor 71 = .ok (.ireturn, 1) := by decide +kernel
theorem dX7_came_0 : decode cX7_came 0 = .ok (.aload_n 0, 1) := by decide +kernel
theorem dX7_came_1 : decode cX7_came 1 = .ok (.iload_n 1, 1) := by decide +kernel
theorem dX7_came_2 : decode cX7_came 2 = .ok (.iload_n 2, 1) := by decide +kernel
theorem dX7_came_3 : decode cX7_came 3 = .ok (.invokevirtual 130, 3) := by decide +kernel
theorem dX7_came_6 : decode cX7_came 6 = .ok (.ifCond .ne 10, 3) := by decide +kernel
theorem dX7_came_9 : decode cX7_came 9 = .ok (.aload_n 0, 1) := by decide +kernel
theorem dX7_came_10 : decode cX7_came 10 = .ok (.ldc 63, 2) := by decide +kernel
theorem dX7_came_12 : decode cX7_came 12 = .ok (.invokevirtual 94, 3) := by decide +kernel
theorem dX7_came_15 : decode cX7_came 15 = .ok (.ireturn, 1) := by decide +kernel
theorem dX7_came_16 : decode cX7_came 16 = .ok (.aload_n 0, 1) := by decide +kernel
theorem dX7_came_17 : decode cX7_came 17 = .ok (.iload_n 1, 1) := by decide +kernel
theorem dX7_came_18 : decode cX7_came 18 = .ok (.iload_n 2, 1) := by decide +kernel
theorem dX7_came_19 : decode cX7_came 19 = .ok (.invokevirtual 133, 3) := by decide +kernel
theorem dX7_came_22 : decode cX7_came 22 = .ok (.ifCond .ne 10, 3) := by decide +kernel
theorem dX7_came_25 : decode cX7_came 25 = .ok (.aload_n 0, 1) := by decide +kernel
theorem dX7_came_26 : decode cX7_came 26 = .ok (.ldc 137, 2) := by decide +kernel
theorem dX7_came_28 : decode cX7_came 28 = .ok (.invokevirtual 94, 3) := by decide +kernel
theorem dX7_came_31 : decode cX7_came 31 = .ok (.ireturn, 1) := by decide +kernel
theorem dX7_came_32 : decode cX7_came 32 = .ok (.aload_n 0, 1) := by decide +kernel
theorem dX7_came_33 : decode cX7_came 33 = .ok (.iload_n 2, 1) := by decide +kernel
theorem dX7_came_34 : decode cX7_came 34 = .ok (.invokevirtual 109, 3) := by decide +kernel
theorem dX7_came_37 : decode cX7_came 37 = .ok (.aload_n 0, 1) := by decide +kernel
theorem dX7_came_38 : decode cX7_came 38 = .ok (.iload_n 1, 1) := by decide +kernel
theorem dX7_came_39 : decode cX7_came 39 = .ok (.invokevirtual 109, 3) := by decide +kernel
theorem dX7_came_42 : decode cX7_came 42 = .ok (.aload_n 0, 1) := by decide +kernel
theorem dX7_came_43 : decode cX7_came 43 = .ok (.iload_n 1, 1) := by decide +kernel
theorem dX7_came_44 : decode cX7_came 44 = .ok (.invokevirtual 78, 3) := by decide +kernel
theorem dX7_came_47 : decode cX7_came 47 = .ok (.lor, 1) := by decide +kernel
theorem dX7_came_48 : decode cX7_came 48 = .ok (.ldc2_w 82, 3) := by decide +kernel
theorem dX7_came_51 : decode cX7_came 51 = .ok (.lxor, 1) := by decide +kernel
theorem dX7_came_52 : decode cX7_came 52 = .ok (.land, 1) := by decide +kernel
theorem dX7_came_53 : decode cX7_came 53 = .ok (.invokestatic 112, 3) := by decide +kernel
theorem dX7_came_56 : decode cX7_came 56 = .ok (.ireturn, 1) := by decide +kernel
theorem dX7_isEarlier_0 : decode cX7_isEarlier 0 = .ok (.aload_n 0, 1) := by decide +kernel
theorem dX7_isEarlier_1 : decode cX7_isEarlier 1 = .ok (.iload_n 1, 1) := by decide +kernel
theorem dX7_isEarlier_2 : decode cX7_isEarlier 2 = .ok (.iconst 2, 1) := by decide +kernel
theorem dX7_isEarlier_3 : decode cX7_isEarlier 3 = .ok (.invokevirtual 68, 3) := by decide +kernel
theorem dX7_isEarlier_6 : decode cX7_isEarlier 6 = .ok (.aload_n 0, 1) := by decide +kernel
theorem dX7_isEarlier_7 : decode cX7_isEarlier 7 = .ok (.iload_n 2, 1) := by decide +kernel
theorem dX7_isEarlier_8 : decode cX7_isEarlier 8 = .ok (.iconst 2, 1) := by decide +kernel
theorem dX7_isEarlier_9 : decode cX7_isEarlier 9 = .ok (.invokevirtual 68, 3) := by decide +kernel
theorem dX7_isEarlier_12 : decode cX7_isEarlier 12 = .ok (.if_icmp .lt 23, 3) := by decide +kernel
theorem dX7_isEarlier_15 : decode cX7_isEarlier 15 = .ok (.aload_n 0, 1) := by decide +kernel
theorem dX7_isEarlier_16 : decode cX7_isEarlier 16 = .ok (.iload_n 1, 1) := by decide +kernel
theorem dX7_isEarlier_17 : decode cX7_isEarlier 17 = .ok (.iconst 2, 1) := by decide +kernel
theorem dX7_isEarlier_18 : decode cX7_isEarlier 18 = .ok (.invokevirtual 68, 3) := by decide +kernel
theorem dX7_isEarlier_21 : decode cX7_isEarlier 21 = .ok (.aload_n 0, 1) := by decide +kernel
theorem dX7_isEarlier_22 : decode cX7_isEarlier 22 = .ok (.iload_n 2, 1) := by decide +kernel
theorem dX7_isEarlier_23 : decode cX7_isEarlier 23 = .ok (.iconst 2, 1) := by decide +kernel
theorem dX7_isEarlier_24 : decode cX7_isEarlier 24 = .ok (.invokevirtual 68, 3) := by decide +kernel
theorem dX7_isEarlier_27 : decode cX7_isEarlier 27 = .ok (.if_icmp .ne 12, 3) := by decide +kernel
theorem dX7_isEarlier_30 : decode cX7_isEarlier 30 = .ok (.iload_n 1, 1) := by decide +kernel
theorem dX7_isEarlier_31 : decode cX7_isEarlier 31 = .ok (.iload_n 2, 1) := by decide +kernel
theorem dX7_isEarlier_32 : decode cX7_isEarlier 32 = .ok (.if_icmp .ge 7, 3) := by decide +kernel
theorem dX7_isEarlier_35 : decode cX7_isEarlier 35 = .ok (.iconst 1, 1) := by decide +kernel
theorem dX7_isEarlier_36 : decode cX7_isEarlier 36 = .ok (.goto 4, 3) := by decide +kernel
theorem dX7_isEarlier_39 : decode cX7_isEarlier 39 = .ok (.iconst 0, 1) := by decide +kernel
theorem dX7_isEarlier_40 : decode cX7_isEarlier 40 = .ok (.ireturn, 1) := by decide +kernel
theorem dX7_areOfOne_0 : decode cX7_areOfOne 0 = .ok (.aload_n 0, 1) := by decide +kernel
theorem dX7_areOfOne_1 : decode cX7_areOfOne 1 = .ok (.iload_n 1, 1) := by decide +kernel
theorem dX7_areOfOne_2 : decode cX7_areOfOne 2 = .ok (.iload_n 2, 1) := by decide +kernel
theorem dX7_areOfOne_3 : decode cX7_areOfOne 3 = .ok (.invokevirtual 138, 3) := by decide +kernel
theorem dX7_areOfOne_6 : decode cX7_areOfOne 6 = .ok (.ifCond .eq 17, 3) := by decide +kernel
theorem dX7_areOfOne_9 : decode cX7_areOfOne 9 = .ok (.aload_n 0, 1) := by decide +kernel
theorem dX7_areOfOne_10 : decode cX7_areOfOne 10 = .ok (.getfield 20, 3) := by decide +kernel
theorem dX7_areOfOne_13 : decode cX7_areOfOne 13 = .ok (.bipush 12, 2) := by decide +kernel
theorem dX7_areOfOne_15 : decode cX7_areOfOne 15 = .ok (.iload_n 1, 1) := by decide +kernel
theorem dX7_areOfOne_16 : decode cX7_areOfOne 16 = .ok (.imul, 1) := by decide +kernel
theorem dX7_areOfOne_17 : decode cX7_areOfOne 17 = .ok (.iload_n 2, 1) := by decide +kernel
theorem dX7_areOfOne_18 : decode cX7_areOfOne 18 = .ok (.iadd, 1) := by decide +kernel
theorem dX7_areOfOne_19 : decode cX7_areOfOne 19 = .ok (.baload, 1) := by decide +kernel
theorem dX7_areOfOne_20 : decode cX7_areOfOne 20 = .ok (.goto 14, 3) := by decide +kernel
theorem dX7_areOfOne_23 : decode cX7_areOfOne 23 = .ok (.aload_n 0, 1) := by decide +kernel
theorem dX7_areOfOne_24 : decode cX7_areOfOne 24 = .ok (.getfield 20, 3) := by decide +kernel
theorem dX7_areOfOne_27 : decode cX7_areOfOne 27 = .ok (.bipush 12, 2) := by decide +kernel
theorem dX7_areOfOne_29 : decode cX7_areOfOne 29 = .ok (.iload_n 2, 1) := by decide +kernel
theorem dX7_areOfOne_30 : decode cX7_areOfOne 30 = .ok (.imul, 1) := by decide +kernel
theorem dX7_areOfOne_31 : decode cX7_areOfOne 31 = .ok (.iload_n 1, 1) := by decide +kernel
theorem dX7_areOfOne_32 : decode cX7_areOfOne 32 = .ok (.iadd, 1) := by decide +kernel
theorem dX7_areOfOne_33 : decode cX7_areOfOne 33 = .ok (.baload, 1) := by decide +kernel
theorem dX7_areOfOne_34 : decode cX7_areOfOne 34 = .ok (.ireturn, 1) := by decide +kernel
theorem dX7_findCan_0 : decode cX7_findCan 0 = .ok (.iconst 0, 1) := by decide +kernel
theorem dX7_findCan_1 : decode cX7_findCan 1 = .ok (.istore_n 1, 1) := by decide +kernel
theorem dX7_findCan_2 : decode cX7_findCan 2 = .ok (.iload_n 1, 1) := by decide +kernel
theorem dX7_findCan_3 : decode cX7_findCan 3 = .ok (.aload_n 0, 1) := by decide +kernel
theorem dX7_findCan_4 : decode cX7_findCan 4 = .ok (.getfield 7, 3) := by decide +kernel
theorem dX7_findCan_7 : decode cX7_findCan 7 = .ok (.iconst 0, 1) := by decide +kernel
theorem dX7_findCan_8 : decode cX7_findCan 8 = .ok (.iaload, 1) := by decide +kernel
theorem dX7_findCan_9 : decode cX7_findCan 9 = .ok (.if_icmp .ge 88, 3) := by decide +kernel
theorem dX7_findCan_12 : decode cX7_findCan 12 = .ok (.iconst 0, 1) := by decide +kernel
theorem dX7_findCan_13 : decode cX7_findCan 13 = .ok (.istore_n 2, 1) := by decide +kernel
theorem dX7_findCan_14 : decode cX7_findCan 14 = .ok (.iconst 0, 1) := by decide +kernel
theorem dX7_findCan_15 : decode cX7_findCan 15 = .ok (.istore_n 3, 1) := by decide +kernel
theorem dX7_findCan_16 : decode cX7_findCan 16 = .ok (.iload_n 3, 1) := by decide +kernel
theorem dX7_findCan_17 : decode cX7_findCan 17 = .ok (.aload_n 0, 1) := by decide +kernel
theorem dX7_findCan_18 : decode cX7_findCan 18 = .ok (.getfield 7, 3) := by decide +kernel
theorem dX7_findCan_21 : decode cX7_findCan 21 = .ok (.iconst 0, 1) := by decide +kernel
theorem dX7_findCan_22 : decode cX7_findCan 22 = .ok (.iaload, 1) := by decide +kernel
theorem dX7_findCan_23 : decode cX7_findCan 23 = .ok (.if_icmp .ge 61, 3) := by decide +kernel
theorem dX7_findCan_26 : decode cX7_findCan 26 = .ok (.aload_n 0, 1) := by decide +kernel
theorem dX7_findCan_27 : decode cX7_findCan 27 = .ok (.getfield 20, 3) := by decide +kernel
theorem dX7_findCan_30 : decode cX7_findCan 30 = .ok (.bipush 12, 2) := by decide +kernel
theorem dX7_findCan_32 : decode cX7_findCan 32 = .ok (.iload_n 1, 1) := by decide +kernel
theorem dX7_findCan_33 : decode cX7_findCan 33 = .ok (.imul, 1) := by decide +kernel
theorem dX7_findCan_34 : decode cX7_findCan 34 = .ok (.iload_n 3, 1) := by decide +kernel
theorem dX7_findCan_35 : decode cX7_findCan 35 = .ok (.iadd, 1) := by decide +kernel
theorem dX7_findCan_36 : decode cX7_findCan 36 = .ok (.iload_n 1, 1) := by decide +kernel
theorem dX7_findCan_37 : decode cX7_findCan 37 = .ok (.iload_n 3, 1) := by decide +kernel
theorem dX7_findCan_38 : decode cX7_findCan 38 = .ok (.if_icmp .eq 16, 3) := by decide +kernel
theorem dX7_findCan_41 : decode cX7_findCan 41 = .ok (.aload_n 0, 1) := by decide +kernel
theorem dX7_findCan_42 : decode cX7_findCan 42 = .ok (.iload_n 1, 1) := by decide +kernel
theorem dX7_findCan_43 : decode cX7_findCan 43 = .ok (.iload_n 3, 1) := by decide +kernel
theorem dX7_findCan_44 : decode cX7_findCan 44 = .ok (.invokevirtual 133, 3) := by decide +kernel
theorem dX7_findCan_47 : decode cX7_findCan 47 = .ok (.ifCond .eq 7, 3) := by decide +kernel
theorem dX7_findCan_50 : decode cX7_findCan 50 = .ok (.iconst 1, 1) := by decide +kernel
theorem dX7_findCan_51 : decode cX7_findCan 51 = .ok (.goto 4, 3) := by decide +kernel
theorem dX7_findCan_54 : decode cX7_findCan 54 = .ok (.iconst 0, 1) := by decide +kernel
theorem dX7_findCan_55 : decode cX7_findCan 55 = .ok (.bastore, 1) := by decide +kernel
theorem dX7_findCan_56 : decode cX7_findCan 56 = .ok (.iload_n 2, 1) := by decide +kernel
theorem dX7_findCan_57 : decode cX7_findCan 57 = .ok (.iload_n 3, 1) := by decide +kernel
theorem dX7_findCan_58 : decode cX7_findCan 58 = .ok (.iload_n 1, 1) := by decide +kernel
theorem dX7_findCan_59 : decode cX7_findCan 59 = .ok (.if_icmp .eq 16, 3) := by decide +kernel
theorem dX7_findCan_62 : decode cX7_findCan 62 = .ok (.aload_n 0, 1) := by decide +kernel
theorem dX7_findCan_63 : decode cX7_findCan 63 = .ok (.iload_n 3, 1) := by decide +kernel
theorem dX7_findCan_64 : decode cX7_findCan 64 = .ok (.iload_n 1, 1) := by decide +kernel
theorem dX7_findCan_65 : decode cX7_findCan 65 = .ok (.invokevirtual 138, 3) := by decide +kernel
theorem dX7_findCan_68 : decode cX7_findCan 68 = .ok (.ifCond .eq 7, 3) := by decide +kernel
theorem dX7_findCan_71 : decode cX7_findCan 71 = .ok (.iconst 1, 1) := by decide +kernel
theorem dX7_findCan_72 : decode cX7_findCan 72 = .ok (.goto 4, 3) := by decide +kernel
theorem dX7_findCan_75 : decode cX7_findCan 75 = .ok (.iconst 0, 1) := by decide +kernel
theorem dX7_findCan_76 : decode cX7_findCan 76 = .ok (.iadd, 1) := by decide +kernel
theorem dX7_findCan_77 : decode cX7_findCan 77 = .ok (.istore_n 2, 1) := by decide +kernel
theorem dX7_findCan_78 : decode cX7_findCan 78 = .ok (.iinc 3 1, 3) := by decide +kernel
theorem dX7_findCan_81 : decode cX7_findCan 81 = .ok (.goto (-65), 3) := by decide +kernel
theorem dX7_findCan_84 : decode cX7_findCan 84 = .ok (.aload_n 0, 1) := by decide +kernel
theorem dX7_findCan_85 : decode cX7_findCan 85 = .ok (.getfield 24, 3) := by decide +kernel
theorem dX7_findCan_88 : decode cX7_findCan 88 = .ok (.iload_n 2, 1) := by decide +kernel
theorem dX7_findCan_89 : decode cX7_findCan 89 = .ok (.iload_n 1, 1) := by decide +kernel
theorem dX7_findCan_90 : decode cX7_findCan 90 = .ok (.iastore, 1) := by decide +kernel
theorem dX7_findCan_91 : decode cX7_findCan 91 = .ok (.iinc 1 1, 3) := by decide +kernel
theorem dX7_findCan_94 : decode cX7_findCan 94 = .ok (.goto (-92), 3) := by decide +kernel
theorem dX7_findCan_97 : decode cX7_findCan 97 = .ok (.return_, 1) := by decide +kernel
theorem dX7_isWithAll_0 : decode cX7_isWithAll 0 = .ok (.iconst 1, 1) := by decide +kernel
theorem dX7_isWithAll_1 : decode cX7_isWithAll 1 = .ok (.istore_n 3, 1) := by decide +kernel
theorem dX7_isWithAll_2 : decode cX7_isWithAll 2 = .ok (.iconst 0, 1) := by decide +kernel
theorem dX7_isWithAll_3 : decode cX7_isWithAll 3 = .ok (.istore 4, 2) := by decide +kernel
theorem dX7_isWithAll_5 : decode cX7_isWithAll 5 = .ok (.iload 4, 2) := by decide +kernel
theorem dX7_isWithAll_7 : decode cX7_isWithAll 7 = .ok (.aload_n 0, 1) := by decide +kernel
theorem dX7_isWithAll_8 : decode cX7_isWithAll 8 = .ok (.getfield 7, 3) := by decide +kernel
theorem dX7_isWithAll_11 : decode cX7_isWithAll 11 = .ok (.iconst 0, 1) := by decide +kernel
theorem dX7_isWithAll_12 : decode cX7_isWithAll 12 = .ok (.iaload, 1) := by decide +kernel
theorem dX7_isWithAll_13 : decode cX7_isWithAll 13 = .ok (.if_icmp .ge 44, 3) := by decide +kernel
theorem dX7_isWithAll_16 : decode cX7_isWithAll 16 = .ok (.iload_n 3, 1) := by decide +kernel
theorem dX7_isWithAll_17 : decode cX7_isWithAll 17 = .ok (.ifCond .eq 32, 3) := by decide +kernel
theorem dX7_isWithAll_20 : decode cX7_isWithAll 20 = .ok (.iload_n 2, 1) := by decide +kernel
theorem dX7_isWithAll_21 : decode cX7_isWithAll 21 = .ok (.iload 4, 2) := by decide +kernel
theorem dX7_isWithAll_23 : decode cX7_isWithAll 23 = .ok (.invokestatic 141, 3) := by decide +kernel
theorem dX7_isWithAll_26 : decode cX7_isWithAll 26 = .ok (.ifCond .eq 19, 3) := by decide +kernel
theorem dX7_isWithAll_29 : decode cX7_isWithAll 29 = .ok (.iload 4, 2) := by decide +kernel
theorem dX7_isWithAll_31 : decode cX7_isWithAll 31 = .ok (.iload_n 1, 1) := by decide +kernel
theorem dX7_isWithAll_32 : decode cX7_isWithAll 32 = .ok (.if_icmp .eq 13, 3) := by decide +kernel
theorem dX7_isWithAll_35 : decode cX7_isWithAll 35 = .ok (.aload_n 0, 1) := by decide +kernel
theorem dX7_isWithAll_36 : decode cX7_isWithAll 36 = .ok (.iload_n 1, 1) := by decide +kernel
theorem dX7_isWithAll_37 : decode cX7_isWithAll 37 = .ok (.iload 4, 2) := by decide +kernel
theorem dX7_isWithAll_39 : decode cX7_isWithAll 39 = .ok (.invokevirtual 144, 3) := by decide +kernel
theorem dX7_isWithAll_42 : decode cX7_isWithAll 42 = .ok (.ifCond .eq 7, 3) := by decide +kernel
theorem dX7_isWithAll_45 : decode cX7_isWithAll 45 = .ok (.iconst 1, 1) := by decide +kernel
theorem dX7_isWithAll_46 : decode cX7_isWithAll 46 = .ok (.goto 4, 3) := by decide +kernel
theorem dX7_isWithAll_49 : decode cX7_isWithAll 49 = .ok (.iconst 0, 1) := by decide +kernel
theorem dX7_isWithAll_50 : decode cX7_isWithAll 50 = .ok (.istore_n 3, 1) := by decide +kernel
theorem dX7_isWithAll_51 : decode cX7_isWithAll 51 = .ok (.iinc 4 1, 3) := by decide +kernel
theorem dX7_isWithAll_54 : decode cX7_isWithAll 54 = .ok (.goto (-49), 3) := by decide +kernel
theorem dX7_isWithAll_57 : decode cX7_isWithAll 57 = .ok (.iload_n 3, 1) := by decide +kernel
theorem dX7_isWithAll_58 : decode cX7_isWithAll 58 = .ok (.ireturn, 1) := by decide +kernel
theorem dX7_lowest_0 : decode cX7_lowest 0 = .ok (.iconst 0, 1) := by decide +kernel
theorem dX7_lowest_1 : decode cX7_lowest 1 = .ok (.istore_n 1, 1) := by decide +kernel
theorem dX7_lowest_2 : decode cX7_lowest 2 = .ok (.iload_n 0, 1) := by decide +kernel
theorem dX7_lowest_3 : decode cX7_lowest 3 = .ok (.iload_n 1, 1) := by decide +kernel
theorem dX7_lowest_4 : decode cX7_lowest 4 = .ok (.invokestatic 141, 3) := by decide +kernel
theorem dX7_lowest_7 : decode cX7_lowest 7 = .ok (.ifCond .ne 9, 3) := by decide +kernel
theorem dX7_lowest_10 : decode cX7_lowest 10 = .ok (.iinc 1 1, 3) := by decide +kernel
theorem dX7_lowest_13 : decode cX7_lowest 13 = .ok (.goto (-11), 3) := by decide +kernel
theorem dX7_lowest_16 : decode cX7_lowest 16 = .ok (.iload_n 1, 1) := by decide +kernel
theorem dX7_lowest_17 : decode cX7_lowest 17 = .ok (.ireturn, 1) := by decide +kernel
theorem dX7_findRings_0 : decode cX7_findRings 0 = .ok (.aload_n 0, 1) := by decide +kernel
theorem dX7_findRings_1 : decode cX7_findRings 1 = .ok (.invokevirtual 147, 3) := by decide +kernel
theorem dX7_findRings_4 : decode cX7_findRings 4 = .ok (.aload_n 0, 1) := by decide +kernel
theorem dX7_findRings_5 : decode cX7_findRings 5 = .ok (.getfield 27, 3) := by decide +kernel
theorem dX7_findRings_8 : decode cX7_findRings 8 = .ok (.iconst 0, 1) := by decide +kernel
theorem dX7_findRings_9 : decode cX7_findRings 9 = .ok (.iconst 1, 1) := by decide +kernel
theorem dX7_findRings_10 : decode cX7_findRings 10 = .ok (.bastore, 1) := by decide +kernel
theorem dX7_findRings_11 : decode cX7_findRings 11 = .ok (.iconst 1, 1) := by decide +kernel
theorem dX7_findRings_12 : decode cX7_findRings 12 = .ok (.istore_n 1, 1) := by decide +kernel
theorem dX7_findRings_13 : decode cX7_findRings 13 = .ok (.iload_n 1, 1) := by decide +kernel
theorem dX7_findRings_14 : decode cX7_findRings 14 = .ok (.iconst 1, 1) := by decide +kernel
theorem dX7_findRings_15 : decode cX7_findRings 15 = .ok (.aload_n 0, 1) := by decide +kernel
theorem dX7_findRings_16 : decode cX7_findRings 16 = .ok (.getfield 7, 3) := by decide +kernel
theorem dX7_findRings_19 : decode cX7_findRings 19 = .ok (.iconst 0, 1) := by decide +kernel
theorem dX7_findRings_20 : decode cX7_findRings 20 = .ok (.iaload, 1) := by decide +kernel
theorem dX7_findRings_21 : decode cX7_findRings 21 = .ok (.ishl, 1) := by decide +kernel
theorem dX7_findRings_22 : decode cX7_findRings 22 = .ok (.if_icmp .ge 49, 3) := by decide +kernel
theorem dX7_findRings_25 : decode cX7_findRings 25 = .ok (.iload_n 1, 1) := by decide +kernel
theorem dX7_findRings_26 : decode cX7_findRings 26 = .ok (.invokestatic 150, 3) := by decide +kernel
theorem dX7_findRings_29 : decode cX7_findRings 29 = .ok (.istore_n 2, 1) := by decide +kernel
theorem dX7_findRings_30 : decode cX7_findRings 30 = .ok (.iload_n 1, 1) := by decide +kernel
theorem dX7_findRings_31 : decode cX7_findRings 31 = .ok (.iload_n 1, 1) := by decide +kernel
theorem dX7_findRings_32 : decode cX7_findRings 32 = .ok (.iconst 1, 1) := by decide +kernel
theorem dX7_findRings_33 : decode cX7_findRings 33 = .ok (.isub, 1) := by decide +kernel
theorem dX7_findRings_34 : decode cX7_findRings 34 = .ok (.iand, 1) := by decide +kernel
theorem dX7_findRings_35 : decode cX7_findRings 35 = .ok (.istore_n 3, 1) := by decide +kernel
theorem dX7_findRings_36 : decode cX7_findRings 36 = .ok (.aload_n 0, 1) := by decide +kernel
theorem dX7_findRings_37 : decode cX7_findRings 37 = .ok (.getfield 27, 3) := by decide +kernel
theorem dX7_findRings_40 : decode cX7_findRings 40 = .ok (.iload_n 1, 1) := by decide +kernel
theorem dX7_findRings_41 : decode cX7_findRings 41 = .ok (.aload_n 0, 1) := by decide +kernel
theorem dX7_findRings_42 : decode cX7_findRings 42 = .ok (.getfield 27, 3) := by decide +kernel
theorem dX7_findRings_45 : decode cX7_findRings 45 = .ok (.iload_n 3, 1) := by decide +kernel
theorem dX7_findRings_46 : decode cX7_findRings 46 = .ok (.baload, 1) := by decide +kernel
theorem dX7_findRings_47 : decode cX7_findRings 47 = .ok (.ifCond .eq 16, 3) := by decide +kernel
theorem dX7_findRings_50 : decode cX7_findRings 50 = .ok (.aload_n 0, 1) := by decide +kernel
theorem dX7_findRings_51 : decode cX7_findRings 51 = .ok (.iload_n 2, 1) := by decide +kernel
theorem dX7_findRings_52 : decode cX7_findRings 52 = .ok (.iload_n 3, 1) := by decide +kernel
theorem dX7_findRings_53 : decode cX7_findRings 53 = .ok (.invokevirtual 153, 3) := by decide +kernel
theorem dX7_findRings_56 : decode cX7_findRings 56 = .ok (.ifCond .eq 7, 3) := by decide +kernel
theorem dX7_findRings_59 : decode cX7_findRings 59 = .ok (.iconst 1, 1) := by decide +kernel
theorem dX7_findRings_60 : decode cX7_findRings 60 = .ok (.goto 4, 3) := by decide +kernel
theorem dX7_findRings_63 : decode cX7_findRings 63 = .ok (.iconst 0, 1) := by decide +kernel
theorem dX7_findRings_64 : decode cX7_findRings 64 = .ok (.bastore, 1) := by decide +kernel
theorem dX7_findRings_65 : decode cX7_findRings 65 = .ok (.iinc 1 1, 3) := by decide +kernel
theorem dX7_findRings_68 : decode cX7_findRings 68 = .ok (.goto (-55), 3) := by decide +kernel
theorem dX7_findRings_71 : decode cX7_findRings 71 = .ok (.return_, 1) := by decide +kernel
theorem dX7_ring_0 : decode cX7_ring 0 = .ok (.aload_n 0, 1) := by decide +kernel
theorem dX7_ring_1 : decode cX7_ring 1 = .ok (.iload_n 1, 1) := by decide +kernel
theorem dX7_ring_2 : decode cX7_ring 2 = .ok (.invokevirtual 156, 3) := by decide +kernel
theorem dX7_ring_5 : decode cX7_ring 5 = .ok (.ifCond .ne 10, 3) := by decide +kernel
theorem dX7_ring_8 : decode cX7_ring 8 = .ok (.aload_n 0, 1) := by decide +kernel
theorem dX7_ring_9 : decode cX7_ring 9 = .ok (.ldc 63, 2) := by decide +kernel
theorem dX7_ring_11 : decode cX7_ring 11 = .ok (.invokevirtual 94, 3) := by decide +kernel
theorem dX7_ring_14 : decode cX7_ring 14 = .ok (.ireturn, 1) := by decide +kernel
theorem dX7_ring_15 : decode cX7_ring 15 = .ok (.aload_n 0, 1) := by decide +kernel
theorem dX7_ring_16 : decode cX7_ring 16 = .ok (.invokevirtual 159, 3) := by decide +kernel
theorem dX7_ring_19 : decode cX7_ring 19 = .ok (.aload_n 0, 1) := by decide +kernel
theorem dX7_ring_20 : decode cX7_ring 20 = .ok (.getfield 27, 3) := by decide +kernel
theorem dX7_ring_23 : decode cX7_ring 23 = .ok (.iload_n 1, 1) := by decide +kernel
theorem dX7_ring_24 : decode cX7_ring 24 = .ok (.baload, 1) := by decide +kernel
theorem dX7_ring_25 : decode cX7_ring 25 = .ok (.ifCond .eq 7, 3) := by decide +kernel
theorem dX7_ring_28 : decode cX7_ring 28 = .ok (.iconst 1, 1) := by decide +kernel
theorem dX7_ring_29 : decode cX7_ring 29 = .ok (.goto 4, 3) := by decide +kernel
theorem dX7_ring_32 : decode cX7_ring 32 = .ok (.iconst 0, 1) := by decide +kernel
theorem dX7_ring_33 : decode cX7_ring 33 = .ok (.ireturn, 1) := by decide +kernel
theorem dX7_bestOf_0 : decode cX7_bestOf 0 = .ok (.aload_n 0, 1) := by decide +kernel
theorem dX7_bestOf_1 : decode cX7_bestOf 1 = .ok (.invokevirtual 159, 3) := by decide +kernel
theorem dX7_bestOf_4 : decode cX7_bestOf 4 = .ok (.iconst 0, 1) := by decide +kernel
theorem dX7_bestOf_5 : decode cX7_bestOf 5 = .ok (.istore_n 2, 1) := by decide +kernel
theorem dX7_bestOf_6 : decode cX7_bestOf 6 = .ok (.iconst 1, 1) := by decide +kernel
theorem dX7_bestOf_7 : decode cX7_bestOf 7 = .ok (.istore_n 3, 1) := by decide +kernel
theorem dX7_bestOf_8 : decode cX7_bestOf 8 = .ok (.iload_n 3, 1) := by decide +kernel
theorem dX7_bestOf_9 : decode cX7_bestOf 9 = .ok (.iload_n 1, 1) := by decide +kernel
theorem dX7_bestOf_10 : decode cX7_bestOf 10 = .ok (.if_icmp .gt 55, 3) := by decide +kernel
theorem dX7_bestOf_13 : decode cX7_bestOf 13 = .ok (.iload_n 3, 1) := by decide +kernel
theorem dX7_bestOf_14 : decode cX7_bestOf 14 = .ok (.iload_n 1, 1) := by decide +kernel
theorem dX7_bestOf_15 : decode cX7_bestOf 15 = .ok (.iconst (-1), 1) := by decide +kernel
theorem dX7_bestOf_16 : decode cX7_bestOf 16 = .ok (.ixor, 1) := by decide +kernel
theorem dX7_bestOf_17 : decode cX7_bestOf 17 = .ok (.iand, 1) := by decide +kernel
theorem dX7_bestOf_18 : decode cX7_bestOf 18 = .ok (.ifCond .ne 16, 3) := by decide +kernel
theorem dX7_bestOf_21 : decode cX7_bestOf 21 = .ok (.aload_n 0, 1) := by decide +kernel
theorem dX7_bestOf_22 : decode cX7_bestOf 22 = .ok (.getfield 27, 3) := by decide +kernel
theorem dX7_bestOf_25 : decode cX7_bestOf 25 = .ok (.iload_n 3, 1) := by decide +kernel
theorem dX7_bestOf_26 : decode cX7_bestOf 26 = .ok (.baload, 1) := by decide +kernel
theorem dX7_bestOf_27 : decode cX7_bestOf 27 = .ok (.ifCond .eq 7, 3) := by decide +kernel
theorem dX7_bestOf_30 : decode cX7_bestOf 30 = .ok (.iconst 1, 1) := by decide +kernel
theorem dX7_bestOf_31 : decode cX7_bestOf 31 = .ok (.goto 4, 3) := by decide +kernel
theorem dX7_bestOf_34 : decode cX7_bestOf 34 = .ok (.iconst 0, 1) := by decide +kernel
theorem dX7_bestOf_35 : decode cX7_bestOf 35 = .ok (.istore 4, 2) := by decide +kernel
theorem dX7_bestOf_37 : decode cX7_bestOf 37 = .ok (.iload 4, 2) := by decide +kernel
theorem dX7_bestOf_39 : decode cX7_bestOf 39 = .ok (.ifCond .eq 18, 3) := by decide +kernel
theorem dX7_bestOf_42 : decode cX7_bestOf 42 = .ok (.iload_n 3, 1) := by decide +kernel
theorem dX7_bestOf_43 : decode cX7_bestOf 43 = .ok (.invokestatic 162, 3) := by decide +kernel
theorem dX7_bestOf_46 : decode cX7_bestOf 46 = .ok (.iload_n 2, 1) := by decide +kernel
theorem dX7_bestOf_47 : decode cX7_bestOf 47 = .ok (.invokestatic 162, 3) := by decide +kernel
theorem dX7_bestOf_50 : decode cX7_bestOf 50 = .ok (.if_icmp .le 7, 3) := by decide +kernel
theorem dX7_bestOf_53 : decode cX7_bestOf 53 = .ok (.iload_n 3, 1) := by decide +kernel
theorem dX7_bestOf_54 : decode cX7_bestOf 54 = .ok (.goto 4, 3) := by decide +kernel
theorem dX7_bestOf_57 : decode cX7_bestOf 57 = .ok (.iload_n 2, 1) := by decide +kernel
theorem dX7_bestOf_58 : decode cX7_bestOf 58 = .ok (.istore_n 2, 1) := by decide +kernel
theorem dX7_bestOf_59 : decode cX7_bestOf 59 = .ok (.iinc 3 1, 3) := by decide +kernel
theorem dX7_bestOf_62 : decode cX7_bestOf 62 = .ok (.goto (-54), 3) := by decide +kernel
theorem dX7_bestOf_65 : decode cX7_bestOf 65 = .ok (.iload_n 2, 1) := by decide +kernel
theorem dX7_bestOf_66 : decode cX7_bestOf 66 = .ok (.ireturn, 1) := by decide +kernel
theorem dX7_most_0 : decode cX7_most 0 = .ok (.aload_n 0, 1) := by decide +kernel
theorem dX7_most_1 : decode cX7_most 1 = .ok (.iload_n 1, 1) := by decide +kernel
theorem dX7_most_2 : decode cX7_most 2 = .ok (.invokevirtual 156, 3) := by decide +kernel
theorem dX7_most_5 : decode cX7_most 5 = .ok (.ifCond .eq 14, 3) := by decide +kernel
theorem dX7_most_8 : decode cX7_most 8 = .ok (.aload_n 0, 1) := by decide +kernel
theorem dX7_most_9 : decode cX7_most 9 = .ok (.iload_n 1, 1) := by decide +kernel
theorem dX7_most_10 : decode cX7_most 10 = .ok (.invokevirtual 165, 3) := by decide +kernel
theorem dX7_most_13 : decode cX7_most 13 = .ok (.invokestatic 162, 3) := by decide +kernel
theorem dX7_most_16 : decode cX7_most 16 = .ok (.goto 9, 3) := by decide +kernel
theorem dX7_most_19 : decode cX7_most 19 = .ok (.aload_n 0, 1) := by decide +kernel
theorem dX7_most_20 : decode cX7_most 20 = .ok (.ldc 63, 2) := by decide +kernel
theorem dX7_most_22 : decode cX7_most 22 = .ok (.invokevirtual 94, 3) := by decide +kernel
theorem dX7_most_25 : decode cX7_most 25 = .ok (.ireturn, 1) := by decide +kernel
theorem dX7_best_0 : decode cX7_best 0 = .ok (.aload_n 0, 1) := by decide +kernel
theorem dX7_best_1 : decode cX7_best 1 = .ok (.iload_n 1, 1) := by decide +kernel
theorem dX7_best_2 : decode cX7_best 2 = .ok (.invokevirtual 156, 3) := by decide +kernel
theorem dX7_best_5 : decode cX7_best 5 = .ok (.ifCond .eq 11, 3) := by decide +kernel
theorem dX7_best_8 : decode cX7_best 8 = .ok (.aload_n 0, 1) := by decide +kernel
theorem dX7_best_9 : decode cX7_best 9 = .ok (.iload_n 1, 1) := by decide +kernel
theorem dX7_best_10 : decode cX7_best 10 = .ok (.invokevirtual 165, 3) := by decide +kernel
theorem dX7_best_13 : decode cX7_best 13 = .ok (.goto 9, 3) := by decide +kernel
theorem dX7_best_16 : decode cX7_best 16 = .ok (.aload_n 0, 1) := by decide +kernel
theorem dX7_best_17 : decode cX7_best 17 = .ok (.ldc 63, 2) := by decide +kernel
theorem dX7_best_19 : decode cX7_best 19 = .ok (.invokevirtual 94, 3) := by decide +kernel
theorem dX7_best_22 : decode cX7_best 22 = .ok (.ireturn, 1) := by decide +kernel
theorem dX7_fewestOf_0 : decode cX7_fewestOf 0 = .ok (.aload_n 0, 1) := by decide +kernel
theorem dX7_fewestOf_1 : decode cX7_fewestOf 1 = .ok (.invokevirtual 159, 3) := by decide +kernel
theorem dX7_fewestOf_4 : decode cX7_fewestOf 4 = .ok (.aload_n 0, 1) := by decide +kernel
theorem dX7_fewestOf_5 : decode cX7_fewestOf 5 = .ok (.getfield 30, 3) := by decide +kernel
theorem dX7_fewestOf_8 : decode cX7_fewestOf 8 = .ok (.iconst 0, 1) := by decide +kernel
theorem dX7_fewestOf_9 : decode cX7_fewestOf 9 = .ok (.iconst 0, 1) := by decide +kernel
theorem dX7_fewestOf_10 : decode cX7_fewestOf 10 = .ok (.iastore, 1) := by decide +kernel
theorem dX7_fewestOf_11 : decode cX7_fewestOf 11 = .ok (.iconst 1, 1) := by decide +kernel
theorem dX7_fewestOf_12 : decode cX7_fewestOf 12 = .ok (.istore_n 2, 1) := by decide +kernel
theorem dX7_fewestOf_13 : decode cX7_fewestOf 13 = .ok (.iload_n 2, 1) := by decide +kernel
theorem dX7_fewestOf_14 : decode cX7_fewestOf 14 = .ok (.iload_n 1, 1) := by decide +kernel
theorem dX7_fewestOf_15 : decode cX7_fewestOf 15 = .ok (.if_icmp .gt 126, 3) := by decide +kernel
theorem dX7_fewestOf_18 : decode cX7_fewestOf 18 = .ok (.iload_n 2, 1) := by decide +kernel
theorem dX7_fewestOf_19 : decode cX7_fewestOf 19 = .ok (.iload_n 1, 1) := by decide +kernel
theorem dX7_fewestOf_20 : decode cX7_fewestOf 20 = .ok (.iconst (-1), 1) := by decide +kernel
theorem dX7_fewestOf_21 : decode cX7_fewestOf 21 = .ok (.ixor, 1) := by decide +kernel
theorem dX7_fewestOf_22 : decode cX7_fewestOf 22 = .ok (.iand, 1) := by decide +kernel
theorem dX7_fewestOf_23 : decode cX7_fewestOf 23 = .ok (.ifCond .ne 112, 3) := by decide +kernel
theorem dX7_fewestOf_26 : decode cX7_fewestOf 26 = .ok (.iload_n 2, 1) := by decide +kernel
theorem dX7_fewestOf_27 : decode cX7_fewestOf 27 = .ok (.iload_n 2, 1) := by decide +kernel
theorem dX7_fewestOf_28 : decode cX7_fewestOf 28 = .ok (.ineg, 1) := by decide +kernel
theorem dX7_fewestOf_29 : decode cX7_fewestOf 29 = .ok (.iand, 1) := by decide +kernel
theorem dX7_fewestOf_30 : decode cX7_fewestOf 30 = .ok (.istore_n 3, 1) := by decide +kernel
theorem dX7_fewestOf_31 : decode cX7_fewestOf 31 = .ok (.iload_n 2, 1) := by decide +kernel
theorem dX7_fewestOf_32 : decode cX7_fewestOf 32 = .ok (.iload_n 2, 1) := by decide +kernel
theorem dX7_fewestOf_33 : decode cX7_fewestOf 33 = .ok (.iconst 1, 1) := by decide +kernel
theorem dX7_fewestOf_34 : decode cX7_fewestOf 34 = .ok (.isub, 1) := by decide +kernel
theorem dX7_fewestOf_35 : decode cX7_fewestOf 35 = .ok (.iand, 1) := by decide +kernel
theorem dX7_fewestOf_36 : decode cX7_fewestOf 36 = .ok (.istore 4, 2) := by decide +kernel
theorem dX7_fewestOf_38 : decode cX7_fewestOf 38 = .ok (.bipush 13, 2) := by decide +kernel
theorem dX7_fewestOf_40 : decode cX7_fewestOf 40 = .ok (.istore 5, 2) := by decide +kernel
theorem dX7_fewestOf_42 : decode cX7_fewestOf 42 = .ok (.iload 4, 2) := by decide +kernel
theorem dX7_fewestOf_44 : decode cX7_fewestOf 44 = .ok (.istore 6, 2) := by decide +kernel
theorem dX7_fewestOf_46 : decode cX7_fewestOf 46 = .ok (.iconst 1, 1) := by decide +kernel
theorem dX7_fewestOf_47 : decode cX7_fewestOf 47 = .ok (.istore 7, 2) := by decide +kernel
theorem dX7_fewestOf_49 : decode cX7_fewestOf 49 = .ok (.iload 7, 2) := by decide +kernel
theorem dX7_fewestOf_51 : decode cX7_fewestOf 51 = .ok (.ifCond .eq 76, 3) := by decide +kernel
theorem dX7_fewestOf_54 : decode cX7_fewestOf 54 = .ok (.aload_n 0, 1) := by decide +kernel
theorem dX7_fewestOf_55 : decode cX7_fewestOf 55 = .ok (.getfield 27, 3) := by decide +kernel
theorem dX7_fewestOf_58 : decode cX7_fewestOf 58 = .ok (.iload 6, 2) := by decide +kernel
theorem dX7_fewestOf_60 : decode cX7_fewestOf 60 = .ok (.iload_n 3, 1) := by decide +kernel
theorem dX7_fewestOf_61 : decode cX7_fewestOf 61 = .ok (.ior, 1) := by decide +kernel
theorem dX7_fewestOf_62 : decode cX7_fewestOf 62 = .ok (.baload, 1) := by decide +kernel
theorem dX7_fewestOf_63 : decode cX7_fewestOf 63 = .ok (.ifCond .eq 20, 3) := by decide +kernel
theorem dX7_fewestOf_66 : decode cX7_fewestOf 66 = .ok (.iconst 1, 1) := by decide +kernel
theorem dX7_fewestOf_67 : decode cX7_fewestOf 67 = .ok (.aload_n 0, 1) := by decide +kernel
theorem dX7_fewestOf_68 : decode cX7_fewestOf 68 = .ok (.getfield 30, 3) := by decide +kernel
theorem dX7_fewestOf_71 : decode cX7_fewestOf 71 = .ok (.iload 4, 2) := by decide +kernel
theorem dX7_fewestOf_73 : decode cX7_fewestOf 73 = .ok (.iload 6, 2) := by decide +kernel
theorem dX7_fewestOf_75 : decode cX7_fewestOf 75 = .ok (.iconst (-1), 1) := by decide +kernel
theorem dX7_fewestOf_76 : decode cX7_fewestOf 76 = .ok (.ixor, 1) := by decide +kernel
theorem dX7_fewestOf_77 : decode cX7_fewestOf 77 = .ok (.iand, 1) := by decide +kernel
theorem dX7_fewestOf_78 : decode cX7_fewestOf 78 = .ok (.iaload, 1) := by decide +kernel
theorem dX7_fewestOf_79 : decode cX7_fewestOf 79 = .ok (.iadd, 1) := by decide +kernel
theorem dX7_fewestOf_80 : decode cX7_fewestOf 80 = .ok (.goto 5, 3) := by decide +kernel
theorem dX7_fewestOf_83 : decode cX7_fewestOf 83 = .ok (.bipush 13, 2) := by decide +kernel
theorem dX7_fewestOf_85 : decode cX7_fewestOf 85 = .ok (.istore 8, 2) := by decide +kernel
theorem dX7_fewestOf_87 : decode cX7_fewestOf 87 = .ok (.iload 8, 2) := by decide +kernel
theorem dX7_fewestOf_89 : decode cX7_fewestOf 89 = .ok (.iload 5, 2) := by decide +kernel
theorem dX7_fewestOf_91 : decode cX7_fewestOf 91 = .ok (.if_icmp .ge 8, 3) := by decide +kernel
theorem dX7_fewestOf_94 : decode cX7_fewestOf 94 = .ok (.iload 8, 2) := by decide +kernel
theorem dX7_fewestOf_96 : decode cX7_fewestOf 96 = .ok (.goto 5, 3) := by decide +kernel
theorem dX7_fewestOf_99 : decode cX7_fewestOf 99 = .ok (.iload 5, 2) := by decide +kernel
theorem dX7_fewestOf_101 : decode cX7_fewestOf 101 = .ok (.istore 5, 2) := by decide +kernel
theorem dX7_fewestOf_103 : decode cX7_fewestOf 103 = .ok (.iload 6, 2) := by decide +kernel
theorem dX7_fewestOf_105 : decode cX7_fewestOf 105 = .ok (.ifCond .eq 7, 3) := by decide +kernel
theorem dX7_fewestOf_108 : decode cX7_fewestOf 108 = .ok (.iconst 1, 1) := by decide +kernel
theorem dX7_fewestOf_109 : decode cX7_fewestOf 109 = .ok (.goto 4, 3) := by decide +kernel
theorem dX7_fewestOf_112 : decode cX7_fewestOf 112 = .ok (.iconst 0, 1) := by decide +kernel
theorem dX7_fewestOf_113 : decode cX7_fewestOf 113 = .ok (.istore 7, 2) := by decide +kernel
theorem dX7_fewestOf_115 : decode cX7_fewestOf 115 = .ok (.iload 6, 2) := by decide +kernel
theorem dX7_fewestOf_117 : decode cX7_fewestOf 117 = .ok (.iconst 1, 1) := by decide +kernel
theorem dX7_fewestOf_118 : decode cX7_fewestOf 118 = .ok (.isub, 1) := by decide +kernel
theorem dX7_fewestOf_119 : decode cX7_fewestOf 119 = .ok (.iload 4, 2) := by decide +kernel
theorem dX7_fewestOf_121 : decode cX7_fewestOf 121 = .ok (.iand, 1) := by decide +kernel
theorem dX7_fewestOf_122 : decode cX7_fewestOf 122 = .ok (.istore 6, 2) := by decide +kernel
theorem dX7_fewestOf_124 : decode cX7_fewestOf 124 = .ok (.goto (-75), 3) := by decide +kernel
theorem dX7_fewestOf_127 : decode cX7_fewestOf 127 = .ok (.aload_n 0, 1) := by decide +kernel
theorem dX7_fewestOf_128 : decode cX7_fewestOf 128 = .ok (.getfield 30, 3) := by decide +kernel
theorem dX7_fewestOf_131 : decode cX7_fewestOf 131 = .ok (.iload_n 2, 1) := by decide +kernel
theorem dX7_fewestOf_132 : decode cX7_fewestOf 132 = .ok (.iload 5, 2) := by decide +kernel
theorem dX7_fewestOf_134 : decode cX7_fewestOf 134 = .ok (.iastore, 1) := by decide +kernel
theorem dX7_fewestOf_135 : decode cX7_fewestOf 135 = .ok (.iinc 2 1, 3) := by decide +kernel
theorem dX7_fewestOf_138 : decode cX7_fewestOf 138 = .ok (.goto (-125), 3) := by decide +kernel
theorem dX7_fewestOf_141 : decode cX7_fewestOf 141 = .ok (.aload_n 0, 1) := by decide +kernel
theorem dX7_fewestOf_142 : decode cX7_fewestOf 142 = .ok (.getfield 30, 3) := by decide +kernel
theorem dX7_fewestOf_145 : decode cX7_fewestOf 145 = .ok (.iload_n 1, 1) := by decide +kernel
theorem dX7_fewestOf_146 : decode cX7_fewestOf 146 = .ok (.iaload, 1) := by decide +kernel
theorem dX7_fewestOf_147 : decode cX7_fewestOf 147 = .ok (.ireturn, 1) := by decide +kernel
theorem dX7_fewest_0 : decode cX7_fewest 0 = .ok (.aload_n 0, 1) := by decide +kernel
theorem dX7_fewest_1 : decode cX7_fewest 1 = .ok (.iload_n 1, 1) := by decide +kernel
theorem dX7_fewest_2 : decode cX7_fewest 2 = .ok (.invokevirtual 156, 3) := by decide +kernel
theorem dX7_fewest_5 : decode cX7_fewest 5 = .ok (.ifCond .eq 11, 3) := by decide +kernel
theorem dX7_fewest_8 : decode cX7_fewest 8 = .ok (.aload_n 0, 1) := by decide +kernel
theorem dX7_fewest_9 : decode cX7_fewest 9 = .ok (.iload_n 1, 1) := by decide +kernel
theorem dX7_fewest_10 : decode cX7_fewest 10 = .ok (.invokevirtual 168, 3) := by decide +kernel
theorem dX7_fewest_13 : decode cX7_fewest 13 = .ok (.goto 9, 3) := by decide +kernel
theorem dX7_fewest_16 : decode cX7_fewest 16 = .ok (.aload_n 0, 1) := by decide +kernel
theorem dX7_fewest_17 : decode cX7_fewest 17 = .ok (.ldc 63, 2) := by decide +kernel
theorem dX7_fewest_19 : decode cX7_fewest 19 = .ok (.invokevirtual 94, 3) := by decide +kernel
theorem dX7_fewest_22 : decode cX7_fewest 22 = .ok (.ireturn, 1) := by decide +kernel
theorem dX7_alone_0 : decode cX7_alone 0 = .ok (.aload_n 0, 1) := by decide +kernel
theorem dX7_alone_1 : decode cX7_alone 1 = .ok (.iload_n 1, 1) := by decide +kernel
theorem dX7_alone_2 : decode cX7_alone 2 = .ok (.invokevirtual 156, 3) := by decide +kernel
theorem dX7_alone_5 : decode cX7_alone 5 = .ok (.ifCond .ne 10, 3) := by decide +kernel
theorem dX7_alone_8 : decode cX7_alone 8 = .ok (.aload_n 0, 1) := by decide +kernel
theorem dX7_alone_9 : decode cX7_alone 9 = .ok (.ldc 63, 2) := by decide +kernel
theorem dX7_alone_11 : decode cX7_alone 11 = .ok (.invokevirtual 94, 3) := by decide +kernel
theorem dX7_alone_14 : decode cX7_alone 14 = .ok (.ireturn, 1) := by decide +kernel
theorem dX7_alone_15 : decode cX7_alone 15 = .ok (.aload_n 0, 1) := by decide +kernel
theorem dX7_alone_16 : decode cX7_alone 16 = .ok (.invokevirtual 147, 3) := by decide +kernel
theorem dX7_alone_19 : decode cX7_alone 19 = .ok (.iconst 0, 1) := by decide +kernel
theorem dX7_alone_20 : decode cX7_alone 20 = .ok (.istore_n 2, 1) := by decide +kernel
theorem dX7_alone_21 : decode cX7_alone 21 = .ok (.iconst 0, 1) := by decide +kernel
theorem dX7_alone_22 : decode cX7_alone 22 = .ok (.istore_n 3, 1) := by decide +kernel
theorem dX7_alone_23 : decode cX7_alone 23 = .ok (.iload_n 3, 1) := by decide +kernel
theorem dX7_alone_24 : decode cX7_alone 24 = .ok (.aload_n 0, 1) := by decide +kernel
theorem dX7_alone_25 : decode cX7_alone 25 = .ok (.getfield 7, 3) := by decide +kernel
theorem dX7_alone_28 : decode cX7_alone 28 = .ok (.iconst 0, 1) := by decide +kernel
theorem dX7_alone_29 : decode cX7_alone 29 = .ok (.iaload, 1) := by decide +kernel
theorem dX7_alone_30 : decode cX7_alone 30 = .ok (.if_icmp .ge 88, 3) := by decide +kernel
theorem dX7_alone_33 : decode cX7_alone 33 = .ok (.iload_n 1, 1) := by decide +kernel
theorem dX7_alone_34 : decode cX7_alone 34 = .ok (.iload_n 3, 1) := by decide +kernel
theorem dX7_alone_35 : decode cX7_alone 35 = .ok (.invokestatic 141, 3) := by decide +kernel
theorem dX7_alone_38 : decode cX7_alone 38 = .ok (.istore 4, 2) := by decide +kernel
theorem dX7_alone_40 : decode cX7_alone 40 = .ok (.iconst 0, 1) := by decide +kernel
theorem dX7_alone_41 : decode cX7_alone 41 = .ok (.istore 5, 2) := by decide +kernel
theorem dX7_alone_43 : decode cX7_alone 43 = .ok (.iload 5, 2) := by decide +kernel
theorem dX7_alone_45 : decode cX7_alone 45 = .ok (.aload_n 0, 1) := by decide +kernel
theorem dX7_alone_46 : decode cX7_alone 46 = .ok (.getfield 7, 3) := by decide +kernel
theorem dX7_alone_49 : decode cX7_alone 49 = .ok (.iconst 0, 1) := by decide +kernel
theorem dX7_alone_50 : decode cX7_alone 50 = .ok (.iaload, 1) := by decide +kernel
theorem dX7_alone_51 : decode cX7_alone 51 = .ok (.if_icmp .ge 46, 3) := by decide +kernel
theorem dX7_alone_54 : decode cX7_alone 54 = .ok (.iload 4, 2) := by decide +kernel
theorem dX7_alone_56 : decode cX7_alone 56 = .ok (.ifCond .eq 32, 3) := by decide +kernel
theorem dX7_alone_59 : decode cX7_alone 59 = .ok (.iload 5, 2) := by decide +kernel
theorem dX7_alone_61 : decode cX7_alone 61 = .ok (.iload_n 3, 1) := by decide +kernel
theorem dX7_alone_62 : decode cX7_alone 62 = .ok (.if_icmp .eq 22, 3) := by decide +kernel
theorem dX7_alone_65 : decode cX7_alone 65 = .ok (.iload_n 1, 1) := by decide +kernel
theorem dX7_alone_66 : decode cX7_alone 66 = .ok (.iload 5, 2) := by decide +kernel
theorem dX7_alone_68 : decode cX7_alone 68 = .ok (.invokestatic 141, 3) := by decide +kernel
theorem dX7_alone_71 : decode cX7_alone 71 = .ok (.ifCond .eq 13, 3) := by decide +kernel
theorem dX7_alone_74 : decode cX7_alone 74 = .ok (.aload_n 0, 1) := by decide +kernel
theorem dX7_alone_75 : decode cX7_alone 75 = .ok (.iload_n 3, 1) := by decide +kernel
theorem dX7_alone_76 : decode cX7_alone 76 = .ok (.iload 5, 2) := by decide +kernel
theorem dX7_alone_78 : decode cX7_alone 78 = .ok (.invokevirtual 144, 3) := by decide +kernel
theorem dX7_alone_81 : decode cX7_alone 81 = .ok (.ifCond .ne 7, 3) := by decide +kernel
theorem dX7_alone_84 : decode cX7_alone 84 = .ok (.iconst 1, 1) := by decide +kernel
theorem dX7_alone_85 : decode cX7_alone 85 = .ok (.goto 4, 3) := by decide +kernel
theorem dX7_alone_88 : decode cX7_alone 88 = .ok (.iconst 0, 1) := by decide +kernel
theorem dX7_alone_89 : decode cX7_alone 89 = .ok (.istore 4, 2) := by decide +kernel
theorem dX7_alone_91 : decode cX7_alone 91 = .ok (.iinc 5 1, 3) := by decide +kernel
theorem dX7_alone_94 : decode cX7_alone 94 = .ok (.goto (-51), 3) := by decide +kernel
theorem dX7_alone_97 : decode cX7_alone 97 = .ok (.iload_n 2, 1) := by decide +kernel
theorem dX7_alone_98 : decode cX7_alone 98 = .ok (.iload 4, 2) := by decide +kernel
theorem dX7_alone_100 : decode cX7_alone 100 = .ok (.ifCond .eq 9, 3) := by decide +kernel
theorem dX7_alone_103 : decode cX7_alone 103 = .ok (.iconst 1, 1) := by decide +kernel
theorem dX7_alone_104 : decode cX7_alone 104 = .ok (.iload_n 3, 1) := by decide +kernel
theorem dX7_alone_105 : decode cX7_alone 105 = .ok (.ishl, 1) := by decide +kernel
theorem dX7_alone_106 : decode cX7_alone 106 = .ok (.goto 4, 3) := by decide +kernel
theorem dX7_alone_109 : decode cX7_alone 109 = .ok (.iconst 0, 1) := by decide +kernel
theorem dX7_alone_110 : decode cX7_alone 110 = .ok (.ior, 1) := by decide +kernel
theorem dX7_alone_111 : decode cX7_alone 111 = .ok (.istore_n 2, 1) := by decide +kernel
theorem dX7_alone_112 : decode cX7_alone 112 = .ok (.iinc 3 1, 3) := by decide +kernel
theorem dX7_alone_115 : decode cX7_alone 115 = .ok (.goto (-92), 3) := by decide +kernel
theorem dX7_alone_118 : decode cX7_alone 118 = .ok (.iload_n 2, 1) := by decide +kernel
theorem dX7_alone_119 : decode cX7_alone 119 = .ok (.ireturn, 1) := by decide +kernel
theorem dX7_isAheadOf_0 : decode cX7_isAheadOf 0 = .ok (.iconst 1, 1) := by decide +kernel
theorem dX7_isAheadOf_1 : decode cX7_isAheadOf 1 = .ok (.istore_n 3, 1) := by decide +kernel
theorem dX7_isAheadOf_2 : decode cX7_isAheadOf 2 = .ok (.iconst 0, 1) := by decide +kernel
theorem dX7_isAheadOf_3 : decode cX7_isAheadOf 3 = .ok (.istore 4, 2) := by decide +kernel
theorem dX7_isAheadOf_5 : decode cX7_isAheadOf 5 = .ok (.iload 4, 2) := by decide +kernel
theorem dX7_isAheadOf_7 : decode cX7_isAheadOf 7 = .ok (.aload_n 0, 1) := by decide +kernel
theorem dX7_isAheadOf_8 : decode cX7_isAheadOf 8 = .ok (.getfield 7, 3) := by decide +kernel
theorem dX7_isAheadOf_11 : decode cX7_isAheadOf 11 = .ok (.iconst 0, 1) := by decide +kernel
theorem dX7_isAheadOf_12 : decode cX7_isAheadOf 12 = .ok (.iaload, 1) := by decide +kernel
theorem dX7_isAheadOf_13 : decode cX7_isAheadOf 13 = .ok (.if_icmp .ge 43, 3) := by decide +kernel
theorem dX7_isAheadOf_16 : decode cX7_isAheadOf 16 = .ok (.iload_n 3, 1) := by decide +kernel
theorem dX7_isAheadOf_17 : decode cX7_isAheadOf 17 = .ok (.ifCond .eq 31, 3) := by decide +kernel
theorem dX7_isAheadOf_20 : decode cX7_isAheadOf 20 = .ok (.iload_n 2, 1) := by decide +kernel
theorem dX7_isAheadOf_21 : decode cX7_isAheadOf 21 = .ok (.iload 4, 2) := by decide +kernel
theorem dX7_isAheadOf_23 : decode cX7_isAheadOf 23 = .ok (.invokestatic 141, 3) := by decide +kernel
theorem dX7_isAheadOf_26 : decode cX7_isAheadOf 26 = .ok (.ifCond .eq 18, 3) := by decide +kernel
theorem dX7_isAheadOf_29 : decode cX7_isAheadOf 29 = .ok (.aload_n 0, 1) := by decide +kernel
theorem dX7_isAheadOf_30 : decode cX7_isAheadOf 30 = .ok (.getfield 20, 3) := by decide +kernel
theorem dX7_isAheadOf_33 : decode cX7_isAheadOf 33 = .ok (.bipush 12, 2) := by decide +kernel
theorem dX7_isAheadOf_35 : decode cX7_isAheadOf 35 = .ok (.iload_n 1, 1) := by decide +kernel
theorem dX7_isAheadOf_36 : decode cX7_isAheadOf 36 = .ok (.imul, 1) := by decide +kernel
theorem dX7_isAheadOf_37 : decode cX7_isAheadOf 37 = .ok (.iload 4, 2) := by decide +kernel
theorem dX7_isAheadOf_39 : decode cX7_isAheadOf 39 = .ok (.iadd, 1) := by decide +kernel
theorem dX7_isAheadOf_40 : decode cX7_isAheadOf 40 = .ok (.baload, 1) := by decide +kernel
theorem dX7_isAheadOf_41 : decode cX7_isAheadOf 41 = .ok (.ifCond .eq 7, 3) := by decide +kernel
theorem dX7_isAheadOf_44 : decode cX7_isAheadOf 44 = .ok (.iconst 1, 1) := by decide +kernel
theorem dX7_isAheadOf_45 : decode cX7_isAheadOf 45 = .ok (.goto 4, 3) := by decide +kernel
theorem dX7_isAheadOf_48 : decode cX7_isAheadOf 48 = .ok (.iconst 0, 1) := by decide +kernel
theorem dX7_isAheadOf_49 : decode cX7_isAheadOf 49 = .ok (.istore_n 3, 1) := by decide +kernel
theorem dX7_isAheadOf_50 : decode cX7_isAheadOf 50 = .ok (.iinc 4 1, 3) := by decide +kernel
theorem dX7_isAheadOf_53 : decode cX7_isAheadOf 53 = .ok (.goto (-48), 3) := by decide +kernel
theorem dX7_isAheadOf_56 : decode cX7_isAheadOf 56 = .ok (.iload_n 3, 1) := by decide +kernel
theorem dX7_isAheadOf_57 : decode cX7_isAheadOf 57 = .ok (.ireturn, 1) := by decide +kernel
theorem dX7_findOrders_0 : decode cX7_findOrders 0 = .ok (.aload_n 0, 1) := by decide +kernel
theorem dX7_findOrders_1 : decode cX7_findOrders 1 = .ok (.invokevirtual 147, 3) := by decide +kernel
theorem dX7_findOrders_4 : decode cX7_findOrders 4 = .ok (.aload_n 0, 1) := by decide +kernel
theorem dX7_findOrders_5 : decode cX7_findOrders 5 = .ok (.getfield 30, 3) := by decide +kernel
theorem dX7_findOrders_8 : decode cX7_findOrders 8 = .ok (.iconst 0, 1) := by decide +kernel
theorem dX7_findOrders_9 : decode cX7_findOrders 9 = .ok (.iconst 1, 1) := by decide +kernel
theorem dX7_findOrders_10 : decode cX7_findOrders 10 = .ok (.iastore, 1) := by decide +kernel
theorem dX7_findOrders_11 : decode cX7_findOrders 11 = .ok (.iconst 1, 1) := by decide +kernel
theorem dX7_findOrders_12 : decode cX7_findOrders 12 = .ok (.istore_n 2, 1) := by decide +kernel
theorem dX7_findOrders_13 : decode cX7_findOrders 13 = .ok (.iload_n 2, 1) := by decide +kernel
theorem dX7_findOrders_14 : decode cX7_findOrders 14 = .ok (.iload_n 1, 1) := by decide +kernel
theorem dX7_findOrders_15 : decode cX7_findOrders 15 = .ok (.if_icmp .gt 90, 3) := by decide +kernel
theorem dX7_findOrders_18 : decode cX7_findOrders 18 = .ok (.iload_n 2, 1) := by decide +kernel
theorem dX7_findOrders_19 : decode cX7_findOrders 19 = .ok (.iload_n 1, 1) := by decide +kernel
theorem dX7_findOrders_20 : decode cX7_findOrders 20 = .ok (.iconst (-1), 1) := by decide +kernel
theorem dX7_findOrders_21 : decode cX7_findOrders 21 = .ok (.ixor, 1) := by decide +kernel
theorem dX7_findOrders_22 : decode cX7_findOrders 22 = .ok (.iand, 1) := by decide +kernel
theorem dX7_findOrders_23 : decode cX7_findOrders 23 = .ok (.ifCond .ne 76, 3) := by decide +kernel
theorem dX7_findOrders_26 : decode cX7_findOrders 26 = .ok (.iconst 0, 1) := by decide +kernel
theorem dX7_findOrders_27 : decode cX7_findOrders 27 = .ok (.istore_n 3, 1) := by decide +kernel
theorem dX7_findOrders_28 : decode cX7_findOrders 28 = .ok (.iconst 0, 1) := by decide +kernel
theorem dX7_findOrders_29 : decode cX7_findOrders 29 = .ok (.istore 4, 2) := by decide +kernel
theorem dX7_findOrders_31 : decode cX7_findOrders 31 = .ok (.iload 4, 2) := by decide +kernel
theorem dX7_findOrders_33 : decode cX7_findOrders 33 = .ok (.aload_n 0, 1) := by decide +kernel
theorem dX7_findOrders_34 : decode cX7_findOrders 34 = .ok (.getfield 7, 3) := by decide +kernel
theorem dX7_findOrders_37 : decode cX7_findOrders 37 = .ok (.iconst 0, 1) := by decide +kernel
theorem dX7_findOrders_38 : decode cX7_findOrders 38 = .ok (.iaload, 1) := by decide +kernel
theorem dX7_findOrders_39 : decode cX7_findOrders 39 = .ok (.if_icmp .ge 53, 3) := by decide +kernel
theorem dX7_findOrders_42 : decode cX7_findOrders 42 = .ok (.iload_n 2, 1) := by decide +kernel
theorem dX7_findOrders_43 : decode cX7_findOrders 43 = .ok (.iconst 1, 1) := by decide +kernel
theorem dX7_findOrders_44 : decode cX7_findOrders 44 = .ok (.iload 4, 2) := by decide +kernel
theorem dX7_findOrders_46 : decode cX7_findOrders 46 = .ok (.ishl, 1) := by decide +kernel
theorem dX7_findOrders_47 : decode cX7_findOrders 47 = .ok (.iconst (-1), 1) := by decide +kernel
theorem dX7_findOrders_48 : decode cX7_findOrders 48 = .ok (.ixor, 1) := by decide +kernel
theorem dX7_findOrders_49 : decode cX7_findOrders 49 = .ok (.iand, 1) := by decide +kernel
theorem dX7_findOrders_50 : decode cX7_findOrders 50 = .ok (.istore 5, 2) := by decide +kernel
theorem dX7_findOrders_52 : decode cX7_findOrders 52 = .ok (.iload_n 3, 1) := by decide +kernel
theorem dX7_findOrders_53 : decode cX7_findOrders 53 = .ok (.iload_n 2, 1) := by decide +kernel
theorem dX7_findOrders_54 : decode cX7_findOrders 54 = .ok (.iload 4, 2) := by decide +kernel
theorem dX7_findOrders_56 : decode cX7_findOrders 56 = .ok (.invokestatic 141, 3) := by decide +kernel
theorem dX7_findOrders_59 : decode cX7_findOrders 59 = .ok (.ifCond .eq 24, 3) := by decide +kernel
theorem dX7_findOrders_62 : decode cX7_findOrders 62 = .ok (.aload_n 0, 1) := by decide +kernel
theorem dX7_findOrders_63 : decode cX7_findOrders 63 = .ok (.iload 4, 2) := by decide +kernel
theorem dX7_findOrders_65 : decode cX7_findOrders 65 = .ok (.iload 5, 2) := by decide +kernel
theorem dX7_findOrders_67 : decode cX7_findOrders 67 = .ok (.invokevirtual 171, 3) := by decide +kernel
theorem dX7_findOrders_70 : decode cX7_findOrders 70 = .ok (.ifCond .eq 13, 3) := by decide +kernel
theorem dX7_findOrders_73 : decode cX7_findOrders 73 = .ok (.aload_n 0, 1) := by decide +kernel
theorem dX7_findOrders_74 : decode cX7_findOrders 74 = .ok (.getfield 30, 3) := by decide +kernel
theorem dX7_findOrders_77 : decode cX7_findOrders 77 = .ok (.iload 5, 2) := by decide +kernel
theorem dX7_findOrders_79 : decode cX7_findOrders 79 = .ok (.iaload, 1) := by decide +kernel
theorem dX7_findOrders_80 : decode cX7_findOrders 80 = .ok (.goto 4, 3) := by decide +kernel
theorem dX7_findOrders_83 : decode cX7_findOrders 83 = .ok (.iconst 0, 1) := by decide +kernel
theorem dX7_findOrders_84 : decode cX7_findOrders 84 = .ok (.iadd, 1) := by decide +kernel
theorem dX7_findOrders_85 : decode cX7_findOrders 85 = .ok (.istore_n 3, 1) := by decide +kernel
theorem dX7_findOrders_86 : decode cX7_findOrders 86 = .ok (.iinc 4 1, 3) := by decide +kernel
theorem dX7_findOrders_89 : decode cX7_findOrders 89 = .ok (.goto (-58), 3) := by decide +kernel
theorem dX7_findOrders_92 : decode cX7_findOrders 92 = .ok (.aload_n 0, 1) := by decide +kernel
theorem dX7_findOrders_93 : decode cX7_findOrders 93 = .ok (.getfield 30, 3) := by decide +kernel
theorem dX7_findOrders_96 : decode cX7_findOrders 96 = .ok (.iload_n 2, 1) := by decide +kernel
theorem dX7_findOrders_97 : decode cX7_findOrders 97 = .ok (.iload_n 3, 1) := by decide +kernel
theorem dX7_findOrders_98 : decode cX7_findOrders 98 = .ok (.iastore, 1) := by decide +kernel
theorem dX7_findOrders_99 : decode cX7_findOrders 99 = .ok (.iinc 2 1, 3) := by decide +kernel
theorem dX7_findOrders_102 : decode cX7_findOrders 102 = .ok (.goto (-89), 3) := by decide +kernel
theorem dX7_findOrders_105 : decode cX7_findOrders 105 = .ok (.return_, 1) := by decide +kernel
theorem dX7_orders_0 : decode cX7_orders 0 = .ok (.aload_n 0, 1) := by decide +kernel
theorem dX7_orders_1 : decode cX7_orders 1 = .ok (.iload_n 1, 1) := by decide +kernel
theorem dX7_orders_2 : decode cX7_orders 2 = .ok (.invokevirtual 156, 3) := by decide +kernel
theorem dX7_orders_5 : decode cX7_orders 5 = .ok (.ifCond .ne 10, 3) := by decide +kernel
theorem dX7_orders_8 : decode cX7_orders 8 = .ok (.aload_n 0, 1) := by decide +kernel
theorem dX7_orders_9 : decode cX7_orders 9 = .ok (.ldc 63, 2) := by decide +kernel
theorem dX7_orders_11 : decode cX7_orders 11 = .ok (.invokevirtual 94, 3) := by decide +kernel
theorem dX7_orders_14 : decode cX7_orders 14 = .ok (.ireturn, 1) := by decide +kernel
theorem dX7_orders_15 : decode cX7_orders 15 = .ok (.iload_n 1, 1) := by decide +kernel
theorem dX7_orders_16 : decode cX7_orders 16 = .ok (.invokestatic 162, 3) := by decide +kernel
theorem dX7_orders_19 : decode cX7_orders 19 = .ok (.bipush 8, 2) := by decide +kernel
theorem dX7_orders_21 : decode cX7_orders 21 = .ok (.if_icmp .le 10, 3) := by decide +kernel
theorem dX7_orders_24 : decode cX7_orders 24 = .ok (.aload_n 0, 1) := by decide +kernel
theorem dX7_orders_25 : decode cX7_orders 25 = .ok (.ldc 174, 2) := by decide +kernel
theorem dX7_orders_27 : decode cX7_orders 27 = .ok (.invokevirtual 94, 3) := by decide +kernel
theorem dX7_orders_30 : decode cX7_orders 30 = .ok (.ireturn, 1) := by decide +kernel
theorem dX7_orders_31 : decode cX7_orders 31 = .ok (.aload_n 0, 1) := by decide +kernel
theorem dX7_orders_32 : decode cX7_orders 32 = .ok (.iload_n 1, 1) := by decide +kernel
theorem dX7_orders_33 : decode cX7_orders 33 = .ok (.invokevirtual 175, 3) := by decide +kernel
theorem dX7_orders_36 : decode cX7_orders 36 = .ok (.aload_n 0, 1) := by decide +kernel
theorem dX7_orders_37 : decode cX7_orders 37 = .ok (.getfield 30, 3) := by decide +kernel
theorem dX7_orders_40 : decode cX7_orders 40 = .ok (.iload_n 1, 1) := by decide +kernel
theorem dX7_orders_41 : decode cX7_orders 41 = .ok (.iaload, 1) := by decide +kernel
theorem dX7_orders_42 : decode cX7_orders 42 = .ok (.ireturn, 1) := by decide +kernel
theorem dX7_ith_0 : decode cX7_ith 0 = .ok (.aload_n 0, 1) := by decide +kernel
theorem dX7_ith_1 : decode cX7_ith 1 = .ok (.iload_n 1, 1) := by decide +kernel
theorem dX7_ith_2 : decode cX7_ith 2 = .ok (.invokevirtual 156, 3) := by decide +kernel
theorem dX7_ith_5 : decode cX7_ith 5 = .ok (.ifCond .eq 13, 3) := by decide +kernel
theorem dX7_ith_8 : decode cX7_ith 8 = .ok (.iload_n 2, 1) := by decide +kernel
theorem dX7_ith_9 : decode cX7_ith 9 = .ok (.iconst 0, 1) := by decide +kernel
theorem dX7_ith_10 : decode cX7_ith 10 = .ok (.bipush 7, 2) := by decide +kernel
theorem dX7_ith_12 : decode cX7_ith 12 = .ok (.invokestatic 64, 3) := by decide +kernel
theorem dX7_ith_15 : decode cX7_ith 15 = .ok (.ifCond .ne 10, 3) := by decide +kernel
theorem dX7_ith_18 : decode cX7_ith 18 = .ok (.aload_n 0, 1) := by decide +kernel
theorem dX7_ith_19 : decode cX7_ith 19 = .ok (.ldc 63, 2) := by decide +kernel
theorem dX7_ith_21 : decode cX7_ith 21 = .ok (.invokevirtual 94, 3) := by decide +kernel
theorem dX7_ith_24 : decode cX7_ith 24 = .ok (.ireturn, 1) := by decide +kernel
theorem dX7_ith_25 : decode cX7_ith 25 = .ok (.iload_n 1, 1) := by decide +kernel
theorem dX7_ith_26 : decode cX7_ith 26 = .ok (.invokestatic 162, 3) := by decide +kernel
theorem dX7_ith_29 : decode cX7_ith 29 = .ok (.bipush 8, 2) := by decide +kernel
theorem dX7_ith_31 : decode cX7_ith 31 = .ok (.if_icmp .le 10, 3) := by decide +kernel
theorem dX7_ith_34 : decode cX7_ith 34 = .ok (.aload_n 0, 1) := by decide +kernel
theorem dX7_ith_35 : decode cX7_ith 35 = .ok (.ldc 174, 2) := by decide +kernel
theorem dX7_ith_37 : decode cX7_ith 37 = .ok (.invokevirtual 94, 3) := by decide +kernel
theorem dX7_ith_40 : decode cX7_ith 40 = .ok (.ireturn, 1) := by decide +kernel
theorem dX7_ith_41 : decode cX7_ith 41 = .ok (.aload_n 0, 1) := by decide +kernel
theorem dX7_ith_42 : decode cX7_ith 42 = .ok (.iload_n 1, 1) := by decide +kernel
theorem dX7_ith_43 : decode cX7_ith 43 = .ok (.invokevirtual 175, 3) := by decide +kernel
theorem dX7_ith_46 : decode cX7_ith 46 = .ok (.aload_n 0, 1) := by decide +kernel
theorem dX7_ith_47 : decode cX7_ith 47 = .ok (.getfield 30, 3) := by decide +kernel
theorem dX7_ith_50 : decode cX7_ith 50 = .ok (.iload_n 1, 1) := by decide +kernel
theorem dX7_ith_51 : decode cX7_ith 51 = .ok (.iaload, 1) := by decide +kernel
theorem dX7_ith_52 : decode cX7_ith 52 = .ok (.ifCond .eq 11, 3) := by decide +kernel
theorem dX7_ith_55 : decode cX7_ith 55 = .ok (.iload_n 2, 1) := by decide +kernel
theorem dX7_ith_56 : decode cX7_ith 56 = .ok (.iload_n 1, 1) := by decide +kernel
theorem dX7_ith_57 : decode cX7_ith 57 = .ok (.invokestatic 162, 3) := by decide +kernel
theorem dX7_ith_60 : decode cX7_ith 60 = .ok (.if_icmp .lt 10, 3) := by decide +kernel
theorem dX7_ith_63 : decode cX7_ith 63 = .ok (.aload_n 0, 1) := by decide +kernel
theorem dX7_ith_64 : decode cX7_ith 64 = .ok (.ldc 136, 2) := by decide +kernel
theorem dX7_ith_66 : decode cX7_ith 66 = .ok (.invokevirtual 94, 3) := by decide +kernel
theorem dX7_ith_69 : decode cX7_ith 69 = .ok (.ireturn, 1) := by decide +kernel
theorem dX7_ith_70 : decode cX7_ith 70 = .ok (.iload_n 1, 1) := by decide +kernel
theorem dX7_ith_71 : decode cX7_ith 71 = .ok (.istore_n 3, 1) := by decide +kernel
theorem dX7_ith_72 : decode cX7_ith 72 = .ok (.iconst 0, 1) := by decide +kernel
theorem dX7_ith_73 : decode cX7_ith 73 = .ok (.istore 4, 2) := by decide +kernel
theorem dX7_ith_75 : decode cX7_ith 75 = .ok (.iconst 0, 1) := by decide +kernel
theorem dX7_ith_76 : decode cX7_ith 76 = .ok (.istore 5, 2) := by decide +kernel
theorem dX7_ith_78 : decode cX7_ith 78 = .ok (.iload 5, 2) := by decide +kernel
theorem dX7_ith_80 : decode cX7_ith 80 = .ok (.iload_n 2, 1) := by decide +kernel
theorem dX7_ith_81 : decode cX7_ith 81 = .ok (.if_icmp .gt 69, 3) := by decide +kernel
theorem dX7_ith_84 : decode cX7_ith 84 = .ok (.iconst 0, 1) := by decide +kernel
theorem dX7_ith_85 : decode cX7_ith 85 = .ok (.istore 4, 2) := by decide +kernel
theorem dX7_ith_87 : decode cX7_ith 87 = .ok (.iload_n 3, 1) := by decide +kernel
theorem dX7_ith_88 : decode cX7_ith 88 = .ok (.iload 4, 2) := by decide +kernel
theorem dX7_ith_90 : decode cX7_ith 90 = .ok (.invokestatic 141, 3) := by decide +kernel
theorem dX7_ith_93 : decode cX7_ith 93 = .ok (.ifCond .eq 36, 3) := by decide +kernel
theorem dX7_ith_96 : decode cX7_ith 96 = .ok (.aload_n 0, 1) := by decide +kernel
theorem dX7_ith_97 : decode cX7_ith 97 = .ok (.iload 4, 2) := by decide +kernel
theorem dX7_ith_99 : decode cX7_ith 99 = .ok (.iload_n 3, 1) := by decide +kernel
theorem dX7_ith_100 : decode cX7_ith 100 = .ok (.iconst 1, 1) := by decide +kernel
theorem dX7_ith_101 : decode cX7_ith 101 = .ok (.iload 4, 2) := by decide +kernel
theorem dX7_ith_103 : decode cX7_ith 103 = .ok (.ishl, 1) := by decide +kernel
theorem dX7_ith_104 : decode cX7_ith 104 = .ok (.iconst (-1), 1) := by decide +kernel
theorem dX7_ith_105 : decode cX7_ith 105 = .ok (.ixor, 1) := by decide +kernel
theorem dX7_ith_106 : decode cX7_ith 106 = .ok (.iand, 1) := by decide +kernel
theorem dX7_ith_107 : decode cX7_ith 107 = .ok (.invokevirtual 171, 3) := by decide +kernel
theorem dX7_ith_110 : decode cX7_ith 110 = .ok (.ifCond .eq 19, 3) := by decide +kernel
theorem dX7_ith_113 : decode cX7_ith 113 = .ok (.aload_n 0, 1) := by decide +kernel
theorem dX7_ith_114 : decode cX7_ith 114 = .ok (.getfield 30, 3) := by decide +kernel
theorem dX7_ith_117 : decode cX7_ith 117 = .ok (.iload_n 3, 1) := by decide +kernel
theorem dX7_ith_118 : decode cX7_ith 118 = .ok (.iconst 1, 1) := by decide +kernel
theorem dX7_ith_119 : decode cX7_ith 119 = .ok (.iload 4, 2) := by decide +kernel
theorem dX7_ith_121 : decode cX7_ith 121 = .ok (.ishl, 1) := by decide +kernel
theorem dX7_ith_122 : decode cX7_ith 122 = .ok (.iconst (-1), 1) := by decide +kernel
theorem dX7_ith_123 : decode cX7_ith 123 = .ok (.ixor, 1) := by decide +kernel
theorem dX7_ith_124 : decode cX7_ith 124 = .ok (.iand, 1) := by decide +kernel
theorem dX7_ith_125 : decode cX7_ith 125 = .ok (.iaload, 1) := by decide +kernel
theorem dX7_ith_126 : decode cX7_ith 126 = .ok (.ifCond .ne 9, 3) := by decide +kernel
theorem dX7_ith_129 : decode cX7_ith 129 = .ok (.iinc 4 1, 3) := by decide +kernel
theorem dX7_ith_132 : decode cX7_ith 132 = .ok (.goto (-45), 3) := by decide +kernel
theorem dX7_ith_135 : decode cX7_ith 135 = .ok (.iload_n 3, 1) := by decide +kernel
theorem dX7_ith_136 : decode cX7_ith 136 = .ok (.iconst 1, 1) := by decide +kernel
theorem dX7_ith_137 : decode cX7_ith 137 = .ok (.iload 4, 2) := by decide +kernel
theorem dX7_ith_139 : decode cX7_ith 139 = .ok (.ishl, 1) := by decide +kernel
theorem dX7_ith_140 : decode cX7_ith 140 = .ok (.iconst (-1), 1) := by decide +kernel
theorem dX7_ith_141 : decode cX7_ith 141 = .ok (.ixor, 1) := by decide +kernel
theorem dX7_ith_142 : decode cX7_ith 142 = .ok (.iand, 1) := by decide +kernel
theorem dX7_ith_143 : decode cX7_ith 143 = .ok (.istore_n 3, 1) := by decide +kernel
theorem dX7_ith_144 : decode cX7_ith 144 = .ok (.iinc 5 1, 3) := by decide +kernel
theorem dX7_ith_147 : decode cX7_ith 147 = .ok (.goto (-69), 3) := by decide +kernel
theorem dX7_ith_150 : decode cX7_ith 150 = .ok (.iload 4, 2) := by decide +kernel
theorem dX7_ith_152 : decode cX7_ith 152 = .ok (.ireturn, 1) := by decide +kernel
theorem dX7_fitsSomewhere_0 : decode cX7_fitsSomewhere 0 = .ok (.iconst 0, 1) := by decide +kernel
theorem dX7_fitsSomewhere_1 : decode cX7_fitsSomewhere 1 = .ok (.istore_n 3, 1) := by decide +kernel
theorem dX7_fitsSomewhere_2 : decode cX7_fitsSomewhere 2 = .ok (.iconst 0, 1) := by decide +kernel
theorem dX7_fitsSomewhere_3 : decode cX7_fitsSomewhere 3 = .ok (.istore 4, 2) := by decide +kernel
theorem dX7_fitsSomewhere_5 : decode cX7_fitsSomewhere 5 = .ok (.iload 4, 2) := by decide +kernel
theorem dX7_fitsSomewhere_7 : decode cX7_fitsSomewhere 7 = .ok (.aload_n 0, 1) := by decide +kernel
theorem dX7_fitsSomewhere_8 : decode cX7_fitsSomewhere 8 = .ok (.getfield 7, 3) := by decide +kernel
theorem dX7_fitsSomewhere_11 : decode cX7_fitsSomewhere 11 = .ok (.iconst 0, 1) := by decide +kernel
theorem dX7_fitsSomewhere_12 : decode cX7_fitsSomewhere 12 = .ok (.iaload, 1) := by decide +kernel
theorem dX7_fitsSomewhere_13 : decode cX7_fitsSomewhere 13 = .ok (.if_icmp .ge 50, 3) := by decide +kernel
theorem dX7_fitsSomewhere_16 : decode cX7_fitsSomewhere 16 = .ok (.iload_n 2, 1) := by decide +kernel
theorem dX7_fitsSomewhere_17 : decode cX7_fitsSomewhere 17 = .ok (.aload_n 0, 1) := by decide +kernel
theorem dX7_fitsSomewhere_18 : decode cX7_fitsSomewhere 18 = .ok (.getfield 24, 3) := by decide +kernel
theorem dX7_fitsSomewhere_21 : decode cX7_fitsSomewhere 21 = .ok (.iload 4, 2) := by decide +kernel
theorem dX7_fitsSomewhere_23 : decode cX7_fitsSomewhere 23 = .ok (.iaload, 1) := by decide +kernel
theorem dX7_fitsSomewhere_24 : decode cX7_fitsSomewhere 24 = .ok (.invokestatic 141, 3) := by decide +kernel
theorem dX7_fitsSomewhere_27 : decode cX7_fitsSomewhere 27 = .ok (.ifCond .eq 30, 3) := by decide +kernel
theorem dX7_fitsSomewhere_30 : decode cX7_fitsSomewhere 30 = .ok (.aload_n 0, 1) := by decide +kernel
theorem dX7_fitsSomewhere_31 : decode cX7_fitsSomewhere 31 = .ok (.getfield 24, 3) := by decide +kernel
theorem dX7_fitsSomewhere_34 : decode cX7_fitsSomewhere 34 = .ok (.iload 4, 2) := by decide +kernel
theorem dX7_fitsSomewhere_36 : decode cX7_fitsSomewhere 36 = .ok (.iaload, 1) := by decide +kernel
theorem dX7_fitsSomewhere_37 : decode cX7_fitsSomewhere 37 = .ok (.iload_n 1, 1) := by decide +kernel
theorem dX7_fitsSomewhere_38 : decode cX7_fitsSomewhere 38 = .ok (.if_icmp .eq 19, 3) := by decide +kernel
theorem dX7_fitsSomewhere_41 : decode cX7_fitsSomewhere 41 = .ok (.aload_n 0, 1) := by decide +kernel
theorem dX7_fitsSomewhere_42 : decode cX7_fitsSomewhere 42 = .ok (.getfield 33, 3) := by decide +kernel
theorem dX7_fitsSomewhere_45 : decode cX7_fitsSomewhere 45 = .ok (.iload_n 3, 1) := by decide +kernel
theorem dX7_fitsSomewhere_46 : decode cX7_fitsSomewhere 46 = .ok (.aload_n 0, 1) := by decide +kernel
theorem dX7_fitsSomewhere_47 : decode cX7_fitsSomewhere 47 = .ok (.getfield 24, 3) := by decide +kernel
theorem dX7_fitsSomewhere_50 : decode cX7_fitsSomewhere 50 = .ok (.iload 4, 2) := by decide +kernel
theorem dX7_fitsSomewhere_52 : decode cX7_fitsSomewhere 52 = .ok (.iaload, 1) := by decide +kernel
theorem dX7_fitsSomewhere_53 : decode cX7_fitsSomewhere 53 = .ok (.iastore, 1) := by decide +kernel
theorem dX7_fitsSomewhere_54 : decode cX7_fitsSomewhere 54 = .ok (.iinc 3 1, 3) := by decide +kernel
theorem dX7_fitsSomewhere_57 : decode cX7_fitsSomewhere 57 = .ok (.iinc 4 1, 3) := by decide +kernel
theorem dX7_fitsSomewhere_60 : decode cX7_fitsSomewhere 60 = .ok (.goto (-55), 3) := by decide +kernel
theorem dX7_fitsSomewhere_63 : decode cX7_fitsSomewhere 63 = .ok (.iconst 0, 1) := by decide +kernel
theorem dX7_fitsSomewhere_64 : decode cX7_fitsSomewhere 64 = .ok (.istore 4, 2) := by decide +kernel
theorem dX7_fitsSomewhere_66 : decode cX7_fitsSomewhere 66 = .ok (.iconst 0, 1) := by decide +kernel
theorem dX7_fitsSomewhere_67 : decode cX7_fitsSomewhere 67 = .ok (.istore 5, 2) := by decide +kernel
theorem dX7_fitsSomewhere_69 : decode cX7_fitsSomewhere 69 = .ok (.iload 5, 2) := by decide +kernel
theorem dX7_fitsSomewhere_71 : decode cX7_fitsSomewhere 71 = .ok (.iload_n 3, 1) := by decide +kernel
theorem dX7_fitsSomewhere_72 : decode cX7_fitsSomewhere 72 = .ok (.if_icmp .gt 94, 3) := by decide +kernel
theorem dX7_fitsSomewhere_75 : decode cX7_fitsSomewhere 75 = .ok (.iload 4, 2) := by decide +kernel
theorem dX7_fitsSomewhere_77 : decode cX7_fitsSomewhere 77 = .ok (.ifCond .ne 89, 3) := by decide +kernel
theorem dX7_fitsSomewhere_80 : decode cX7_fitsSomewhere 80 = .ok (.iconst 1, 1) := by decide +kernel
theorem dX7_fitsSomewhere_81 : decode cX7_fitsSomewhere 81 = .ok (.istore 4, 2) := by decide +kernel
theorem dX7_fitsSomewhere_83 : decode cX7_fitsSomewhere 83 = .ok (.iconst 0, 1) := by decide +kernel
theorem dX7_fitsSomewhere_84 : decode cX7_fitsSomewhere 84 = .ok (.istore 6, 2) := by decide +kernel
theorem dX7_fitsSomewhere_86 : decode cX7_fitsSomewhere 86 = .ok (.iload 6, 2) := by decide +kernel
theorem dX7_fitsSomewhere_88 : decode cX7_fitsSomewhere 88 = .ok (.iload_n 3, 1) := by decide +kernel
theorem dX7_fitsSomewhere_89 : decode cX7_fitsSomewhere 89 = .ok (.if_icmp .ge 71, 3) := by decide +kernel
theorem dX7_fitsSomewhere_92 : decode cX7_fitsSomewhere 92 = .ok (.iload 4, 2) := by decide +kernel
theorem dX7_fitsSomewhere_94 : decode cX7_fitsSomewhere 94 = .ok (.ifCond .eq 57, 3) := by decide +kernel
theorem dX7_fitsSomewhere_97 : decode cX7_fitsSomewhere 97 = .ok (.iload 6, 2) := by decide +kernel
theorem dX7_fitsSomewhere_99 : decode cX7_fitsSomewhere 99 = .ok (.iload 5, 2) := by decide +kernel
theorem dX7_fitsSomewhere_101 : decode cX7_fitsSomewhere 101 = .ok (.if_icmp .ge 26, 3) := by decide +kernel
theorem dX7_fitsSomewhere_104 : decode cX7_fitsSomewhere 104 = .ok (.aload_n 0, 1) := by decide +kernel
theorem dX7_fitsSomewhere_105 : decode cX7_fitsSomewhere 105 = .ok (.getfield 20, 3) := by decide +kernel
theorem dX7_fitsSomewhere_108 : decode cX7_fitsSomewhere 108 = .ok (.bipush 12, 2) := by decide +kernel
theorem dX7_fitsSomewhere_110 : decode cX7_fitsSomewhere 110 = .ok (.aload_n 0, 1) := by decide +kernel
theorem dX7_fitsSomewhere_111 : decode cX7_fitsSomewhere 111 = .ok (.getfield 33, 3) := by decide +kernel
theorem dX7_fitsSomewhere_114 : decode cX7_fitsSomewhere 114 = .ok (.iload 6, 2) := by decide +kernel
theorem dX7_fitsSomewhere_116 : decode cX7_fitsSomewhere 116 = .ok (.iaload, 1) := by decide +kernel
theorem dX7_fitsSomewhere_117 : decode cX7_fitsSomewhere 117 = .ok (.imul, 1) := by decide +kernel
theorem dX7_fitsSomewhere_118 : decode cX7_fitsSomewhere 118 = .ok (.iload_n 1, 1) := by decide +kernel
theorem dX7_fitsSomewhere_119 : decode cX7_fitsSomewhere 119 = .ok (.iadd, 1) := by decide +kernel
theorem dX7_fitsSomewhere_120 : decode cX7_fitsSomewhere 120 = .ok (.baload, 1) := by decide +kernel
theorem dX7_fitsSomewhere_121 : decode cX7_fitsSomewhere 121 = .ok (.ifCond .eq 30, 3) := by decide +kernel
theorem dX7_fitsSomewhere_124 : decode cX7_fitsSomewhere 124 = .ok (.goto 23, 3) := by decide +kernel
theorem dX7_fitsSomewhere_127 : decode cX7_fitsSomewhere 127 = .ok (.aload_n 0, 1) := by decide +kernel
theorem dX7_fitsSomewhere_128 : decode cX7_fitsSomewhere 128 = .ok (.getfield 20, 3) := by decide +kernel
theorem dX7_fitsSomewhere_131 : decode cX7_fitsSomewhere 131 = .ok (.bipush 12, 2) := by decide +kernel
theorem dX7_fitsSomewhere_133 : decode cX7_fitsSomewhere 133 = .ok (.iload_n 1, 1) := by decide +kernel
theorem dX7_fitsSomewhere_134 : decode cX7_fitsSomewhere 134 = .ok (.imul, 1) := by decide +kernel
theorem dX7_fitsSomewhere_135 : decode cX7_fitsSomewhere 135 = .ok (.aload_n 0, 1) := by decide +kernel
theorem dX7_fitsSomewhere_136 : decode cX7_fitsSomewhere 136 = .ok (.getfield 33, 3) := by decide +kernel
theorem dX7_fitsSomewhere_139 : decode cX7_fitsSomewhere 139 = .ok (.iload 6, 2) := by decide +kernel
theorem dX7_fitsSomewhere_141 : decode cX7_fitsSomewhere 141 = .ok (.iaload, 1) := by decide +kernel
theorem dX7_fitsSomewhere_142 : decode cX7_fitsSomewhere 142 = .ok (.iadd, 1) := by decide +kernel
theorem dX7_fitsSomewhere_143 : decode cX7_fitsSomewhere 143 = .ok (.baload, 1) := by decide +kernel
theorem dX7_fitsSomewhere_144 : decode cX7_fitsSomewhere 144 = .ok (.ifCond .eq 7, 3) := by decide +kernel
theorem dX7_fitsSomewhere_147 : decode cX7_fitsSomewhere 147 = .ok (.iconst 1, 1) := by decide +kernel
theorem dX7_fitsSomewhere_148 : decode cX7_fitsSomewhere 148 = .ok (.goto 4, 3) := by decide +kernel
theorem dX7_fitsSomewhere_151 : decode cX7_fitsSomewhere 151 = .ok (.iconst 0, 1) := by decide +kernel
theorem dX7_fitsSomewhere_152 : decode cX7_fitsSomewhere 152 = .ok (.istore 4, 2) := by decide +kernel
theorem dX7_fitsSomewhere_154 : decode cX7_fitsSomewhere 154 = .ok (.iinc 6 1, 3) := by decide +kernel
theorem dX7_fitsSomewhere_157 : decode cX7_fitsSomewhere 157 = .ok (.goto (-71), 3) := by decide +kernel
theorem dX7_fitsSomewhere_160 : decode cX7_fitsSomewhere 160 = .ok (.iinc 5 1, 3) := by decide +kernel
theorem dX7_fitsSomewhere_163 : decode cX7_fitsSomewhere 163 = .ok (.goto (-94), 3) := by decide +kernel
theorem dX7_fitsSomewhere_166 : decode cX7_fitsSomewhere 166 = .ok (.iload 4, 2) := by decide +kernel
theorem dX7_fitsSomewhere_168 : decode cX7_fitsSomewhere 168 = .ok (.ireturn, 1) := by decide +kernel
theorem dX7_falseDate_0 : decode cX7_falseDate 0 = .ok (.aload_n 0, 1) := by decide +kernel
theorem dX7_falseDate_1 : decode cX7_falseDate 1 = .ok (.iload_n 1, 1) := by decide +kernel
theorem dX7_falseDate_2 : decode cX7_falseDate 2 = .ok (.invokevirtual 156, 3) := by decide +kernel
theorem dX7_falseDate_5 : decode cX7_falseDate 5 = .ok (.ifCond .ne 10, 3) := by decide +kernel
theorem dX7_falseDate_8 : decode cX7_falseDate 8 = .ok (.aload_n 0, 1) := by decide +kernel
theorem dX7_falseDate_9 : decode cX7_falseDate 9 = .ok (.ldc 63, 2) := by decide +kernel
theorem dX7_falseDate_11 : decode cX7_falseDate 11 = .ok (.invokevirtual 94, 3) := by decide +kernel
theorem dX7_falseDate_14 : decode cX7_falseDate 14 = .ok (.ireturn, 1) := by decide +kernel
theorem dX7_falseDate_15 : decode cX7_falseDate 15 = .ok (.aload_n 0, 1) := by decide +kernel
theorem dX7_falseDate_16 : decode cX7_falseDate 16 = .ok (.invokevirtual 159, 3) := by decide +kernel
theorem dX7_falseDate_19 : decode cX7_falseDate 19 = .ok (.aload_n 0, 1) := by decide +kernel
theorem dX7_falseDate_20 : decode cX7_falseDate 20 = .ok (.getfield 27, 3) := by decide +kernel
theorem dX7_falseDate_23 : decode cX7_falseDate 23 = .ok (.iload_n 1, 1) := by decide +kernel
theorem dX7_falseDate_24 : decode cX7_falseDate 24 = .ok (.baload, 1) := by decide +kernel
theorem dX7_falseDate_25 : decode cX7_falseDate 25 = .ok (.ifCond .eq 10, 3) := by decide +kernel
theorem dX7_falseDate_28 : decode cX7_falseDate 28 = .ok (.aload_n 0, 1) := by decide +kernel
theorem dX7_falseDate_29 : decode cX7_falseDate 29 = .ok (.ldc 137, 2) := by decide +kernel
theorem dX7_falseDate_31 : decode cX7_falseDate 31 = .ok (.invokevirtual 94, 3) := by decide +kernel
theorem dX7_falseDate_34 : decode cX7_falseDate 34 = .ok (.ireturn, 1) := by decide +kernel
theorem dX7_falseDate_35 : decode cX7_falseDate 35 = .ok (.iconst 0, 1) := by decide +kernel
theorem dX7_falseDate_36 : decode cX7_falseDate 36 = .ok (.istore_n 2, 1) := by decide +kernel
theorem dX7_falseDate_37 : decode cX7_falseDate 37 = .ok (.iload_n 2, 1) := by decide +kernel
theorem dX7_falseDate_38 : decode cX7_falseDate 38 = .ok (.aload_n 0, 1) := by decide +kernel
theorem dX7_falseDate_39 : decode cX7_falseDate 39 = .ok (.getfield 7, 3) := by decide +kernel
theorem dX7_falseDate_42 : decode cX7_falseDate 42 = .ok (.iconst 0, 1) := by decide +kernel
theorem dX7_falseDate_43 : decode cX7_falseDate 43 = .ok (.iaload, 1) := by decide +kernel
theorem dX7_falseDate_44 : decode cX7_falseDate 44 = .ok (.if_icmp .ge 41, 3) := by decide +kernel
theorem dX7_falseDate_47 : decode cX7_falseDate 47 = .ok (.iload_n 1, 1) := by decide +kernel
theorem dX7_falseDate_48 : decode cX7_falseDate 48 = .ok (.iload_n 2, 1) := by decide +kernel
theorem dX7_falseDate_49 : decode cX7_falseDate 49 = .ok (.invokestatic 141, 3) := by decide +kernel
theorem dX7_falseDate_52 : decode cX7_falseDate 52 = .ok (.ifCond .eq 27, 3) := by decide +kernel
theorem dX7_falseDate_55 : decode cX7_falseDate 55 = .ok (.aload_n 0, 1) := by decide +kernel
theorem dX7_falseDate_56 : decode cX7_falseDate 56 = .ok (.getfield 27, 3) := by decide +kernel
theorem dX7_falseDate_59 : decode cX7_falseDate 59 = .ok (.iload_n 1, 1) := by decide +kernel
theorem dX7_falseDate_60 : decode cX7_falseDate 60 = .ok (.iconst 1, 1) := by decide +kernel
theorem dX7_falseDate_61 : decode cX7_falseDate 61 = .ok (.iload_n 2, 1) := by decide +kernel
theorem dX7_falseDate_62 : decode cX7_falseDate 62 = .ok (.ishl, 1) := by decide +kernel
theorem dX7_falseDate_63 : decode cX7_falseDate 63 = .ok (.iconst (-1), 1) := by decide +kernel
theorem dX7_falseDate_64 : decode cX7_falseDate 64 = .ok (.ixor, 1) := by decide +kernel
theorem dX7_falseDate_65 : decode cX7_falseDate 65 = .ok (.iand, 1) := by decide +kernel
theorem dX7_falseDate_66 : decode cX7_falseDate 66 = .ok (.baload, 1) := by decide +kernel
theorem dX7_falseDate_67 : decode cX7_falseDate 67 = .ok (.ifCond .eq 12, 3) := by decide +kernel
theorem dX7_falseDate_70 : decode cX7_falseDate 70 = .ok (.aload_n 0, 1) := by decide +kernel
theorem dX7_falseDate_71 : decode cX7_falseDate 71 = .ok (.iload_n 2, 1) := by decide +kernel
theorem dX7_falseDate_72 : decode cX7_falseDate 72 = .ok (.iload_n 1, 1) := by decide +kernel
theorem dX7_falseDate_73 : decode cX7_falseDate 73 = .ok (.invokevirtual 179, 3) := by decide +kernel
theorem dX7_falseDate_76 : decode cX7_falseDate 76 = .ok (.ifCond .ne 9, 3) := by decide +kernel
theorem dX7_falseDate_79 : decode cX7_falseDate 79 = .ok (.iinc 2 1, 3) := by decide +kernel
theorem dX7_falseDate_82 : decode cX7_falseDate 82 = .ok (.goto (-45), 3) := by decide +kernel
theorem dX7_falseDate_85 : decode cX7_falseDate 85 = .ok (.iload_n 2, 1) := by decide +kernel
theorem dX7_falseDate_86 : decode cX7_falseDate 86 = .ok (.aload_n 0, 1) := by decide +kernel
theorem dX7_falseDate_87 : decode cX7_falseDate 87 = .ok (.getfield 7, 3) := by decide +kernel
theorem dX7_falseDate_90 : decode cX7_falseDate 90 = .ok (.iconst 0, 1) := by decide +kernel
theorem dX7_falseDate_91 : decode cX7_falseDate 91 = .ok (.iaload, 1) := by decide +kernel
theorem dX7_falseDate_92 : decode cX7_falseDate 92 = .ok (.if_icmp .ge 7, 3) := by decide +kernel
theorem dX7_falseDate_95 : decode cX7_falseDate 95 = .ok (.iload_n 2, 1) := by decide +kernel
theorem dX7_falseDate_96 : decode cX7_falseDate 96 = .ok (.goto 9, 3) := by decide +kernel
theorem dX7_falseDate_99 : decode cX7_falseDate 99 = .ok (.aload_n 0, 1) := by decide +kernel
theorem dX7_falseDate_100 : decode cX7_falseDate 100 = .ok (.ldc 136, 2) := by decide +kernel
theorem dX7_falseDate_102 : decode cX7_falseDate 102 = .ok (.invokevirtual 94, 3) := by decide +kernel
theorem dX7_falseDate_105 : decode cX7_falseDate 105 = .ok (.ireturn, 1) := by decide +kernel
theorem dX7_had_0 : decode cX7_had 0 = .ok (.aload_n 0, 1) := by decide +kernel
theorem dX7_had_1 : decode cX7_had 1 = .ok (.iload_n 1, 1) := by decide +kernel
theorem dX7_had_2 : decode cX7_had 2 = .ok (.invokevirtual 156, 3) := by decide +kernel
theorem dX7_had_5 : decode cX7_had 5 = .ok (.ifCond .eq 14, 3) := by decide +kernel
theorem dX7_had_8 : decode cX7_had 8 = .ok (.iload_n 2, 1) := by decide +kernel
theorem dX7_had_9 : decode cX7_had 9 = .ok (.iconst 0, 1) := by decide +kernel
theorem dX7_had_10 : decode cX7_had 10 = .ok (.sipush 2000, 3) := by decide +kernel
theorem dX7_had_13 : decode cX7_had 13 = .ok (.invokestatic 64, 3) := by decide +kernel
theorem dX7_had_16 : decode cX7_had 16 = .ok (.ifCond .ne 11, 3) := by decide +kernel
theorem dX7_had_19 : decode cX7_had 19 = .ok (.aload_n 0, 1) := by decide +kernel
theorem dX7_had_20 : decode cX7_had 20 = .ok (.ldc 63, 2) := by decide +kernel
theorem dX7_had_22 : decode cX7_had 22 = .ok (.invokevirtual 94, 3) := by decide +kernel
theorem dX7_had_25 : decode cX7_had 25 = .ok (.i2l, 1) := by decide +kernel
theorem dX7_had_26 : decode cX7_had 26 = .ok (.lreturn, 1) := by decide +kernel
theorem dX7_had_27 : decode cX7_had 27 = .ok (.aload_n 0, 1) := by decide +kernel
theorem dX7_had_28 : decode cX7_had 28 = .ok (.invokevirtual 147, 3) := by decide +kernel
theorem dX7_had_31 : decode cX7_had 31 = .ok (.lconst 0, 1) := by decide +kernel
theorem dX7_had_32 : decode cX7_had 32 = .ok (.lstore_n 3, 1) := by decide +kernel
theorem dX7_had_33 : decode cX7_had 33 = .ok (.iconst 0, 1) := by decide +kernel
theorem dX7_had_34 : decode cX7_had 34 = .ok (.istore 5, 2) := by decide +kernel
theorem dX7_had_36 : decode cX7_had 36 = .ok (.iload 5, 2) := by decide +kernel
theorem dX7_had_38 : decode cX7_had 38 = .ok (.aload_n 0, 1) := by decide +kernel
theorem dX7_had_39 : decode cX7_had 39 = .ok (.getfield 7, 3) := by decide +kernel
theorem dX7_had_42 : decode cX7_had 42 = .ok (.iconst 0, 1) := by decide +kernel
theorem dX7_had_43 : decode cX7_had 43 = .ok (.iaload, 1) := by decide +kernel
theorem dX7_had_44 : decode cX7_had 44 = .ok (.if_icmp .ge 67, 3) := by decide +kernel
theorem dX7_had_47 : decode cX7_had 47 = .ok (.aload_n 0, 1) := by decide +kernel
theorem dX7_had_48 : decode cX7_had 48 = .ok (.getfield 24, 3) := by decide +kernel
theorem dX7_had_51 : decode cX7_had 51 = .ok (.iload 5, 2) := by decide +kernel
theorem dX7_had_53 : decode cX7_had 53 = .ok (.iaload, 1) := by decide +kernel
theorem dX7_had_54 : decode cX7_had 54 = .ok (.istore 6, 2) := by decide +kernel
theorem dX7_had_56 : decode cX7_had 56 = .ok (.iload_n 1, 1) := by decide +kernel
theorem dX7_had_57 : decode cX7_had 57 = .ok (.iload 6, 2) := by decide +kernel
theorem dX7_had_59 : decode cX7_had 59 = .ok (.invokestatic 141, 3) := by decide +kernel
theorem dX7_had_62 : decode cX7_had 62 = .ok (.ifCond .eq 43, 3) := by decide +kernel
theorem dX7_had_65 : decode cX7_had 65 = .ok (.aload_n 0, 1) := by decide +kernel
theorem dX7_had_66 : decode cX7_had 66 = .ok (.iload 6, 2) := by decide +kernel
theorem dX7_had_68 : decode cX7_had 68 = .ok (.iconst 2, 1) := by decide +kernel
theorem dX7_had_69 : decode cX7_had 69 = .ok (.invokevirtual 68, 3) := by decide +kernel
theorem dX7_had_72 : decode cX7_had 72 = .ok (.iload_n 2, 1) := by decide +kernel
theorem dX7_had_73 : decode cX7_had 73 = .ok (.if_icmp .gt 32, 3) := by decide +kernel
theorem dX7_had_76 : decode cX7_had 76 = .ok (.aload_n 0, 1) := by decide +kernel
theorem dX7_had_77 : decode cX7_had 77 = .ok (.iload 6, 2) := by decide +kernel
theorem dX7_had_79 : decode cX7_had 79 = .ok (.iconst 0, 1) := by decide +kernel
theorem dX7_had_80 : decode cX7_had 80 = .ok (.invokevirtual 68, 3) := by decide +kernel
theorem dX7_had_83 : decode cX7_had 83 = .ok (.iconst 4, 1) := by decide +kernel
theorem dX7_had_84 : decode cX7_had 84 = .ok (.if_icmp .ne 12, 3) := by decide +kernel
theorem dX7_had_87 : decode cX7_had 87 = .ok (.aload_n 0, 1) := by decide +kernel
theorem dX7_had_88 : decode cX7_had 88 = .ok (.iload 6, 2) := by decide +kernel
theorem dX7_had_90 : decode cX7_had 90 = .ok (.invokevirtual 109, 3) := by decide +kernel
theorem dX7_had_93 : decode cX7_had 93 = .ok (.goto 11, 3) := by decide +kernel
theorem dX7_had_96 : decode cX7_had 96 = .ok (.lload_n 3, 1) := by decide +kernel
theorem dX7_had_97 : decode cX7_had 97 = .ok (.aload_n 0, 1) := by decide +kernel
theorem dX7_had_98 : decode cX7_had 98 = .ok (.iload 6, 2) := by decide +kernel
theorem dX7_had_100 : decode cX7_had 100 = .ok (.invokevirtual 109, 3) := by decide +kernel
theorem dX7_had_103 : decode cX7_had 103 = .ok (.lor, 1) := by decide +kernel
theorem dX7_had_104 : decode cX7_had 104 = .ok (.lstore_n 3, 1) := by decide +kernel
theorem dX7_had_105 : decode cX7_had 105 = .ok (.iinc 5 1, 3) := by decide +kernel
theorem dX7_had_108 : decode cX7_had 108 = .ok (.goto (-72), 3) := by decide +kernel
theorem dX7_had_111 : decode cX7_had 111 = .ok (.lload_n 3, 1) := by decide +kernel
theorem dX7_had_112 : decode cX7_had 112 = .ok (.lreturn, 1) := by decide +kernel
theorem dX7_hadNot_0 : decode cX7_hadNot 0 = .ok (.aload_n 0, 1) := by decide +kernel
theorem dX7_hadNot_1 : decode cX7_hadNot 1 = .ok (.iload_n 1, 1) := by decide +kernel
theorem dX7_hadNot_2 : decode cX7_hadNot 2 = .ok (.invokevirtual 156, 3) := by decide +kernel
theorem dX7_hadNot_5 : decode cX7_hadNot 5 = .ok (.ifCond .eq 14, 3) := by decide +kernel
theorem dX7_hadNot_8 : decode cX7_hadNot 8 = .ok (.iload_n 2, 1) := by decide +kernel
theorem dX7_hadNot_9 : decode cX7_hadNot 9 = .ok (.iconst 0, 1) := by decide +kernel
theorem dX7_hadNot_10 : decode cX7_hadNot 10 = .ok (.sipush 2000, 3) := by decide +kernel
theorem dX7_hadNot_13 : decode cX7_hadNot 13 = .ok (.invokestatic 64, 3) := by decide +kernel
theorem dX7_hadNot_16 : decode cX7_hadNot 16 = .ok (.ifCond .ne 11, 3) := by decide +kernel
theorem dX7_hadNot_19 : decode cX7_hadNot 19 = .ok (.aload_n 0, 1) := by decide +kernel
theorem dX7_hadNot_20 : decode cX7_hadNot 20 = .ok (.ldc 63, 2) := by decide +kernel
theorem dX7_hadNot_22 : decode cX7_hadNot 22 = .ok (.invokevirtual 94, 3) := by decide +kernel
theorem dX7_hadNot_25 : decode cX7_hadNot 25 = .ok (.i2l, 1) := by decide +kernel
theorem dX7_hadNot_26 : decode cX7_hadNot 26 = .ok (.lreturn, 1) := by decide +kernel
theorem dX7_hadNot_27 : decode cX7_hadNot 27 = .ok (.aload_n 0, 1) := by decide +kernel
theorem dX7_hadNot_28 : decode cX7_hadNot 28 = .ok (.invokevirtual 147, 3) := by decide +kernel
theorem dX7_hadNot_31 : decode cX7_hadNot 31 = .ok (.lconst 0, 1) := by decide +kernel
theorem dX7_hadNot_32 : decode cX7_hadNot 32 = .ok (.lstore_n 3, 1) := by decide +kernel
theorem dX7_hadNot_33 : decode cX7_hadNot 33 = .ok (.iconst 1, 1) := by decide +kernel
theorem dX7_hadNot_34 : decode cX7_hadNot 34 = .ok (.istore 5, 2) := by decide +kernel
theorem dX7_hadNot_36 : decode cX7_hadNot 36 = .ok (.iconst 0, 1) := by decide +kernel
theorem dX7_hadNot_37 : decode cX7_hadNot 37 = .ok (.istore 6, 2) := by decide +kernel
theorem dX7_hadNot_39 : decode cX7_hadNot 39 = .ok (.iload 6, 2) := by decide +kernel
theorem dX7_hadNot_41 : decode cX7_hadNot 41 = .ok (.aload_n 0, 1) := by decide +kernel
theorem dX7_hadNot_42 : decode cX7_hadNot 42 = .ok (.getfield 7, 3) := by decide +kernel
theorem dX7_hadNot_45 : decode cX7_hadNot 45 = .ok (.iconst 0, 1) := by decide +kernel
theorem dX7_hadNot_46 : decode cX7_hadNot 46 = .ok (.iaload, 1) := by decide +kernel
theorem dX7_hadNot_47 : decode cX7_hadNot 47 = .ok (.if_icmp .ge 105, 3) := by decide +kernel
theorem dX7_hadNot_50 : decode cX7_hadNot 50 = .ok (.aload_n 0, 1) := by decide +kernel
theorem dX7_hadNot_51 : decode cX7_hadNot 51 = .ok (.getfield 24, 3) := by decide +kernel
theorem dX7_hadNot_54 : decode cX7_hadNot 54 = .ok (.iload 6, 2) := by decide +kernel
theorem dX7_hadNot_56 : decode cX7_hadNot 56 = .ok (.iaload, 1) := by decide +kernel
theorem dX7_hadNot_57 : decode cX7_hadNot 57 = .ok (.istore 7, 2) := by decide +kernel
theorem dX7_hadNot_59 : decode cX7_hadNot 59 = .ok (.iload_n 1, 1) := by decide +kernel
theorem dX7_hadNot_60 : decode cX7_hadNot 60 = .ok (.iload 7, 2) := by decide +kernel
theorem dX7_hadNot_62 : decode cX7_hadNot 62 = .ok (.invokestatic 141, 3) := by decide +kernel
theorem dX7_hadNot_65 : decode cX7_hadNot 65 = .ok (.ifCond .eq 81, 3) := by decide +kernel
theorem dX7_hadNot_68 : decode cX7_hadNot 68 = .ok (.aload_n 0, 1) := by decide +kernel
theorem dX7_hadNot_69 : decode cX7_hadNot 69 = .ok (.iload 7, 2) := by decide +kernel
theorem dX7_hadNot_71 : decode cX7_hadNot 71 = .ok (.iconst 2, 1) := by decide +kernel
theorem dX7_hadNot_72 : decode cX7_hadNot 72 = .ok (.invokevirtual 68, 3) := by decide +kernel
theorem dX7_hadNot_75 : decode cX7_hadNot 75 = .ok (.iload_n 2, 1) := by decide +kernel
theorem dX7_hadNot_76 : decode cX7_hadNot 76 = .ok (.if_icmp .lt 70, 3) := by decide +kernel
theorem dX7_hadNot_79 : decode cX7_hadNot 79 = .ok (.iload 5, 2) := by decide +kernel
theorem dX7_hadNot_81 : decode cX7_hadNot 81 = .ok (.ifCond .eq 29, 3) := by decide +kernel
theorem dX7_hadNot_84 : decode cX7_hadNot 84 = .ok (.aload_n 0, 1) := by decide +kernel
theorem dX7_hadNot_85 : decode cX7_hadNot 85 = .ok (.iload 7, 2) := by decide +kernel
theorem dX7_hadNot_87 : decode cX7_hadNot 87 = .ok (.iconst 0, 1) := by decide +kernel
theorem dX7_hadNot_88 : decode cX7_hadNot 88 = .ok (.invokevirtual 68, 3) := by decide +kernel
theorem dX7_hadNot_91 : decode cX7_hadNot 91 = .ok (.iconst 4, 1) := by decide +kernel
theorem dX7_hadNot_92 : decode cX7_hadNot 92 = .ok (.if_icmp .ne 14, 3) := by decide +kernel
theorem dX7_hadNot_95 : decode cX7_hadNot 95 = .ok (.aload_n 0, 1) := by decide +kernel
theorem dX7_hadNot_96 : decode cX7_hadNot 96 = .ok (.iload 7, 2) := by decide +kernel
theorem dX7_hadNot_98 : decode cX7_hadNot 98 = .ok (.iconst 2, 1) := by decide +kernel
theorem dX7_hadNot_99 : decode cX7_hadNot 99 = .ok (.invokevirtual 68, 3) := by decide +kernel
theorem dX7_hadNot_102 : decode cX7_hadNot 102 = .ok (.iload_n 2, 1) := by decide +kernel
theorem dX7_hadNot_103 : decode cX7_hadNot 103 = .ok (.if_icmp .ne 7, 3) := by decide +kernel
theorem dX7_hadNot_106 : decode cX7_hadNot 106 = .ok (.iconst 1, 1) := by decide +kernel
theorem dX7_hadNot_107 : decode cX7_hadNot 107 = .ok (.goto 4, 3) := by decide +kernel
theorem dX7_hadNot_110 : decode cX7_hadNot 110 = .ok (.iconst 0, 1) := by decide +kernel
theorem dX7_hadNot_111 : decode cX7_hadNot 111 = .ok (.istore 5, 2) := by decide +kernel
theorem dX7_hadNot_113 : decode cX7_hadNot 113 = .ok (.lload_n 3, 1) := by decide +kernel
theorem dX7_hadNot_114 : decode cX7_hadNot 114 = .ok (.iload 5, 2) := by decide +kernel
theorem dX7_hadNot_116 : decode cX7_hadNot 116 = .ok (.ifCond .eq 27, 3) := by decide +kernel
theorem dX7_hadNot_119 : decode cX7_hadNot 119 = .ok (.ldc2_w 84, 3) := by decide +kernel
theorem dX7_hadNot_122 : decode cX7_hadNot 122 = .ok (.aload_n 0, 1) := by decide +kernel
theorem dX7_hadNot_123 : decode cX7_hadNot 123 = .ok (.iload 7, 2) := by decide +kernel
theorem dX7_hadNot_125 : decode cX7_hadNot 125 = .ok (.invokevirtual 109, 3) := by decide +kernel
theorem dX7_hadNot_128 : decode cX7_hadNot 128 = .ok (.aload_n 0, 1) := by decide +kernel
theorem dX7_hadNot_129 : decode cX7_hadNot 129 = .ok (.iload 7, 2) := by decide +kernel
theorem dX7_hadNot_131 : decode cX7_hadNot 131 = .ok (.invokevirtual 78, 3) := by decide +kernel
theorem dX7_hadNot_134 : decode cX7_hadNot 134 = .ok (.lor, 1) := by decide +kernel
theorem dX7_hadNot_135 : decode cX7_hadNot 135 = .ok (.ldc2_w 82, 3) := by decide +kernel
theorem dX7_hadNot_138 : decode cX7_hadNot 138 = .ok (.lxor, 1) := by decide +kernel
theorem dX7_hadNot_139 : decode cX7_hadNot 139 = .ok (.land, 1) := by decide +kernel
theorem dX7_hadNot_140 : decode cX7_hadNot 140 = .ok (.goto 4, 3) := by decide +kernel
theorem dX7_hadNot_143 : decode cX7_hadNot 143 = .ok (.lconst 0, 1) := by decide +kernel
theorem dX7_hadNot_144 : decode cX7_hadNot 144 = .ok (.lor, 1) := by decide +kernel
theorem dX7_hadNot_145 : decode cX7_hadNot 145 = .ok (.lstore_n 3, 1) := by decide +kernel
theorem dX7_hadNot_146 : decode cX7_hadNot 146 = .ok (.iinc 6 1, 3) := by decide +kernel
theorem dX7_hadNot_149 : decode cX7_hadNot 149 = .ok (.goto (-110), 3) := by decide +kernel
theorem dX7_hadNot_152 : decode cX7_hadNot 152 = .ok (.lload_n 3, 1) := by decide +kernel
theorem dX7_hadNot_153 : decode cX7_hadNot 153 = .ok (.lreturn, 1) := by decide +kernel
theorem dX7_isCast_0 : decode cX7_isCast 0 = .ok (.aload_n 0, 1) := by decide +kernel
theorem dX7_isCast_1 : decode cX7_isCast 1 = .ok (.iload_n 1, 1) := by decide +kernel
theorem dX7_isCast_2 : decode cX7_isCast 2 = .ok (.iconst 0, 1) := by decide +kernel
theorem dX7_isCast_3 : decode cX7_isCast 3 = .ok (.invokevirtual 68, 3) := by decide +kernel
theorem dX7_isCast_6 : decode cX7_isCast 6 = .ok (.iconst 2, 1) := by decide +kernel
theorem dX7_isCast_7 : decode cX7_isCast 7 = .ok (.invokestatic 120, 3) := by decide +kernel
theorem dX7_isCast_10 : decode cX7_isCast 10 = .ok (.ireturn, 1) := by decide +kernel
theorem dX7_canBeCast_0 : decode cX7_canBeCast 0 = .ok (.bipush 100, 2) := by decide +kernel
theorem dX7_canBeCast_2 : decode cX7_canBeCast 2 = .ok (.aload_n 0, 1) := by decide +kernel
theorem dX7_canBeCast_3 : decode cX7_canBeCast 3 = .ok (.iload_n 1, 1) := by decide +kernel
theorem dX7_canBeCast_4 : decode cX7_canBeCast 4 = .ok (.iconst 1, 1) := by decide +kernel
theorem dX7_canBeCast_5 : decode cX7_canBeCast 5 = .ok (.invokevirtual 68, 3) := by decide +kernel
theorem dX7_canBeCast_8 : decode cX7_canBeCast 8 = .ok (.imul, 1) := by decide +kernel
theorem dX7_canBeCast_9 : decode cX7_canBeCast 9 = .ok (.istore_n 3, 1) := by decide +kernel
theorem dX7_canBeCast_10 : decode cX7_canBeCast 10 = .ok (.aload_n 0, 1) := by decide +kernel
theorem dX7_canBeCast_11 : decode cX7_canBeCast 11 = .ok (.iload_n 2, 1) := by decide +kernel
theorem dX7_canBeCast_12 : decode cX7_canBeCast 12 = .ok (.iconst 1, 1) := by decide +kernel
theorem dX7_canBeCast_13 : decode cX7_canBeCast 13 = .ok (.invokevirtual 68, 3) := by decide +kernel
theorem dX7_canBeCast_16 : decode cX7_canBeCast 16 = .ok (.istore 4, 2) := by decide +kernel
theorem dX7_canBeCast_18 : decode cX7_canBeCast 18 = .ok (.iload_n 2, 1) := by decide +kernel
theorem dX7_canBeCast_19 : decode cX7_canBeCast 19 = .ok (.iload_n 1, 1) := by decide +kernel
theorem dX7_canBeCast_20 : decode cX7_canBeCast 20 = .ok (.if_icmp .eq 56, 3) := by decide +kernel
theorem dX7_canBeCast_23 : decode cX7_canBeCast 23 = .ok (.aload_n 0, 1) := by decide +kernel
theorem dX7_canBeCast_24 : decode cX7_canBeCast 24 = .ok (.iload_n 2, 1) := by decide +kernel
theorem dX7_canBeCast_25 : decode cX7_canBeCast 25 = .ok (.iconst 2, 1) := by decide +kernel
theorem dX7_canBeCast_26 : decode cX7_canBeCast 26 = .ok (.invokevirtual 68, 3) := by decide +kernel
theorem dX7_canBeCast_29 : decode cX7_canBeCast 29 = .ok (.aload_n 0, 1) := by decide +kernel
theorem dX7_canBeCast_30 : decode cX7_canBeCast 30 = .ok (.iload_n 1, 1) := by decide +kernel
theorem dX7_canBeCast_31 : decode cX7_canBeCast 31 = .ok (.iconst 2, 1) := by decide +kernel
theorem dX7_canBeCast_32 : decode cX7_canBeCast 32 = .ok (.invokevirtual 68, 3) := by decide +kernel
theorem dX7_canBeCast_35 : decode cX7_canBeCast 35 = .ok (.if_icmp .gt 41, 3) := by decide +kernel
theorem dX7_canBeCast_38 : decode cX7_canBeCast 38 = .ok (.aload_n 0, 1) := by decide +kernel
theorem dX7_canBeCast_39 : decode cX7_canBeCast 39 = .ok (.getfield 13, 3) := by decide +kernel
theorem dX7_canBeCast_42 : decode cX7_canBeCast 42 = .ok (.iload_n 2, 1) := by decide +kernel
theorem dX7_canBeCast_43 : decode cX7_canBeCast 43 = .ok (.laload, 1) := by decide +kernel
theorem dX7_canBeCast_44 : decode cX7_canBeCast 44 = .ok (.aload_n 0, 1) := by decide +kernel
theorem dX7_canBeCast_45 : decode cX7_canBeCast 45 = .ok (.getfield 13, 3) := by decide +kernel
theorem dX7_canBeCast_48 : decode cX7_canBeCast 48 = .ok (.iload_n 1, 1) := by decide +kernel
theorem dX7_canBeCast_49 : decode cX7_canBeCast 49 = .ok (.laload, 1) := by decide +kernel
theorem dX7_canBeCast_50 : decode cX7_canBeCast 50 = .ok (.lcmp, 1) := by decide +kernel
theorem dX7_canBeCast_51 : decode cX7_canBeCast 51 = .ok (.ifCond .ne 25, 3) := by decide +kernel
theorem dX7_canBeCast_54 : decode cX7_canBeCast 54 = .ok (.bipush 96, 2) := by decide +kernel
theorem dX7_canBeCast_56 : decode cX7_canBeCast 56 = .ok (.iload 4, 2) := by decide +kernel
theorem dX7_canBeCast_58 : decode cX7_canBeCast 58 = .ok (.imul, 1) := by decide +kernel
theorem dX7_canBeCast_59 : decode cX7_canBeCast 59 = .ok (.iload_n 3, 1) := by decide +kernel
theorem dX7_canBeCast_60 : decode cX7_canBeCast 60 = .ok (.if_icmp .gt 16, 3) := by decide +kernel
theorem dX7_canBeCast_63 : decode cX7_canBeCast 63 = .ok (.bipush 98, 2) := by decide +kernel
theorem dX7_canBeCast_65 : decode cX7_canBeCast 65 = .ok (.iload 4, 2) := by decide +kernel
theorem dX7_canBeCast_67 : decode cX7_canBeCast 67 = .ok (.imul, 1) := by decide +kernel
theorem dX7_canBeCast_68 : decode cX7_canBeCast 68 = .ok (.iload_n 3, 1) := by decide +kernel
theorem dX7_canBeCast_69 : decode cX7_canBeCast 69 = .ok (.if_icmp .lt 7, 3) := by decide +kernel
theorem dX7_canBeCast_72 : decode cX7_canBeCast 72 = .ok (.iconst 1, 1) := by decide +kernel
theorem dX7_canBeCast_73 : decode cX7_canBeCast 73 = .ok (.goto 4, 3) := by decide +kernel
theorem dX7_canBeCast_76 : decode cX7_canBeCast 76 = .ok (.iconst 0, 1) := by decide +kernel
theorem dX7_canBeCast_77 : decode cX7_canBeCast 77 = .ok (.ireturn, 1) := by decide +kernel
theorem dX7_fromOf_0 : decode cX7_fromOf 0 = .ok (.iconst 0, 1) := by decide +kernel
theorem dX7_fromOf_1 : decode cX7_fromOf 1 = .ok (.istore_n 2, 1) := by decide +kernel
theorem dX7_fromOf_2 : decode cX7_fromOf 2 = .ok (.iload_n 2, 1) := by decide +kernel
theorem dX7_fromOf_3 : decode cX7_fromOf 3 = .ok (.aload_n 0, 1) := by decide +kernel
theorem dX7_fromOf_4 : decode cX7_fromOf 4 = .ok (.getfield 7, 3) := by decide +kernel
theorem dX7_fromOf_7 : decode cX7_fromOf 7 = .ok (.iconst 0, 1) := by decide +kernel
theorem dX7_fromOf_8 : decode cX7_fromOf 8 = .ok (.iaload, 1) := by decide +kernel
theorem dX7_fromOf_9 : decode cX7_fromOf 9 = .ok (.if_icmp .ge 18, 3) := by decide +kernel
theorem dX7_fromOf_12 : decode cX7_fromOf 12 = .ok (.aload_n 0, 1) := by decide +kernel
theorem dX7_fromOf_13 : decode cX7_fromOf 13 = .ok (.iload_n 1, 1) := by decide +kernel
theorem dX7_fromOf_14 : decode cX7_fromOf 14 = .ok (.iload_n 2, 1) := by decide +kernel
theorem dX7_fromOf_15 : decode cX7_fromOf 15 = .ok (.invokevirtual 182, 3) := by decide +kernel
theorem dX7_fromOf_18 : decode cX7_fromOf 18 = .ok (.ifCond .ne 9, 3) := by decide +kernel
theorem dX7_fromOf_21 : decode cX7_fromOf 21 = .ok (.iinc 2 1, 3) := by decide +kernel
theorem dX7_fromOf_24 : decode cX7_fromOf 24 = .ok (.goto (-22), 3) := by decide +kernel
theorem dX7_fromOf_27 : decode cX7_fromOf 27 = .ok (.iload_n 2, 1) := by decide +kernel
theorem dX7_fromOf_28 : decode cX7_fromOf 28 = .ok (.aload_n 0, 1) := by decide +kernel
theorem dX7_fromOf_29 : decode cX7_fromOf 29 = .ok (.getfield 7, 3) := by decide +kernel
theorem dX7_fromOf_32 : decode cX7_fromOf 32 = .ok (.iconst 0, 1) := by decide +kernel
theorem dX7_fromOf_33 : decode cX7_fromOf 33 = .ok (.iaload, 1) := by decide +kernel
theorem dX7_fromOf_34 : decode cX7_fromOf 34 = .ok (.if_icmp .ge 7, 3) := by decide +kernel
theorem dX7_fromOf_37 : decode cX7_fromOf 37 = .ok (.iload_n 2, 1) := by decide +kernel
theorem dX7_fromOf_38 : decode cX7_fromOf 38 = .ok (.goto 4, 3) := by decide +kernel
theorem dX7_fromOf_41 : decode cX7_fromOf 41 = .ok (.iconst (-1), 1) := by decide +kernel
theorem dX7_fromOf_42 : decode cX7_fromOf 42 = .ok (.ireturn, 1) := by decide +kernel
theorem dX7_castOf_0 : decode cX7_castOf 0 = .ok (.aload_n 0, 1) := by decide +kernel
theorem dX7_castOf_1 : decode cX7_castOf 1 = .ok (.iload_n 1, 1) := by decide +kernel
theorem dX7_castOf_2 : decode cX7_castOf 2 = .ok (.invokevirtual 103, 3) := by decide +kernel
theorem dX7_castOf_5 : decode cX7_castOf 5 = .ok (.ifCond .ne 10, 3) := by decide +kernel
theorem dX7_castOf_8 : decode cX7_castOf 8 = .ok (.aload_n 0, 1) := by decide +kernel
theorem dX7_castOf_9 : decode cX7_castOf 9 = .ok (.ldc 63, 2) := by decide +kernel
theorem dX7_castOf_11 : decode cX7_castOf 11 = .ok (.invokevirtual 94, 3) := by decide +kernel
theorem dX7_castOf_14 : decode cX7_castOf 14 = .ok (.ireturn, 1) := by decide +kernel
theorem dX7_castOf_15 : decode cX7_castOf 15 = .ok (.aload_n 0, 1) := by decide +kernel
theorem dX7_castOf_16 : decode cX7_castOf 16 = .ok (.iload_n 1, 1) := by decide +kernel
theorem dX7_castOf_17 : decode cX7_castOf 17 = .ok (.invokevirtual 185, 3) := by decide +kernel
theorem dX7_castOf_20 : decode cX7_castOf 20 = .ok (.ifCond .ne 10, 3) := by decide +kernel
theorem dX7_castOf_23 : decode cX7_castOf 23 = .ok (.aload_n 0, 1) := by decide +kernel
theorem dX7_castOf_24 : decode cX7_castOf 24 = .ok (.ldc 137, 2) := by decide +kernel
theorem dX7_castOf_26 : decode cX7_castOf 26 = .ok (.invokevirtual 94, 3) := by decide +kernel
theorem dX7_castOf_29 : decode cX7_castOf 29 = .ok (.ireturn, 1) := by decide +kernel
theorem dX7_castOf_30 : decode cX7_castOf 30 = .ok (.aload_n 0, 1) := by decide +kernel
theorem dX7_castOf_31 : decode cX7_castOf 31 = .ok (.iload_n 1, 1) := by decide +kernel
theorem dX7_castOf_32 : decode cX7_castOf 32 = .ok (.invokevirtual 188, 3) := by decide +kernel
theorem dX7_castOf_35 : decode cX7_castOf 35 = .ok (.istore_n 2, 1) := by decide +kernel
theorem dX7_castOf_36 : decode cX7_castOf 36 = .ok (.iload_n 2, 1) := by decide +kernel
theorem dX7_castOf_37 : decode cX7_castOf 37 = .ok (.ifCond .ge 12, 3) := by decide +kernel
theorem dX7_castOf_40 : decode cX7_castOf 40 = .ok (.aload_n 0, 1) := by decide +kernel
theorem dX7_castOf_41 : decode cX7_castOf 41 = .ok (.ldc 136, 2) := by decide +kernel
theorem dX7_castOf_43 : decode cX7_castOf 43 = .ok (.invokevirtual 94, 3) := by decide +kernel
theorem dX7_castOf_46 : decode cX7_castOf 46 = .ok (.goto 4, 3) := by decide +kernel
theorem dX7_castOf_49 : decode cX7_castOf 49 = .ok (.iload_n 2, 1) := by decide +kernel
theorem dX7_castOf_50 : decode cX7_castOf 50 = .ok (.ireturn, 1) := by decide +kernel
theorem dX7_deep_0 : decode cX7_deep 0 = .ok (.aload_n 0, 1) := by decide +kernel
theorem dX7_deep_1 : decode cX7_deep 1 = .ok (.iload_n 1, 1) := by decide +kernel
theorem dX7_deep_2 : decode cX7_deep 2 = .ok (.invokevirtual 103, 3) := by decide +kernel
theorem dX7_deep_5 : decode cX7_deep 5 = .ok (.ifCond .ne 10, 3) := by decide +kernel
theorem dX7_deep_8 : decode cX7_deep 8 = .ok (.aload_n 0, 1) := by decide +kernel
theorem dX7_deep_9 : decode cX7_deep 9 = .ok (.ldc 63, 2) := by decide +kernel
theorem dX7_deep_11 : decode cX7_deep 11 = .ok (.invokevirtual 94, 3) := by decide +kernel
theorem dX7_deep_14 : decode cX7_deep 14 = .ok (.ireturn, 1) := by decide +kernel
theorem dX7_deep_15 : decode cX7_deep 15 = .ok (.iconst 0, 1) := by decide +kernel
theorem dX7_deep_16 : decode cX7_deep 16 = .ok (.istore_n 2, 1) := by decide +kernel
theorem dX7_deep_17 : decode cX7_deep 17 = .ok (.iload_n 1, 1) := by decide +kernel
theorem dX7_deep_18 : decode cX7_deep 18 = .ok (.istore_n 3, 1) := by decide +kernel
theorem dX7_deep_19 : decode cX7_deep 19 = .ok (.iconst 1, 1) := by decide +kernel
theorem dX7_deep_20 : decode cX7_deep 20 = .ok (.istore 4, 2) := by decide +kernel
theorem dX7_deep_22 : decode cX7_deep 22 = .ok (.iload 4, 2) := by decide +kernel
theorem dX7_deep_24 : decode cX7_deep 24 = .ok (.ifCond .eq 68, 3) := by decide +kernel
theorem dX7_deep_27 : decode cX7_deep 27 = .ok (.iload_n 2, 1) := by decide +kernel
theorem dX7_deep_28 : decode cX7_deep 28 = .ok (.bipush 12, 2) := by decide +kernel
theorem dX7_deep_30 : decode cX7_deep 30 = .ok (.if_icmp .ge 62, 3) := by decide +kernel
theorem dX7_deep_33 : decode cX7_deep 33 = .ok (.aload_n 0, 1) := by decide +kernel
theorem dX7_deep_34 : decode cX7_deep 34 = .ok (.iload_n 3, 1) := by decide +kernel
theorem dX7_deep_35 : decode cX7_deep 35 = .ok (.invokevirtual 185, 3) := by decide +kernel
theorem dX7_deep_38 : decode cX7_deep 38 = .ok (.ifCond .eq 11, 3) := by decide +kernel
theorem dX7_deep_41 : decode cX7_deep 41 = .ok (.aload_n 0, 1) := by decide +kernel
theorem dX7_deep_42 : decode cX7_deep 42 = .ok (.iload_n 3, 1) := by decide +kernel
theorem dX7_deep_43 : decode cX7_deep 43 = .ok (.invokevirtual 188, 3) := by decide +kernel
theorem dX7_deep_46 : decode cX7_deep 46 = .ok (.goto 4, 3) := by decide +kernel
theorem dX7_deep_49 : decode cX7_deep 49 = .ok (.iconst (-1), 1) := by decide +kernel
theorem dX7_deep_50 : decode cX7_deep 50 = .ok (.istore 5, 2) := by decide +kernel
theorem dX7_deep_52 : decode cX7_deep 52 = .ok (.iload 5, 2) := by decide +kernel
theorem dX7_deep_54 : decode cX7_deep 54 = .ok (.ifCond .lt 7, 3) := by decide +kernel
theorem dX7_deep_57 : decode cX7_deep 57 = .ok (.iconst 1, 1) := by decide +kernel
theorem dX7_deep_58 : decode cX7_deep 58 = .ok (.goto 4, 3) := by decide +kernel
theorem dX7_deep_61 : decode cX7_deep 61 = .ok (.iconst 0, 1) := by decide +kernel
theorem dX7_deep_62 : decode cX7_deep 62 = .ok (.istore 4, 2) := by decide +kernel
theorem dX7_deep_64 : decode cX7_deep 64 = .ok (.iload_n 2, 1) := by decide +kernel
theorem dX7_deep_65 : decode cX7_deep 65 = .ok (.iload 4, 2) := by decide +kernel
theorem dX7_deep_67 : decode cX7_deep 67 = .ok (.ifCond .eq 7, 3) := by decide +kernel
theorem dX7_deep_70 : decode cX7_deep 70 = .ok (.iconst 1, 1) := by decide +kernel
theorem dX7_deep_71 : decode cX7_deep 71 = .ok (.goto 4, 3) := by decide +kernel
theorem dX7_deep_74 : decode cX7_deep 74 = .ok (.iconst 0, 1) := by decide +kernel
theorem dX7_deep_75 : decode cX7_deep 75 = .ok (.iadd, 1) := by decide +kernel
theorem dX7_deep_76 : decode cX7_deep 76 = .ok (.istore_n 2, 1) := by decide +kernel
theorem dX7_deep_77 : decode cX7_deep 77 = .ok (.iload 4, 2) := by decide +kernel
theorem dX7_deep_79 : decode cX7_deep 79 = .ok (.ifCond .eq 8, 3) := by decide +kernel
theorem dX7_deep_82 : decode cX7_deep 82 = .ok (.iload 5, 2) := by decide +kernel
theorem dX7_deep_84 : decode cX7_deep 84 = .ok (.goto 4, 3) := by decide +kernel
theorem dX7_deep_87 : decode cX7_deep 87 = .ok (.iload_n 3, 1) := by decide +kernel
theorem dX7_deep_88 : decode cX7_deep 88 = .ok (.istore_n 3, 1) := by decide +kernel
theorem dX7_deep_89 : decode cX7_deep 89 = .ok (.goto (-67), 3) := by decide +kernel
theorem dX7_deep_92 : decode cX7_deep 92 = .ok (.iload_n 2, 1) := by decide +kernel
theorem dX7_deep_93 : decode cX7_deep 93 = .ok (.ireturn, 1) := by decide +kernel
theorem dX7_tell_0 : decode cX7_tell 0 = .ok (.iconst 1, 1) := by decide +kernel
theorem dX7_tell_1 : decode cX7_tell 1 = .ok (.aload_n 0, 1) := by decide +kernel
theorem dX7_tell_2 : decode cX7_tell 2 = .ok (.getfield 7, 3) := by decide +kernel
theorem dX7_tell_5 : decode cX7_tell 5 = .ok (.iconst 0, 1) := by decide +kernel
theorem dX7_tell_6 : decode cX7_tell 6 = .ok (.iaload, 1) := by decide +kernel
theorem dX7_tell_7 : decode cX7_tell 7 = .ok (.ishl, 1) := by decide +kernel
theorem dX7_tell_8 : decode cX7_tell 8 = .ok (.iconst 1, 1) := by decide +kernel
theorem dX7_tell_9 : decode cX7_tell 9 = .ok (.isub, 1) := by decide +kernel
theorem dX7_tell_10 : decode cX7_tell 10 = .ok (.istore_n 1, 1) := by decide +kernel
theorem dX7_tell_11 : decode cX7_tell 11 = .ok (.aload_n 0, 1) := by decide +kernel
theorem dX7_tell_12 : decode cX7_tell 12 = .ok (.iload_n 1, 1) := by decide +kernel
theorem dX7_tell_13 : decode cX7_tell 13 = .ok (.invokevirtual 168, 3) := by decide +kernel
theorem dX7_tell_16 : decode cX7_tell 16 = .ok (.istore_n 2, 1) := by decide +kernel
theorem dX7_tell_17 : decode cX7_tell 17 = .ok (.iconst (-1), 1) := by decide +kernel
theorem dX7_tell_18 : decode cX7_tell 18 = .ok (.istore_n 3, 1) := by decide +kernel
theorem dX7_tell_19 : decode cX7_tell 19 = .ok (.iconst 0, 1) := by decide +kernel
theorem dX7_tell_20 : decode cX7_tell 20 = .ok (.istore 4, 2) := by decide +kernel
theorem dX7_tell_22 : decode cX7_tell 22 = .ok (.iconst 0, 1) := by decide +kernel
theorem dX7_tell_23 : decode cX7_tell 23 = .ok (.istore 5, 2) := by decide +kernel
theorem dX7_tell_25 : decode cX7_tell 25 = .ok (.iload 5, 2) := by decide +kernel
theorem dX7_tell_27 : decode cX7_tell 27 = .ok (.aload_n 0, 1) := by decide +kernel
theorem dX7_tell_28 : decode cX7_tell 28 = .ok (.getfield 7, 3) := by decide +kernel
theorem dX7_tell_31 : decode cX7_tell 31 = .ok (.iconst 0, 1) := by decide +kernel
theorem dX7_tell_32 : decode cX7_tell 32 = .ok (.iaload, 1) := by decide +kernel
theorem dX7_tell_33 : decode cX7_tell 33 = .ok (.if_icmp .ge 89, 3) := by decide +kernel
theorem dX7_tell_36 : decode cX7_tell 36 = .ok (.aload_n 0, 1) := by decide +kernel
theorem dX7_tell_37 : decode cX7_tell 37 = .ok (.iload 5, 2) := by decide +kernel
theorem dX7_tell_39 : decode cX7_tell 39 = .ok (.iconst 3, 1) := by decide +kernel
theorem dX7_tell_40 : decode cX7_tell 40 = .ok (.invokevirtual 68, 3) := by decide +kernel
theorem dX7_tell_43 : decode cX7_tell 43 = .ok (.ifCond .ne 73, 3) := by decide +kernel
theorem dX7_tell_46 : decode cX7_tell 46 = .ok (.aload_n 0, 1) := by decide +kernel
theorem dX7_tell_47 : decode cX7_tell 47 = .ok (.iload 5, 2) := by decide +kernel
theorem dX7_tell_49 : decode cX7_tell 49 = .ok (.iconst 3, 1) := by decide +kernel
theorem dX7_tell_50 : decode cX7_tell 50 = .ok (.iconst 1, 1) := by decide +kernel
theorem dX7_tell_51 : decode cX7_tell 51 = .ok (.invokevirtual 86, 3) := by decide +kernel
theorem dX7_tell_54 : decode cX7_tell 54 = .ok (.aload_n 0, 1) := by decide +kernel
theorem dX7_tell_55 : decode cX7_tell 55 = .ok (.iload_n 1, 1) := by decide +kernel
theorem dX7_tell_56 : decode cX7_tell 56 = .ok (.invokevirtual 168, 3) := by decide +kernel
theorem dX7_tell_59 : decode cX7_tell 59 = .ok (.iload_n 2, 1) := by decide +kernel
theorem dX7_tell_60 : decode cX7_tell 60 = .ok (.isub, 1) := by decide +kernel
theorem dX7_tell_61 : decode cX7_tell 61 = .ok (.istore 6, 2) := by decide +kernel
theorem dX7_tell_63 : decode cX7_tell 63 = .ok (.aload_n 0, 1) := by decide +kernel
theorem dX7_tell_64 : decode cX7_tell 64 = .ok (.iload 5, 2) := by decide +kernel
theorem dX7_tell_66 : decode cX7_tell 66 = .ok (.iconst 3, 1) := by decide +kernel
theorem dX7_tell_67 : decode cX7_tell 67 = .ok (.iconst 0, 1) := by decide +kernel
theorem dX7_tell_68 : decode cX7_tell 68 = .ok (.invokevirtual 86, 3) := by decide +kernel
theorem dX7_tell_71 : decode cX7_tell 71 = .ok (.iload 6, 2) := by decide +kernel
theorem dX7_tell_73 : decode cX7_tell 73 = .ok (.ifCond .ge 9, 3) := by decide +kernel
theorem dX7_tell_76 : decode cX7_tell 76 = .ok (.iload 6, 2) := by decide +kernel
theorem dX7_tell_78 : decode cX7_tell 78 = .ok (.ineg, 1) := by decide +kernel
theorem dX7_tell_79 : decode cX7_tell 79 = .ok (.goto 5, 3) := by decide +kernel
theorem dX7_tell_82 : decode cX7_tell 82 = .ok (.iload 6, 2) := by decide +kernel
theorem dX7_tell_84 : decode cX7_tell 84 = .ok (.istore 6, 2) := by decide +kernel
theorem dX7_tell_86 : decode cX7_tell 86 = .ok (.iload 6, 2) := by decide +kernel
theorem dX7_tell_88 : decode cX7_tell 88 = .ok (.iload 4, 2) := by decide +kernel
theorem dX7_tell_90 : decode cX7_tell 90 = .ok (.if_icmp .le 8, 3) := by decide +kernel
theorem dX7_tell_93 : decode cX7_tell 93 = .ok (.iload 5, 2) := by decide +kernel
theorem dX7_tell_95 : decode cX7_tell 95 = .ok (.goto 4, 3) := by decide +kernel
theorem dX7_tell_98 : decode cX7_tell 98 = .ok (.iload_n 3, 1) := by decide +kernel
theorem dX7_tell_99 : decode cX7_tell 99 = .ok (.istore_n 3, 1) := by decide +kernel
theorem dX7_tell_100 : decode cX7_tell 100 = .ok (.iload 6, 2) := by decide +kernel
theorem dX7_tell_102 : decode cX7_tell 102 = .ok (.iload 4, 2) := by decide +kernel
theorem dX7_tell_104 : decode cX7_tell 104 = .ok (.if_icmp .le 8, 3) := by decide +kernel
theorem dX7_tell_107 : decode cX7_tell 107 = .ok (.iload 6, 2) := by decide +kernel
theorem dX7_tell_109 : decode cX7_tell 109 = .ok (.goto 5, 3) := by decide +kernel
theorem dX7_tell_112 : decode cX7_tell 112 = .ok (.iload 4, 2) := by decide +kernel
theorem dX7_tell_114 : decode cX7_tell 114 = .ok (.istore 4, 2) := by decide +kernel
theorem dX7_tell_116 : decode cX7_tell 116 = .ok (.iinc 5 1, 3) := by decide +kernel
theorem dX7_tell_119 : decode cX7_tell 119 = .ok (.goto (-94), 3) := by decide +kernel
theorem dX7_tell_122 : decode cX7_tell 122 = .ok (.iload_n 3, 1) := by decide +kernel
theorem dX7_tell_123 : decode cX7_tell 123 = .ok (.ifCond .ge 12, 3) := by decide +kernel
theorem dX7_tell_126 : decode cX7_tell 126 = .ok (.aload_n 0, 1) := by decide +kernel
theorem dX7_tell_127 : decode cX7_tell 127 = .ok (.ldc 136, 2) := by decide +kernel
theorem dX7_tell_129 : decode cX7_tell 129 = .ok (.invokevirtual 94, 3) := by decide +kernel
theorem dX7_tell_132 : decode cX7_tell 132 = .ok (.goto 4, 3) := by decide +kernel
theorem dX7_tell_135 : decode cX7_tell 135 = .ok (.iload_n 3, 1) := by decide +kernel
theorem dX7_tell_136 : decode cX7_tell 136 = .ok (.ireturn, 1) := by decide +kernel
theorem dX7_withHow_0 : decode cX7_withHow 0 = .ok (.aload_n 0, 1) := by decide +kernel
theorem dX7_withHow_1 : decode cX7_withHow 1 = .ok (.invokevirtual 147, 3) := by decide +kernel
theorem dX7_withHow_4 : decode cX7_withHow 4 = .ok (.iconst 0, 1) := by decide +kernel
theorem dX7_withHow_5 : decode cX7_withHow 5 = .ok (.istore_n 2, 1) := by decide +kernel
theorem dX7_withHow_6 : decode cX7_withHow 6 = .ok (.iconst 0, 1) := by decide +kernel
theorem dX7_withHow_7 : decode cX7_withHow 7 = .ok (.istore_n 3, 1) := by decide +kernel
theorem dX7_withHow_8 : decode cX7_withHow 8 = .ok (.iload_n 3, 1) := by decide +kernel
theorem dX7_withHow_9 : decode cX7_withHow 9 = .ok (.aload_n 0, 1) := by decide +kernel
theorem dX7_withHow_10 : decode cX7_withHow 10 = .ok (.getfield 7, 3) := by decide +kernel
theorem dX7_withHow_13 : decode cX7_withHow 13 = .ok (.iconst 0, 1) := by decide +kernel
theorem dX7_withHow_14 : decode cX7_withHow 14 = .ok (.iaload, 1) := by decide +kernel
theorem dX7_withHow_15 : decode cX7_withHow 15 = .ok (.if_icmp .ge 31, 3) := by decide +kernel
theorem dX7_withHow_18 : decode cX7_withHow 18 = .ok (.iload_n 2, 1) := by decide +kernel
theorem dX7_withHow_19 : decode cX7_withHow 19 = .ok (.iload_n 3, 1) := by decide +kernel
theorem dX7_withHow_20 : decode cX7_withHow 20 = .ok (.iload_n 1, 1) := by decide +kernel
theorem dX7_withHow_21 : decode cX7_withHow 21 = .ok (.if_icmp .eq 16, 3) := by decide +kernel
theorem dX7_withHow_24 : decode cX7_withHow 24 = .ok (.aload_n 0, 1) := by decide +kernel
theorem dX7_withHow_25 : decode cX7_withHow 25 = .ok (.iload_n 1, 1) := by decide +kernel
theorem dX7_withHow_26 : decode cX7_withHow 26 = .ok (.iload_n 3, 1) := by decide +kernel
theorem dX7_withHow_27 : decode cX7_withHow 27 = .ok (.invokevirtual 144, 3) := by decide +kernel
theorem dX7_withHow_30 : decode cX7_withHow 30 = .ok (.ifCond .eq 7, 3) := by decide +kernel
theorem dX7_withHow_33 : decode cX7_withHow 33 = .ok (.iconst 1, 1) := by decide +kernel
theorem dX7_withHow_34 : decode cX7_withHow 34 = .ok (.goto 4, 3) := by decide +kernel
theorem dX7_withHow_37 : decode cX7_withHow 37 = .ok (.iconst 0, 1) := by decide +kernel
theorem dX7_withHow_38 : decode cX7_withHow 38 = .ok (.iadd, 1) := by decide +kernel
theorem dX7_withHow_39 : decode cX7_withHow 39 = .ok (.istore_n 2, 1) := by decide +kernel
theorem dX7_withHow_40 : decode cX7_withHow 40 = .ok (.iinc 3 1, 3) := by decide +kernel
theorem dX7_withHow_43 : decode cX7_withHow 43 = .ok (.goto (-35), 3) := by decide +kernel
theorem dX7_withHow_46 : decode cX7_withHow 46 = .ok (.iload_n 2, 1) := by decide +kernel
theorem dX7_withHow_47 : decode cX7_withHow 47 = .ok (.ireturn, 1) := by decide +kernel
theorem dX7_kind_0 : decode cX7_kind 0 = .ok (.aload_n 0, 1) := by decide +kernel
theorem dX7_kind_1 : decode cX7_kind 1 = .ok (.iload_n 1, 1) := by decide +kernel
theorem dX7_kind_2 : decode cX7_kind 2 = .ok (.invokevirtual 103, 3) := by decide +kernel
theorem dX7_kind_5 : decode cX7_kind 5 = .ok (.ifCond .ne 10, 3) := by decide +kernel
theorem dX7_kind_8 : decode cX7_kind 8 = .ok (.aload_n 0, 1) := by decide +kernel
theorem dX7_kind_9 : decode cX7_kind 9 = .ok (.ldc 63, 2) := by decide +kernel
theorem dX7_kind_11 : decode cX7_kind 11 = .ok (.invokevirtual 94, 3) := by decide +kernel
theorem dX7_kind_14 : decode cX7_kind 14 = .ok (.ireturn, 1) := by decide +kernel
theorem dX7_kind_15 : decode cX7_kind 15 = .ok (.aload_n 0, 1) := by decide +kernel
theorem dX7_kind_16 : decode cX7_kind 16 = .ok (.iload_n 1, 1) := by decide +kernel
theorem dX7_kind_17 : decode cX7_kind 17 = .ok (.iconst 0, 1) := by decide +kernel
theorem dX7_kind_18 : decode cX7_kind 18 = .ok (.invokevirtual 68, 3) := by decide +kernel
theorem dX7_kind_21 : decode cX7_kind 21 = .ok (.istore_n 2, 1) := by decide +kernel
theorem dX7_kind_22 : decode cX7_kind 22 = .ok (.iconst 0, 1) := by decide +kernel
theorem dX7_kind_23 : decode cX7_kind 23 = .ok (.istore_n 3, 1) := by decide +kernel
theorem dX7_kind_24 : decode cX7_kind 24 = .ok (.iconst (-1), 1) := by decide +kernel
theorem dX7_kind_25 : decode cX7_kind 25 = .ok (.istore 4, 2) := by decide +kernel
theorem dX7_kind_27 : decode cX7_kind 27 = .ok (.iconst 0, 1) := by decide +kernel
theorem dX7_kind_28 : decode cX7_kind 28 = .ok (.istore 5, 2) := by decide +kernel
theorem dX7_kind_30 : decode cX7_kind 30 = .ok (.iload 5, 2) := by decide +kernel
theorem dX7_kind_32 : decode cX7_kind 32 = .ok (.iconst 5, 1) := by decide +kernel
theorem dX7_kind_33 : decode cX7_kind 33 = .ok (.if_icmp .gt 54, 3) := by decide +kernel
theorem dX7_kind_36 : decode cX7_kind 36 = .ok (.aload_n 0, 1) := by decide +kernel
theorem dX7_kind_37 : decode cX7_kind 37 = .ok (.iload_n 1, 1) := by decide +kernel
theorem dX7_kind_38 : decode cX7_kind 38 = .ok (.iconst 0, 1) := by decide +kernel
theorem dX7_kind_39 : decode cX7_kind 39 = .ok (.iload 5, 2) := by decide +kernel
theorem dX7_kind_41 : decode cX7_kind 41 = .ok (.invokevirtual 86, 3) := by decide +kernel
theorem dX7_kind_44 : decode cX7_kind 44 = .ok (.aload_n 0, 1) := by decide +kernel
theorem dX7_kind_45 : decode cX7_kind 45 = .ok (.iload_n 1, 1) := by decide +kernel
theorem dX7_kind_46 : decode cX7_kind 46 = .ok (.invokevirtual 191, 3) := by decide +kernel
theorem dX7_kind_49 : decode cX7_kind 49 = .ok (.istore 6, 2) := by decide +kernel
theorem dX7_kind_51 : decode cX7_kind 51 = .ok (.iload 6, 2) := by decide +kernel
theorem dX7_kind_53 : decode cX7_kind 53 = .ok (.iload 4, 2) := by decide +kernel
theorem dX7_kind_55 : decode cX7_kind 55 = .ok (.if_icmp .le 8, 3) := by decide +kernel
theorem dX7_kind_58 : decode cX7_kind 58 = .ok (.iload 5, 2) := by decide +kernel
theorem dX7_kind_60 : decode cX7_kind 60 = .ok (.goto 4, 3) := by decide +kernel
theorem dX7_kind_63 : decode cX7_kind 63 = .ok (.iload_n 3, 1) := by decide +kernel
theorem dX7_kind_64 : decode cX7_kind 64 = .ok (.istore_n 3, 1) := by decide +kernel
theorem dX7_kind_65 : decode cX7_kind 65 = .ok (.iload 6, 2) := by decide +kernel
theorem dX7_kind_67 : decode cX7_kind 67 = .ok (.iload 4, 2) := by decide +kernel
theorem dX7_kind_69 : decode cX7_kind 69 = .ok (.if_icmp .le 8, 3) := by decide +kernel
theorem dX7_kind_72 : decode cX7_kind 72 = .ok (.iload 6, 2) := by decide +kernel
theorem dX7_kind_74 : decode cX7_kind 74 = .ok (.goto 5, 3) := by decide +kernel
theorem dX7_kind_77 : decode cX7_kind 77 = .ok (.iload 4, 2) := by decide +kernel
theorem dX7_kind_79 : decode cX7_kind 79 = .ok (.istore 4, 2) := by decide +kernel
theorem dX7_kind_81 : decode cX7_kind 81 = .ok (.iinc 5 1, 3) := by decide +kernel
theorem dX7_kind_84 : decode cX7_kind 84 = .ok (.goto (-54), 3) := by decide +kernel
theorem dX7_kind_87 : decode cX7_kind 87 = .ok (.aload_n 0, 1) := by decide +kernel
theorem dX7_kind_88 : decode cX7_kind 88 = .ok (.iload_n 1, 1) := by decide +kernel
theorem dX7_kind_89 : decode cX7_kind 89 = .ok (.iconst 0, 1) := by decide +kernel
theorem dX7_kind_90 : decode cX7_kind 90 = .ok (.iload_n 2, 1) := by decide +kernel
theorem dX7_kind_91 : decode cX7_kind 91 = .ok (.invokevirtual 86, 3) := by decide +kernel
theorem dX7_kind_94 : decode cX7_kind 94 = .ok (.iload_n 3, 1) := by decide +kernel
theorem dX7_kind_95 : decode cX7_kind 95 = .ok (.ireturn, 1) := by decide +kernel
theorem dX7_pairs_0 : decode cX7_pairs 0 = .ok (.iconst 0, 1) := by decide +kernel
theorem dX7_pairs_1 : decode cX7_pairs 1 = .ok (.istore_n 1, 1) := by decide +kernel
theorem dX7_pairs_2 : decode cX7_pairs 2 = .ok (.iconst 0, 1) := by decide +kernel
theorem dX7_pairs_3 : decode cX7_pairs 3 = .ok (.istore_n 2, 1) := by decide +kernel
theorem dX7_pairs_4 : decode cX7_pairs 4 = .ok (.iload_n 2, 1) := by decide +kernel
theorem dX7_pairs_5 : decode cX7_pairs 5 = .ok (.aload_n 0, 1) := by decide +kernel
theorem dX7_pairs_6 : decode cX7_pairs 6 = .ok (.getfield 7, 3) := by decide +kernel
theorem dX7_pairs_9 : decode cX7_pairs 9 = .ok (.iconst 0, 1) := by decide +kernel
theorem dX7_pairs_10 : decode cX7_pairs 10 = .ok (.iaload, 1) := by decide +kernel
theorem dX7_pairs_11 : decode cX7_pairs 11 = .ok (.if_icmp .ge 17, 3) := by decide +kernel
theorem dX7_pairs_14 : decode cX7_pairs 14 = .ok (.iload_n 1, 1) := by decide +kernel
theorem dX7_pairs_15 : decode cX7_pairs 15 = .ok (.aload_n 0, 1) := by decide +kernel
theorem dX7_pairs_16 : decode cX7_pairs 16 = .ok (.iload_n 2, 1) := by decide +kernel
theorem dX7_pairs_17 : decode cX7_pairs 17 = .ok (.invokevirtual 191, 3) := by decide +kernel
theorem dX7_pairs_20 : decode cX7_pairs 20 = .ok (.iadd, 1) := by decide +kernel
theorem dX7_pairs_21 : decode cX7_pairs 21 = .ok (.istore_n 1, 1) := by decide +kernel
theorem dX7_pairs_22 : decode cX7_pairs 22 = .ok (.iinc 2 1, 3) := by decide +kernel
theorem dX7_pairs_25 : decode cX7_pairs 25 = .ok (.goto (-21), 3) := by decide +kernel
theorem dX7_pairs_28 : decode cX7_pairs 28 = .ok (.iload_n 1, 1) := by decide +kernel
theorem dX7_pairs_29 : decode cX7_pairs 29 = .ok (.iconst 2, 1) := by decide +kernel
theorem dX7_pairs_30 : decode cX7_pairs 30 = .ok (.idiv, 1) := by decide +kernel
theorem dX7_pairs_31 : decode cX7_pairs 31 = .ok (.ireturn, 1) := by decide +kernel
theorem dX7_feed_0 : decode cX7_feed 0 = .ok (.iload_n 2, 1) := by decide +kernel
theorem dX7_feed_1 : decode cX7_feed 1 = .ok (.iconst 1, 1) := by decide +kernel
theorem dX7_feed_2 : decode cX7_feed 2 = .ok (.iconst 4, 1) := by decide +kernel
theorem dX7_feed_3 : decode cX7_feed 3 = .ok (.invokestatic 64, 3) := by decide +kernel
theorem dX7_feed_6 : decode cX7_feed 6 = .ok (.ifCond .ne 10, 3) := by decide +kernel
theorem dX7_feed_9 : decode cX7_feed 9 = .ok (.aload_n 0, 1) := by decide +kernel
theorem dX7_feed_10 : decode cX7_feed 10 = .ok (.ldc 63, 2) := by decide +kernel
theorem dX7_feed_12 : decode cX7_feed 12 = .ok (.invokevirtual 94, 3) := by decide +kernel
theorem dX7_feed_15 : decode cX7_feed 15 = .ok (.ireturn, 1) := by decide +kernel
theorem dX7_feed_16 : decode cX7_feed 16 = .ok (.aload_n 0, 1) := by decide +kernel
theorem dX7_feed_17 : decode cX7_feed 17 = .ok (.getfield 194, 3) := by decide +kernel
theorem dX7_feed_20 : decode cX7_feed 20 = .ok (.iload_n 2, 1) := by decide +kernel
theorem dX7_feed_21 : decode cX7_feed 21 = .ok (.iadd, 1) := by decide +kernel
theorem dX7_feed_22 : decode cX7_feed 22 = .ok (.bipush 120, 2) := by decide +kernel
theorem dX7_feed_24 : decode cX7_feed 24 = .ok (.if_icmp .le 10, 3) := by decide +kernel
theorem dX7_feed_27 : decode cX7_feed 27 = .ok (.aload_n 0, 1) := by decide +kernel
theorem dX7_feed_28 : decode cX7_feed 28 = .ok (.ldc 98, 2) := by decide +kernel
theorem dX7_feed_30 : decode cX7_feed 30 = .ok (.invokevirtual 94, 3) := by decide +kernel
theorem dX7_feed_33 : decode cX7_feed 33 = .ok (.ireturn, 1) := by decide +kernel
theorem dX7_feed_34 : decode cX7_feed 34 = .ok (.iload_n 2, 1) := by decide +kernel
theorem dX7_feed_35 : decode cX7_feed 35 = .ok (.iconst 1, 1) := by decide +kernel
theorem dX7_feed_36 : decode cX7_feed 36 = .ok (.isub, 1) := by decide +kernel
theorem dX7_feed_37 : decode cX7_feed 37 = .ok (.istore_n 3, 1) := by decide +kernel
theorem dX7_feed_38 : decode cX7_feed 38 = .ok (.iload_n 3, 1) := by decide +kernel
theorem dX7_feed_39 : decode cX7_feed 39 = .ok (.ifCond .lt 38, 3) := by decide +kernel
theorem dX7_feed_42 : decode cX7_feed 42 = .ok (.aload_n 0, 1) := by decide +kernel
theorem dX7_feed_43 : decode cX7_feed 43 = .ok (.getfield 36, 3) := by decide +kernel
theorem dX7_feed_46 : decode cX7_feed 46 = .ok (.aload_n 0, 1) := by decide +kernel
theorem dX7_feed_47 : decode cX7_feed 47 = .ok (.getfield 194, 3) := by decide +kernel
theorem dX7_feed_50 : decode cX7_feed 50 = .ok (.iload_n 1, 1) := by decide +kernel
theorem dX7_feed_51 : decode cX7_feed 51 = .ok (.bipush 8, 2) := by decide +kernel
theorem dX7_feed_53 : decode cX7_feed 53 = .ok (.iload_n 3, 1) := by decide +kernel
theorem dX7_feed_54 : decode cX7_feed 54 = .ok (.imul, 1) := by decide +kernel
theorem dX7_feed_55 : decode cX7_feed 55 = .ok (.ishr, 1) := by decide +kernel
theorem dX7_feed_56 : decode cX7_feed 56 = .ok (.sipush 255, 3) := by decide +kernel
theorem dX7_feed_59 : decode cX7_feed 59 = .ok (.iand, 1) := by decide +kernel
theorem dX7_feed_60 : decode cX7_feed 60 = .ok (.iastore, 1) := by decide +kernel
theorem dX7_feed_61 : decode cX7_feed 61 = .ok (.aload_n 0, 1) := by decide +kernel
theorem dX7_feed_62 : decode cX7_feed 62 = .ok (.dup, 1) := by decide +kernel
theorem dX7_feed_63 : decode cX7_feed 63 = .ok (.getfield 194, 3) := by decide +kernel
theorem dX7_feed_66 : decode cX7_feed 66 = .ok (.iconst 1, 1) := by decide +kernel
theorem dX7_feed_67 : decode cX7_feed 67 = .ok (.iadd, 1) := by decide +kernel
theorem dX7_feed_68 : decode cX7_feed 68 = .ok (.putfield 194, 3) := by decide +kernel
theorem dX7_feed_71 : decode cX7_feed 71 = .ok (.iinc 3 (-1), 3) := by decide +kernel
theorem dX7_feed_74 : decode cX7_feed 74 = .ok (.goto (-36), 3) := by decide +kernel
theorem dX7_feed_77 : decode cX7_feed 77 = .ok (.aload_n 0, 1) := by decide +kernel
theorem dX7_feed_78 : decode cX7_feed 78 = .ok (.getfield 194, 3) := by decide +kernel
theorem dX7_feed_81 : decode cX7_feed 81 = .ok (.ireturn, 1) := by decide +kernel
theorem dX7_wipe_0 : decode cX7_wipe 0 = .ok (.aload_n 0, 1) := by decide +kernel
theorem dX7_wipe_1 : decode cX7_wipe 1 = .ok (.getfield 194, 3) := by decide +kernel
theorem dX7_wipe_4 : decode cX7_wipe 4 = .ok (.istore_n 1, 1) := by decide +kernel
theorem dX7_wipe_5 : decode cX7_wipe 5 = .ok (.aload_n 0, 1) := by decide +kernel
theorem dX7_wipe_6 : decode cX7_wipe 6 = .ok (.iconst 0, 1) := by decide +kernel
theorem dX7_wipe_7 : decode cX7_wipe 7 = .ok (.putfield 194, 3) := by decide +kernel
theorem dX7_wipe_10 : decode cX7_wipe 10 = .ok (.iload_n 1, 1) := by decide +kernel
theorem dX7_wipe_11 : decode cX7_wipe 11 = .ok (.ireturn, 1) := by decide +kernel
theorem dX7_byteAt_0 : decode cX7_byteAt 0 = .ok (.iload_n 1, 1) := by decide +kernel
theorem dX7_byteAt_1 : decode cX7_byteAt 1 = .ok (.aload_n 0, 1) := by decide +kernel
theorem dX7_byteAt_2 : decode cX7_byteAt 2 = .ok (.getfield 194, 3) := by decide +kernel
theorem dX7_byteAt_5 : decode cX7_byteAt 5 = .ok (.if_icmp .ge 12, 3) := by decide +kernel
theorem dX7_byteAt_8 : decode cX7_byteAt 8 = .ok (.aload_n 0, 1) := by decide +kernel
theorem dX7_byteAt_9 : decode cX7_byteAt 9 = .ok (.getfield 36, 3) := by decide +kernel
theorem dX7_byteAt_12 : decode cX7_byteAt 12 = .ok (.iload_n 1, 1) := by decide +kernel
theorem dX7_byteAt_13 : decode cX7_byteAt 13 = .ok (.iaload, 1) := by decide +kernel
theorem dX7_byteAt_14 : decode cX7_byteAt 14 = .ok (.goto 4, 3) := by decide +kernel
theorem dX7_byteAt_17 : decode cX7_byteAt 17 = .ok (.iconst (-1), 1) := by decide +kernel
theorem dX7_byteAt_18 : decode cX7_byteAt 18 = .ok (.ireturn, 1) := by decide +kernel
theorem dX7_isLetter_0 : decode cX7_isLetter 0 = .ok (.iload_n 0, 1) := by decide +kernel
theorem dX7_isLetter_1 : decode cX7_isLetter 1 = .ok (.bipush 97, 2) := by decide +kernel
theorem dX7_isLetter_3 : decode cX7_isLetter 3 = .ok (.bipush 122, 2) := by decide +kernel
theorem dX7_isLetter_5 : decode cX7_isLetter 5 = .ok (.invokestatic 64, 3) := by decide +kernel
theorem dX7_isLetter_8 : decode cX7_isLetter 8 = .ok (.ireturn, 1) := by decide +kernel
theorem dX7_isDigit_0 : decode cX7_isDigit 0 = .ok (.iload_n 0, 1) := by decide +kernel
theorem dX7_isDigit_1 : decode cX7_isDigit 1 = .ok (.bipush 48, 2) := by decide +kernel
theorem dX7_isDigit_3 : decode cX7_isDigit 3 = .ok (.bipush 57, 2) := by decide +kernel
theorem dX7_isDigit_5 : decode cX7_isDigit 5 = .ok (.invokestatic 64, 3) := by decide +kernel
theorem dX7_isDigit_8 : decode cX7_isDigit 8 = .ok (.ireturn, 1) := by decide +kernel
theorem dX7_advance_0 : decode cX7_advance 0 = .ok (.aload_n 0, 1) := by decide +kernel
theorem dX7_advance_1 : decode cX7_advance 1 = .ok (.aload_n 0, 1) := by decide +kernel
theorem dX7_advance_2 : decode cX7_advance 2 = .ok (.getfield 198, 3) := by decide +kernel
theorem dX7_advance_5 : decode cX7_advance 5 = .ok (.putfield 201, 3) := by decide +kernel
theorem dX7_advance_8 : decode cX7_advance 8 = .ok (.aload_n 0, 1) := by decide +kernel
theorem dX7_advance_9 : decode cX7_advance 9 = .ok (.aload_n 0, 1) := by decide +kernel
theorem dX7_advance_10 : decode cX7_advance 10 = .ok (.getfield 201, 3) := by decide +kernel
theorem dX7_advance_13 : decode cX7_advance 13 = .ok (.invokevirtual 204, 3) := by decide +kernel
theorem dX7_advance_16 : decode cX7_advance 16 = .ok (.bipush 32, 2) := by decide +kernel
theorem dX7_advance_18 : decode cX7_advance 18 = .ok (.if_icmp .ne 16, 3) := by decide +kernel
theorem dX7_advance_21 : decode cX7_advance 21 = .ok (.aload_n 0, 1) := by decide +kernel
theorem dX7_advance_22 : decode cX7_advance 22 = .ok (.dup, 1) := by decide +kernel
theorem dX7_advance_23 : decode cX7_advance 23 = .ok (.getfield 201, 3) := by decide +kernel
theorem dX7_advance_26 : decode cX7_advance 26 = .ok (.iconst 1, 1) := by decide +kernel
theorem dX7_advance_27 : decode cX7_advance 27 = .ok (.iadd, 1) := by decide +kernel
theorem dX7_advance_28 : decode cX7_advance 28 = .ok (.putfield 201, 3) := by decide +kernel
theorem dX7_advance_31 : decode cX7_advance 31 = .ok (.goto (-23), 3) := by decide +kernel
theorem dX7_advance_34 : decode cX7_advance 34 = .ok (.aload_n 0, 1) := by decide +kernel
theorem dX7_advance_35 : decode cX7_advance 35 = .ok (.aload_n 0, 1) := by decide +kernel
theorem dX7_advance_36 : decode cX7_advance 36 = .ok (.getfield 201, 3) := by decide +kernel
theorem dX7_advance_39 : decode cX7_advance 39 = .ok (.putfield 198, 3) := by decide +kernel
theorem dX7_advance_42 : decode cX7_advance 42 = .ok (.aload_n 0, 1) := by decide +kernel
theorem dX7_advance_43 : decode cX7_advance 43 = .ok (.aload_n 0, 1) := by decide +kernel
theorem dX7_advance_44 : decode cX7_advance 44 = .ok (.getfield 201, 3) := by decide +kernel
theorem dX7_advance_47 : decode cX7_advance 47 = .ok (.invokevirtual 204, 3) := by decide +kernel
theorem dX7_advance_50 : decode cX7_advance 50 = .ok (.istore_n 1, 1) := by decide +kernel
theorem dX7_advance_51 : decode cX7_advance 51 = .ok (.aload_n 0, 1) := by decide +kernel
theorem dX7_advance_52 : decode cX7_advance 52 = .ok (.iload_n 1, 1) := by decide +kernel
theorem dX7_advance_53 : decode cX7_advance 53 = .ok (.ifCond .ge 7, 3) := by decide +kernel
theorem dX7_advance_56 : decode cX7_advance 56 = .ok (.iconst 0, 1) := by decide +kernel
theorem dX7_advance_57 : decode cX7_advance 57 = .ok (.goto 26, 3) := by decide +kernel
theorem dX7_advance_60 : decode cX7_advance 60 = .ok (.iload_n 1, 1) := by decide +kernel
theorem dX7_advance_61 : decode cX7_advance 61 = .ok (.invokestatic 207, 3) := by decide +kernel
theorem dX7_advance_64 : decode cX7_advance 64 = .ok (.ifCond .eq 7, 3) := by decide +kernel
theorem dX7_advance_67 : decode cX7_advance 67 = .ok (.iconst 1, 1) := by decide +kernel
theorem dX7_advance_68 : decode cX7_advance 68 = .ok (.goto 15, 3) := by decide +kernel
theorem dX7_advance_71 : decode cX7_advance 71 = .ok (.iload_n 1, 1) := by decide +kernel
theorem dX7_advance_72 : decode cX7_advance 72 = .ok (.invokestatic 210, 3) := by decide +kernel
theorem dX7_advance_75 : decode cX7_advance 75 = .ok (.ifCond .eq 7, 3) := by decide +kernel
theorem dX7_advance_78 : decode cX7_advance 78 = .ok (.iconst 2, 1) := by decide +kernel
theorem dX7_advance_79 : decode cX7_advance 79 = .ok (.goto 4, 3) := by decide +kernel
theorem dX7_advance_82 : decode cX7_advance 82 = .ok (.iconst 3, 1) := by decide +kernel
theorem dX7_advance_83 : decode cX7_advance 83 = .ok (.putfield 213, 3) := by decide +kernel
theorem dX7_advance_86 : decode cX7_advance 86 = .ok (.aload_n 0, 1) := by decide +kernel
theorem dX7_advance_87 : decode cX7_advance 87 = .ok (.lconst 0, 1) := by decide +kernel
theorem dX7_advance_88 : decode cX7_advance 88 = .ok (.putfield 216, 3) := by decide +kernel
theorem dX7_advance_91 : decode cX7_advance 91 = .ok (.aload_n 0, 1) := by decide +kernel
theorem dX7_advance_92 : decode cX7_advance 92 = .ok (.aload_n 0, 1) := by decide +kernel
theorem dX7_advance_93 : decode cX7_advance 93 = .ok (.getfield 213, 3) := by decide +kernel
theorem dX7_advance_96 : decode cX7_advance 96 = .ok (.iconst 2, 1) := by decide +kernel
theorem dX7_advance_97 : decode cX7_advance 97 = .ok (.if_icmp .ne 7, 3) := by decide +kernel
theorem dX7_advance_100 : decode cX7_advance 100 = .ok (.iconst 0, 1) := by decide +kernel
theorem dX7_advance_101 : decode cX7_advance 101 = .ok (.goto 4, 3) := by decide +kernel
theorem dX7_advance_104 : decode cX7_advance 104 = .ok (.iload_n 1, 1) := by decide +kernel
theorem dX7_advance_105 : decode cX7_advance 105 = .ok (.putfield 220, 3) := by decide +kernel
theorem dX7_advance_108 : decode cX7_advance 108 = .ok (.aload_n 0, 1) := by decide +kernel
theorem dX7_advance_109 : decode cX7_advance 109 = .ok (.getfield 213, 3) := by decide +kernel
theorem dX7_advance_112 : decode cX7_advance 112 = .ok (.iconst 3, 1) := by decide +kernel
theorem dX7_advance_113 : decode cX7_advance 113 = .ok (.if_icmp .ne 13, 3) := by decide +kernel
theorem dX7_advance_116 : decode cX7_advance 116 = .ok (.aload_n 0, 1) := by decide +kernel
theorem dX7_advance_117 : decode cX7_advance 117 = .ok (.dup, 1) := by decide +kernel
theorem dX7_advance_118 : decode cX7_advance 118 = .ok (.getfield 198, 3) := by decide +kernel
theorem dX7_advance_121 : decode cX7_advance 121 = .ok (.iconst 1, 1) := by decide +kernel
theorem dX7_advance_122 : decode cX7_advance 122 = .ok (.iadd, 1) := by decide +kernel
theorem dX7_advance_123 : decode cX7_advance 123 = .ok (.putfield 198, 3) := by decide +kernel
theorem dX7_advance_126 : decode cX7_advance 126 = .ok (.aload_n 0, 1) := by decide +kernel
theorem dX7_advance_127 : decode cX7_advance 127 = .ok (.getfield 213, 3) := by decide +kernel
theorem dX7_advance_130 : decode cX7_advance 130 = .ok (.iconst 1, 1) := by decide +kernel
theorem dX7_advance_131 : decode cX7_advance 131 = .ok (.if_icmp .ne 76, 3) := by decide +kernel
theorem dX7_advance_134 : decode cX7_advance 134 = .ok (.aload_n 0, 1) := by decide +kernel
theorem dX7_advance_135 : decode cX7_advance 135 = .ok (.aload_n 0, 1) := by decide +kernel
theorem dX7_advance_136 : decode cX7_advance 136 = .ok (.getfield 198, 3) := by decide +kernel
theorem dX7_advance_139 : decode cX7_advance 139 = .ok (.invokevirtual 204, 3) := by decide +kernel
theorem dX7_advance_142 : decode cX7_advance 142 = .ok (.invokestatic 207, 3) := by decide +kernel
theorem dX7_advance_145 : decode cX7_advance 145 = .ok (.ifCond .eq 62, 3) := by decide +kernel
theorem dX7_advance_148 : decode cX7_advance 148 = .ok (.aload_n 0, 1) := by decide +kernel
theorem dX7_advance_149 : decode cX7_advance 149 = .ok (.aload_n 0, 1) := by decide +kernel
theorem dX7_advance_150 : decode cX7_advance 150 = .ok (.getfield 198, 3) := by decide +kernel
theorem dX7_advance_153 : decode cX7_advance 153 = .ok (.aload_n 0, 1) := by decide +kernel
theorem dX7_advance_154 : decode cX7_advance 154 = .ok (.getfield 201, 3) := by decide +kernel
theorem dX7_advance_157 : decode cX7_advance 157 = .ok (.isub, 1) := by decide +kernel
theorem dX7_advance_158 : decode cX7_advance 158 = .ok (.bipush 12, 2) := by decide +kernel
theorem dX7_advance_160 : decode cX7_advance 160 = .ok (.if_icmp .ge 28, 3) := by decide +kernel
theorem dX7_advance_163 : decode cX7_advance 163 = .ok (.ldc2_w 223, 3) := by decide +kernel
theorem dX7_advance_166 : decode cX7_advance 166 = .ok (.aload_n 0, 1) := by decide +kernel
theorem dX7_advance_167 : decode cX7_advance 167 = .ok (.getfield 216, 3) := by decide +kernel
theorem dX7_advance_170 : decode cX7_advance 170 = .ok (.lmul, 1) := by decide +kernel
theorem dX7_advance_171 : decode cX7_advance 171 = .ok (.aload_n 0, 1) := by decide +kernel
theorem dX7_advance_172 : decode cX7_advance 172 = .ok (.aload_n 0, 1) := by decide +kernel
theorem dX7_advance_173 : decode cX7_advance 173 = .ok (.getfield 198, 3) := by decide +kernel
theorem dX7_advance_176 : decode cX7_advance 176 = .ok (.invokevirtual 204, 3) := by decide +kernel
theorem dX7_advance_179 : decode cX7_advance 179 = .ok (.i2l, 1) := by decide +kernel
theorem dX7_advance_180 : decode cX7_advance 180 = .ok (.ladd, 1) := by decide +kernel
theorem dX7_advance_181 : decode cX7_advance 181 = .ok (.ldc2_w 225, 3) := by decide +kernel
theorem dX7_advance_184 : decode cX7_advance 184 = .ok (.lsub, 1) := by decide +kernel
theorem dX7_advance_185 : decode cX7_advance 185 = .ok (.goto 6, 3) := by decide +kernel
theorem dX7_advance_188 : decode cX7_advance 188 = .ok (.ldc2_w 82, 3) := by decide +kernel
theorem dX7_advance_191 : decode cX7_advance 191 = .ok (.putfield 216, 3) := by decide +kernel
theorem dX7_advance_194 : decode cX7_advance 194 = .ok (.aload_n 0, 1) := by decide +kernel
theorem dX7_advance_195 : decode cX7_advance 195 = .ok (.dup, 1) := by decide +kernel
theorem dX7_advance_196 : decode cX7_advance 196 = .ok (.getfield 198, 3) := by decide +kernel
theorem dX7_advance_199 : decode cX7_advance 199 = .ok (.iconst 1, 1) := by decide +kernel
theorem dX7_advance_200 : decode cX7_advance 200 = .ok (.iadd, 1) := by decide +kernel
theorem dX7_advance_201 : decode cX7_advance 201 = .ok (.putfield 198, 3) := by decide +kernel
theorem dX7_advance_204 : decode cX7_advance 204 = .ok (.goto (-78), 3) := by decide +kernel
theorem dX7_advance_207 : decode cX7_advance 207 = .ok (.aload_n 0, 1) := by decide +kernel
theorem dX7_advance_208 : decode cX7_advance 208 = .ok (.getfield 213, 3) := by decide +kernel
theorem dX7_advance_211 : decode cX7_advance 211 = .ok (.iconst 2, 1) := by decide +kernel
theorem dX7_advance_212 : decode cX7_advance 212 = .ok (.if_icmp .ne 69, 3) := by decide +kernel
theorem dX7_advance_215 : decode cX7_advance 215 = .ok (.aload_n 0, 1) := by decide +kernel
theorem dX7_advance_216 : decode cX7_advance 216 = .ok (.aload_n 0, 1) := by decide +kernel
theorem dX7_advance_217 : decode cX7_advance 217 = .ok (.getfield 198, 3) := by decide +kernel
theorem dX7_advance_220 : decode cX7_advance 220 = .ok (.invokevirtual 204, 3) := by decide +kernel
theorem dX7_advance_223 : decode cX7_advance 223 = .ok (.invokestatic 210, 3) := by decide +kernel
theorem dX7_advance_226 : decode cX7_advance 226 = .ok (.ifCond .eq 55, 3) := by decide +kernel
theorem dX7_advance_229 : decode cX7_advance 229 = .ok (.aload_n 0, 1) := by decide +kernel
theorem dX7_advance_230 : decode cX7_advance 230 = .ok (.aload_n 0, 1) := by decide +kernel
theorem dX7_advance_231 : decode cX7_advance 231 = .ok (.getfield 220, 3) := by decide +kernel
theorem dX7_advance_234 : decode cX7_advance 234 = .ok (.sipush 999, 3) := by decide +kernel
theorem dX7_advance_237 : decode cX7_advance 237 = .ok (.if_icmp .le 9, 3) := by decide +kernel
theorem dX7_advance_240 : decode cX7_advance 240 = .ok (.sipush 10000, 3) := by decide +kernel
theorem dX7_advance_243 : decode cX7_advance 243 = .ok (.goto 22, 3) := by decide +kernel
theorem dX7_advance_246 : decode cX7_advance 246 = .ok (.bipush 10, 2) := by decide +kernel
theorem dX7_advance_248 : decode cX7_advance 248 = .ok (.aload_n 0, 1) := by decide +kernel
theorem dX7_advance_249 : decode cX7_advance 249 = .ok (.getfield 220, 3) := by decide +kernel
theorem dX7_advance_252 : decode cX7_advance 252 = .ok (.imul, 1) := by decide +kernel
theorem dX7_advance_253 : decode cX7_advance 253 = .ok (.aload_n 0, 1) := by decide +kernel
theorem dX7_advance_254 : decode cX7_advance 254 = .ok (.aload_n 0, 1) := by decide +kernel
theorem dX7_advance_255 : decode cX7_advance 255 = .ok (.getfield 198, 3) := by decide +kernel
theorem dX7_advance_258 : decode cX7_advance 258 = .ok (.invokevirtual 204, 3) := by decide +kernel
theorem dX7_advance_261 : decode cX7_advance 261 = .ok (.iadd, 1) := by decide +kernel
theorem dX7_advance_262 : decode cX7_advance 262 = .ok (.bipush 48, 2) := by decide +kernel
theorem dX7_advance_264 : decode cX7_advance 264 = .ok (.isub, 1) := by decide +kernel
theorem dX7_advance_265 : decode cX7_advance 265 = .ok (.putfield 220, 3) := by decide +kernel
theorem dX7_advance_268 : decode cX7_advance 268 = .ok (.aload_n 0, 1) := by decide +kernel
theorem dX7_advance_269 : decode cX7_advance 269 = .ok (.dup, 1) := by decide +kernel
theorem dX7_advance_270 : decode cX7_advance 270 = .ok (.getfield 198, 3) := by decide +kernel
theorem dX7_advance_273 : decode cX7_advance 273 = .ok (.iconst 1, 1) := by decide +kernel
theorem dX7_advance_274 : decode cX7_advance 274 = .ok (.iadd, 1) := by decide +kernel
theorem dX7_advance_275 : decode cX7_advance 275 = .ok (.putfield 198, 3) := by decide +kernel
theorem dX7_advance_278 : decode cX7_advance 278 = .ok (.goto (-71), 3) := by decide +kernel
theorem dX7_advance_281 : decode cX7_advance 281 = .ok (.return_, 1) := by decide +kernel
theorem dX7_isWord_0 : decode cX7_isWord 0 = .ok (.aload_n 0, 1) := by decide +kernel
theorem dX7_isWord_1 : decode cX7_isWord 1 = .ok (.getfield 213, 3) := by decide +kernel
theorem dX7_isWord_4 : decode cX7_isWord 4 = .ok (.iconst 1, 1) := by decide +kernel
theorem dX7_isWord_5 : decode cX7_isWord 5 = .ok (.if_icmp .ne 16, 3) := by decide +kernel
theorem dX7_isWord_8 : decode cX7_isWord 8 = .ok (.aload_n 0, 1) := by decide +kernel
theorem dX7_isWord_9 : decode cX7_isWord 9 = .ok (.getfield 216, 3) := by decide +kernel
theorem dX7_isWord_12 : decode cX7_isWord 12 = .ok (.lload_n 1, 1) := by decide +kernel
theorem dX7_isWord_13 : decode cX7_isWord 13 = .ok (.lcmp, 1) := by decide +kernel
theorem dX7_isWord_14 : decode cX7_isWord 14 = .ok (.ifCond .ne 7, 3) := by decide +kernel
theorem dX7_isWord_17 : decode cX7_isWord 17 = .ok (.iconst 1, 1) := by decide +kernel
theorem dX7_isWord_18 : decode cX7_isWord 18 = .ok (.goto 4, 3) := by decide +kernel
theorem dX7_isWord_21 : decode cX7_isWord 21 = .ok (.iconst 0, 1) := by decide +kernel
theorem dX7_isWord_22 : decode cX7_isWord 22 = .ok (.ireturn, 1) := by decide +kernel
theorem dX7_kindHere_0 : decode cX7_kindHere 0 = .ok (.aload_n 0, 1) := by decide +kernel
theorem dX7_kindHere_1 : decode cX7_kindHere 1 = .ok (.ldc2_w 227, 3) := by decide +kernel
theorem dX7_kindHere_4 : decode cX7_kindHere 4 = .ok (.invokevirtual 229, 3) := by decide +kernel
theorem dX7_kindHere_7 : decode cX7_kindHere 7 = .ok (.ifCond .eq 7, 3) := by decide +kernel
theorem dX7_kindHere_10 : decode cX7_kindHere 10 = .ok (.iconst 0, 1) := by decide +kernel
theorem dX7_kindHere_11 : decode cX7_kindHere 11 = .ok (.goto 74, 3) := by decide +kernel
theorem dX7_kindHere_14 : decode cX7_kindHere 14 = .ok (.aload_n 0, 1) := by decide +kernel
theorem dX7_kindHere_15 : decode cX7_kindHere 15 = .ok (.ldc2_w 233, 3) := by decide +kernel
theorem dX7_kindHere_18 : decode cX7_kindHere 18 = .ok (.invokevirtual 229, 3) := by decide +kernel
theorem dX7_kindHere_21 : decode cX7_kindHere 21 = .ok (.ifCond .eq 7, 3) := by decide +kernel
theorem dX7_kindHere_24 : decode cX7_kindHere 24 = .ok (.iconst 1, 1) := by decide +kernel
theorem dX7_kindHere_25 : decode cX7_kindHere 25 = .ok (.goto 60, 3) := by decide +kernel
theorem dX7_kindHere_28 : decode cX7_kindHere 28 = .ok (.aload_n 0, 1) := by decide +kernel
theorem dX7_kindHere_29 : decode cX7_kindHere 29 = .ok (.ldc2_w 235, 3) := by decide +kernel
theorem dX7_kindHere_32 : decode cX7_kindHere 32 = .ok (.invokevirtual 229, 3) := by decide +kernel
theorem dX7_kindHere_35 : decode cX7_kindHere 35 = .ok (.ifCond .eq 7, 3) := by decide +kernel
theorem dX7_kindHere_38 : decode cX7_kindHere 38 = .ok (.iconst 2, 1) := by decide +kernel
theorem dX7_kindHere_39 : decode cX7_kindHere 39 = .ok (.goto 46, 3) := by decide +kernel
theorem dX7_kindHere_42 : decode cX7_kindHere 42 = .ok (.aload_n 0, 1) := by decide +kernel
theorem dX7_kindHere_43 : decode cX7_kindHere 43 = .ok (.ldc2_w 237, 3) := by decide +kernel
theorem dX7_kindHere_46 : decode cX7_kindHere 46 = .ok (.invokevirtual 229, 3) := by decide +kernel
theorem dX7_kindHere_49 : decode cX7_kindHere 49 = .ok (.ifCond .eq 7, 3) := by decide +kernel
theorem dX7_kindHere_52 : decode cX7_kindHere 52 = .ok (.iconst 3, 1) := by decide +kernel
theorem dX7_kindHere_53 : decode cX7_kindHere 53 = .ok (.goto 32, 3) := by decide +kernel
theorem dX7_kindHere_56 : decode cX7_kindHere 56 = .ok (.aload_n 0, 1) := by decide +kernel
theorem dX7_kindHere_57 : decode cX7_kindHere 57 = .ok (.ldc2_w 239, 3) := by decide +kernel
theorem dX7_kindHere_60 : decode cX7_kindHere 60 = .ok (.invokevirtual 229, 3) := by decide +kernel
theorem dX7_kindHere_63 : decode cX7_kindHere 63 = .ok (.ifCond .eq 7, 3) := by decide +kernel
theorem dX7_kindHere_66 : decode cX7_kindHere 66 = .ok (.iconst 4, 1) := by decide +kernel
theorem dX7_kindHere_67 : decode cX7_kindHere 67 = .ok (.goto 18, 3) := by decide +kernel
theorem dX7_kindHere_70 : decode cX7_kindHere 70 = .ok (.aload_n 0, 1) := by decide +kernel
theorem dX7_kindHere_71 : decode cX7_kindHere 71 = .ok (.ldc2_w 241, 3) := by decide +kernel
theorem dX7_kindHere_74 : decode cX7_kindHere 74 = .ok (.invokevirtual 229, 3) := by decide +kernel
theorem dX7_kindHere_77 : decode cX7_kindHere 77 = .ok (.ifCond .eq 7, 3) := by decide +kernel
theorem dX7_kindHere_80 : decode cX7_kindHere 80 = .ok (.iconst 5, 1) := by decide +kernel
theorem dX7_kindHere_81 : decode cX7_kindHere 81 = .ok (.goto 4, 3) := by decide +kernel
theorem dX7_kindHere_84 : decode cX7_kindHere 84 = .ok (.iconst (-1), 1) := by decide +kernel
theorem dX7_kindHere_85 : decode cX7_kindHere 85 = .ok (.ireturn, 1) := by decide +kernel
theorem dX7_wantNumber_0 : decode cX7_wantNumber 0 = .ok (.aload_n 0, 1) := by decide +kernel
theorem dX7_wantNumber_1 : decode cX7_wantNumber 1 = .ok (.getfield 220, 3) := by decide +kernel
theorem dX7_wantNumber_4 : decode cX7_wantNumber 4 = .ok (.istore_n 3, 1) := by decide +kernel
theorem dX7_wantNumber_5 : decode cX7_wantNumber 5 = .ok (.aload_n 0, 1) := by decide +kernel
theorem dX7_wantNumber_6 : decode cX7_wantNumber 6 = .ok (.aload_n 0, 1) := by decide +kernel
theorem dX7_wantNumber_7 : decode cX7_wantNumber 7 = .ok (.getfield 243, 3) := by decide +kernel
theorem dX7_wantNumber_10 : decode cX7_wantNumber 10 = .ok (.ifCond .eq 24, 3) := by decide +kernel
theorem dX7_wantNumber_13 : decode cX7_wantNumber 13 = .ok (.aload_n 0, 1) := by decide +kernel
theorem dX7_wantNumber_14 : decode cX7_wantNumber 14 = .ok (.getfield 213, 3) := by decide +kernel
theorem dX7_wantNumber_17 : decode cX7_wantNumber 17 = .ok (.iconst 2, 1) := by decide +kernel
theorem dX7_wantNumber_18 : decode cX7_wantNumber 18 = .ok (.if_icmp .ne 16, 3) := by decide +kernel
theorem dX7_wantNumber_21 : decode cX7_wantNumber 21 = .ok (.iload_n 3, 1) := by decide +kernel
theorem dX7_wantNumber_22 : decode cX7_wantNumber 22 = .ok (.iload_n 1, 1) := by decide +kernel
theorem dX7_wantNumber_23 : decode cX7_wantNumber 23 = .ok (.iload_n 2, 1) := by decide +kernel
theorem dX7_wantNumber_24 : decode cX7_wantNumber 24 = .ok (.invokestatic 64, 3) := by decide +kernel
theorem dX7_wantNumber_27 : decode cX7_wantNumber 27 = .ok (.ifCond .eq 7, 3) := by decide +kernel
theorem dX7_wantNumber_30 : decode cX7_wantNumber 30 = .ok (.iconst 1, 1) := by decide +kernel
theorem dX7_wantNumber_31 : decode cX7_wantNumber 31 = .ok (.goto 4, 3) := by decide +kernel
theorem dX7_wantNumber_34 : decode cX7_wantNumber 34 = .ok (.iconst 0, 1) := by decide +kernel
theorem dX7_wantNumber_35 : decode cX7_wantNumber 35 = .ok (.putfield 243, 3) := by decide +kernel
theorem dX7_wantNumber_38 : decode cX7_wantNumber 38 = .ok (.aload_n 0, 1) := by decide +kernel
theorem dX7_wantNumber_39 : decode cX7_wantNumber 39 = .ok (.getfield 243, 3) := by decide +kernel
theorem dX7_wantNumber_42 : decode cX7_wantNumber 42 = .ok (.ifCond .eq 7, 3) := by decide +kernel
theorem dX7_wantNumber_45 : decode cX7_wantNumber 45 = .ok (.aload_n 0, 1) := by decide +kernel
theorem dX7_wantNumber_46 : decode cX7_wantNumber 46 = .ok (.invokevirtual 247, 3) := by decide +kernel
theorem dX7_wantNumber_49 : decode cX7_wantNumber 49 = .ok (.iload_n 3, 1) := by decide +kernel
theorem dX7_wantNumber_50 : decode cX7_wantNumber 50 = .ok (.ireturn, 1) := by decide +kernel
theorem dX7_mayWant_0 : decode cX7_mayWant 0 = .ok (.aload_n 0, 1) := by decide +kernel
theorem dX7_mayWant_1 : decode cX7_mayWant 1 = .ok (.getfield 243, 3) := by decide +kernel
theorem dX7_mayWant_4 : decode cX7_mayWant 4 = .ok (.ifCond .eq 11, 3) := by decide +kernel
theorem dX7_mayWant_7 : decode cX7_mayWant 7 = .ok (.aload_n 0, 1) := by decide +kernel
theorem dX7_mayWant_8 : decode cX7_mayWant 8 = .ok (.lload_n 1, 1) := by decide +kernel
theorem dX7_mayWant_9 : decode cX7_mayWant 9 = .ok (.invokevirtual 229, 3) := by decide +kernel
theorem dX7_mayWant_12 : decode cX7_mayWant 12 = .ok (.ifCond .ne 6, 3) := by decide +kernel
theorem dX7_mayWant_15 : decode cX7_mayWant 15 = .ok (.iload 5, 2) := by decide +kernel
theorem dX7_mayWant_17 : decode cX7_mayWant 17 = .ok (.ireturn, 1) := by decide +kernel
theorem dX7_mayWant_18 : decode cX7_mayWant 18 = .ok (.aload_n 0, 1) := by decide +kernel
theorem dX7_mayWant_19 : decode cX7_mayWant 19 = .ok (.invokevirtual 247, 3) := by decide +kernel
theorem dX7_mayWant_22 : decode cX7_mayWant 22 = .ok (.aload_n 0, 1) := by decide +kernel
theorem dX7_mayWant_23 : decode cX7_mayWant 23 = .ok (.iload_n 3, 1) := by decide +kernel
theorem dX7_mayWant_24 : decode cX7_mayWant 24 = .ok (.iload 4, 2) := by decide +kernel
theorem dX7_mayWant_26 : decode cX7_mayWant 26 = .ok (.invokevirtual 250, 3) := by decide +kernel
theorem dX7_mayWant_29 : decode cX7_mayWant 29 = .ok (.ireturn, 1) := by decide +kernel
theorem dX7_wantPrint_0 : decode cX7_wantPrint 0 = .ok (.aload_n 0, 1) := by decide +kernel
theorem dX7_wantPrint_1 : decode cX7_wantPrint 1 = .ok (.aload_n 0, 1) := by decide +kernel
theorem dX7_wantPrint_2 : decode cX7_wantPrint 2 = .ok (.getfield 7, 3) := by decide +kernel
theorem dX7_wantPrint_5 : decode cX7_wantPrint 5 = .ok (.iconst 0, 1) := by decide +kernel
theorem dX7_wantPrint_6 : decode cX7_wantPrint 6 = .ok (.iaload, 1) := by decide +kernel
theorem dX7_wantPrint_7 : decode cX7_wantPrint 7 = .ok (.bipush 12, 2) := by decide +kernel
theorem dX7_wantPrint_9 : decode cX7_wantPrint 9 = .ok (.if_icmp .ge 7, 3) := by decide +kernel
theorem dX7_wantPrint_12 : decode cX7_wantPrint 12 = .ok (.iconst 1, 1) := by decide +kernel
theorem dX7_wantPrint_13 : decode cX7_wantPrint 13 = .ok (.goto 4, 3) := by decide +kernel
theorem dX7_wantPrint_16 : decode cX7_wantPrint 16 = .ok (.iconst 0, 1) := by decide +kernel
theorem dX7_wantPrint_17 : decode cX7_wantPrint 17 = .ok (.putfield 243, 3) := by decide +kernel
theorem dX7_wantPrint_20 : decode cX7_wantPrint 20 = .ok (.aload_n 0, 1) := by decide +kernel
theorem dX7_wantPrint_21 : decode cX7_wantPrint 21 = .ok (.getfield 243, 3) := by decide +kernel
theorem dX7_wantPrint_24 : decode cX7_wantPrint 24 = .ok (.ifCond .eq 7, 3) := by decide +kernel
theorem dX7_wantPrint_27 : decode cX7_wantPrint 27 = .ok (.aload_n 0, 1) := by decide +kernel
theorem dX7_wantPrint_28 : decode cX7_wantPrint 28 = .ok (.invokevirtual 247, 3) := by decide +kernel
theorem dX7_wantPrint_31 : decode cX7_wantPrint 31 = .ok (.lconst 0, 1) := by decide +kernel
theorem dX7_wantPrint_32 : decode cX7_wantPrint 32 = .ok (.lstore_n 2, 1) := by decide +kernel
theorem dX7_wantPrint_33 : decode cX7_wantPrint 33 = .ok (.iconst 0, 1) := by decide +kernel
theorem dX7_wantPrint_34 : decode cX7_wantPrint 34 = .ok (.istore 4, 2) := by decide +kernel
theorem dX7_wantPrint_36 : decode cX7_wantPrint 36 = .ok (.aload_n 0, 1) := by decide +kernel
theorem dX7_wantPrint_37 : decode cX7_wantPrint 37 = .ok (.getfield 243, 3) := by decide +kernel
theorem dX7_wantPrint_40 : decode cX7_wantPrint 40 = .ok (.ifCond .eq 79, 3) := by decide +kernel
theorem dX7_wantPrint_43 : decode cX7_wantPrint 43 = .ok (.aload_n 0, 1) := by decide +kernel
theorem dX7_wantPrint_44 : decode cX7_wantPrint 44 = .ok (.getfield 213, 3) := by decide +kernel
theorem dX7_wantPrint_47 : decode cX7_wantPrint 47 = .ok (.iconst 2, 1) := by decide +kernel
theorem dX7_wantPrint_48 : decode cX7_wantPrint 48 = .ok (.if_icmp .ne 71, 3) := by decide +kernel
theorem dX7_wantPrint_51 : decode cX7_wantPrint 51 = .ok (.aload_n 0, 1) := by decide +kernel
theorem dX7_wantPrint_52 : decode cX7_wantPrint 52 = .ok (.iload 4, 2) := by decide +kernel
theorem dX7_wantPrint_54 : decode cX7_wantPrint 54 = .ok (.bipush 8, 2) := by decide +kernel
theorem dX7_wantPrint_56 : decode cX7_wantPrint 56 = .ok (.if_icmp .ge 33, 3) := by decide +kernel
theorem dX7_wantPrint_59 : decode cX7_wantPrint 59 = .ok (.aload_n 0, 1) := by decide +kernel
theorem dX7_wantPrint_60 : decode cX7_wantPrint 60 = .ok (.getfield 220, 3) := by decide +kernel
theorem dX7_wantPrint_63 : decode cX7_wantPrint 63 = .ok (.iconst 0, 1) := by decide +kernel
theorem dX7_wantPrint_64 : decode cX7_wantPrint 64 = .ok (.bipush 39, 2) := by decide +kernel
theorem dX7_wantPrint_66 : decode cX7_wantPrint 66 = .ok (.invokestatic 64, 3) := by decide +kernel
theorem dX7_wantPrint_69 : decode cX7_wantPrint 69 = .ok (.ifCond .eq 20, 3) := by decide +kernel
theorem dX7_wantPrint_72 : decode cX7_wantPrint 72 = .ok (.lload_n 2, 1) := by decide +kernel
theorem dX7_wantPrint_73 : decode cX7_wantPrint 73 = .ok (.aload_n 0, 1) := by decide +kernel
theorem dX7_wantPrint_74 : decode cX7_wantPrint 74 = .ok (.getfield 220, 3) := by decide +kernel
theorem dX7_wantPrint_77 : decode cX7_wantPrint 77 = .ok (.lshr, 1) := by decide +kernel
theorem dX7_wantPrint_78 : decode cX7_wantPrint 78 = .ok (.lconst 1, 1) := by decide +kernel
theorem dX7_wantPrint_79 : decode cX7_wantPrint 79 = .ok (.land, 1) := by decide +kernel
theorem dX7_wantPrint_80 : decode cX7_wantPrint 80 = .ok (.lconst 0, 1) := by decide +kernel
theorem dX7_wantPrint_81 : decode cX7_wantPrint 81 = .ok (.lcmp, 1) := by decide +kernel
theorem dX7_wantPrint_82 : decode cX7_wantPrint 82 = .ok (.ifCond .ne 7, 3) := by decide +kernel
theorem dX7_wantPrint_85 : decode cX7_wantPrint 85 = .ok (.iconst 1, 1) := by decide +kernel
theorem dX7_wantPrint_86 : decode cX7_wantPrint 86 = .ok (.goto 4, 3) := by decide +kernel
theorem dX7_wantPrint_89 : decode cX7_wantPrint 89 = .ok (.iconst 0, 1) := by decide +kernel
theorem dX7_wantPrint_90 : decode cX7_wantPrint 90 = .ok (.putfield 243, 3) := by decide +kernel
theorem dX7_wantPrint_93 : decode cX7_wantPrint 93 = .ok (.aload_n 0, 1) := by decide +kernel
theorem dX7_wantPrint_94 : decode cX7_wantPrint 94 = .ok (.getfield 243, 3) := by decide +kernel
theorem dX7_wantPrint_97 : decode cX7_wantPrint 97 = .ok (.ifCond .eq (-61), 3) := by decide +kernel
theorem dX7_wantPrint_100 : decode cX7_wantPrint 100 = .ok (.lload_n 2, 1) := by decide +kernel
theorem dX7_wantPrint_101 : decode cX7_wantPrint 101 = .ok (.lconst 1, 1) := by decide +kernel
theorem dX7_wantPrint_102 : decode cX7_wantPrint 102 = .ok (.aload_n 0, 1) := by decide +kernel
theorem dX7_wantPrint_103 : decode cX7_wantPrint 103 = .ok (.getfield 220, 3) := by decide +kernel
theorem dX7_wantPrint_106 : decode cX7_wantPrint 106 = .ok (.lshl, 1) := by decide +kernel
theorem dX7_wantPrint_107 : decode cX7_wantPrint 107 = .ok (.lor, 1) := by decide +kernel
theorem dX7_wantPrint_108 : decode cX7_wantPrint 108 = .ok (.lstore_n 2, 1) := by decide +kernel
theorem dX7_wantPrint_109 : decode cX7_wantPrint 109 = .ok (.iinc 4 1, 3) := by decide +kernel
theorem dX7_wantPrint_112 : decode cX7_wantPrint 112 = .ok (.aload_n 0, 1) := by decide +kernel
theorem dX7_wantPrint_113 : decode cX7_wantPrint 113 = .ok (.invokevirtual 247, 3) := by decide +kernel
theorem dX7_wantPrint_116 : decode cX7_wantPrint 116 = .ok (.goto (-80), 3) := by decide +kernel
theorem dX7_wantPrint_119 : decode cX7_wantPrint 119 = .ok (.aload_n 0, 1) := by decide +kernel
theorem dX7_wantPrint_120 : decode cX7_wantPrint 120 = .ok (.ldc2_w 253, 3) := by decide +kernel
theorem dX7_wantPrint_123 : decode cX7_wantPrint 123 = .ok (.iconst 1, 1) := by decide +kernel
theorem dX7_wantPrint_124 : decode cX7_wantPrint 124 = .ok (.sipush 9999, 3) := by decide +kernel
theorem dX7_wantPrint_127 : decode cX7_wantPrint 127 = .ok (.sipush 1000, 3) := by decide +kernel
theorem dX7_wantPrint_130 : decode cX7_wantPrint 130 = .ok (.invokevirtual 255, 3) := by decide +kernel
theorem dX7_wantPrint_133 : decode cX7_wantPrint 133 = .ok (.istore 5, 2) := by decide +kernel
theorem dX7_wantPrint_135 : decode cX7_wantPrint 135 = .ok (.aload_n 0, 1) := by decide +kernel
theorem dX7_wantPrint_136 : decode cX7_wantPrint 136 = .ok (.ldc2_w 259, 3) := by decide +kernel
theorem dX7_wantPrint_139 : decode cX7_wantPrint 139 = .ok (.iconst 0, 1) := by decide +kernel
theorem dX7_wantPrint_140 : decode cX7_wantPrint 140 = .ok (.sipush 2000, 3) := by decide +kernel
theorem dX7_wantPrint_143 : decode cX7_wantPrint 143 = .ok (.iconst 0, 1) := by decide +kernel
theorem dX7_wantPrint_144 : decode cX7_wantPrint 144 = .ok (.invokevirtual 255, 3) := by decide +kernel
theorem dX7_wantPrint_147 : decode cX7_wantPrint 147 = .ok (.istore 6, 2) := by decide +kernel
theorem dX7_wantPrint_149 : decode cX7_wantPrint 149 = .ok (.aload_n 0, 1) := by decide +kernel
theorem dX7_wantPrint_150 : decode cX7_wantPrint 150 = .ok (.getfield 243, 3) := by decide +kernel
theorem dX7_wantPrint_153 : decode cX7_wantPrint 153 = .ok (.ifCond .eq 17, 3) := by decide +kernel
theorem dX7_wantPrint_156 : decode cX7_wantPrint 156 = .ok (.aload_n 0, 1) := by decide +kernel
theorem dX7_wantPrint_157 : decode cX7_wantPrint 157 = .ok (.ldc2_w 261, 3) := by decide +kernel
theorem dX7_wantPrint_160 : decode cX7_wantPrint 160 = .ok (.invokevirtual 229, 3) := by decide +kernel
theorem dX7_wantPrint_163 : decode cX7_wantPrint 163 = .ok (.ifCond .eq 7, 3) := by decide +kernel
theorem dX7_wantPrint_166 : decode cX7_wantPrint 166 = .ok (.iconst 1, 1) := by decide +kernel
theorem dX7_wantPrint_167 : decode cX7_wantPrint 167 = .ok (.goto 4, 3) := by decide +kernel
theorem dX7_wantPrint_170 : decode cX7_wantPrint 170 = .ok (.iconst 0, 1) := by decide +kernel
theorem dX7_wantPrint_171 : decode cX7_wantPrint 171 = .ok (.istore 7, 2) := by decide +kernel
theorem dX7_wantPrint_173 : decode cX7_wantPrint 173 = .ok (.iload 7, 2) := by decide +kernel
theorem dX7_wantPrint_175 : decode cX7_wantPrint 175 = .ok (.ifCond .eq 7, 3) := by decide +kernel
theorem dX7_wantPrint_178 : decode cX7_wantPrint 178 = .ok (.aload_n 0, 1) := by decide +kernel
theorem dX7_wantPrint_179 : decode cX7_wantPrint 179 = .ok (.invokevirtual 247, 3) := by decide +kernel
theorem dX7_wantPrint_182 : decode cX7_wantPrint 182 = .ok (.aload_n 0, 1) := by decide +kernel
theorem dX7_wantPrint_183 : decode cX7_wantPrint 183 = .ok (.getfield 243, 3) := by decide +kernel
theorem dX7_wantPrint_186 : decode cX7_wantPrint 186 = .ok (.ifCond .eq 23, 3) := by decide +kernel
theorem dX7_wantPrint_189 : decode cX7_wantPrint 189 = .ok (.aload_n 0, 1) := by decide +kernel
theorem dX7_wantPrint_190 : decode cX7_wantPrint 190 = .ok (.iload_n 1, 1) := by decide +kernel
theorem dX7_wantPrint_191 : decode cX7_wantPrint 191 = .ok (.lload_n 2, 1) := by decide +kernel
theorem dX7_wantPrint_192 : decode cX7_wantPrint 192 = .ok (.iload 5, 2) := by decide +kernel
theorem dX7_wantPrint_194 : decode cX7_wantPrint 194 = .ok (.iload 6, 2) := by decide +kernel
theorem dX7_wantPrint_196 : decode cX7_wantPrint 196 = .ok (.iload 7, 2) := by decide +kernel
theorem dX7_wantPrint_198 : decode cX7_wantPrint 198 = .ok (.ifCond .eq 7, 3) := by decide +kernel
theorem dX7_wantPrint_201 : decode cX7_wantPrint 201 = .ok (.iconst 1, 1) := by decide +kernel
theorem dX7_wantPrint_202 : decode cX7_wantPrint 202 = .ok (.goto 4, 3) := by decide +kernel
theorem dX7_wantPrint_205 : decode cX7_wantPrint 205 = .ok (.iconst 0, 1) := by decide +kernel
theorem dX7_wantPrint_206 : decode cX7_wantPrint 206 = .ok (.invokevirtual 99, 3) := by decide +kernel
theorem dX7_wantPrint_209 : decode cX7_wantPrint 209 = .ok (.return_, 1) := by decide +kernel
theorem dX7_wantSlack_0 : decode cX7_wantSlack 0 = .ok (.aload_n 0, 1) := by decide +kernel
theorem dX7_wantSlack_1 : decode cX7_wantSlack 1 = .ok (.invokevirtual 247, 3) := by decide +kernel
theorem dX7_wantSlack_4 : decode cX7_wantSlack 4 = .ok (.aload_n 0, 1) := by decide +kernel
theorem dX7_wantSlack_5 : decode cX7_wantSlack 5 = .ok (.iconst 0, 1) := by decide +kernel
theorem dX7_wantSlack_6 : decode cX7_wantSlack 6 = .ok (.sipush 999, 3) := by decide +kernel
theorem dX7_wantSlack_9 : decode cX7_wantSlack 9 = .ok (.invokevirtual 250, 3) := by decide +kernel
theorem dX7_wantSlack_12 : decode cX7_wantSlack 12 = .ok (.istore_n 1, 1) := by decide +kernel
theorem dX7_wantSlack_13 : decode cX7_wantSlack 13 = .ok (.aload_n 0, 1) := by decide +kernel
theorem dX7_wantSlack_14 : decode cX7_wantSlack 14 = .ok (.getfield 243, 3) := by decide +kernel
theorem dX7_wantSlack_17 : decode cX7_wantSlack 17 = .ok (.ifCond .eq 10, 3) := by decide +kernel
theorem dX7_wantSlack_20 : decode cX7_wantSlack 20 = .ok (.aload_n 0, 1) := by decide +kernel
theorem dX7_wantSlack_21 : decode cX7_wantSlack 21 = .ok (.getfield 7, 3) := by decide +kernel
theorem dX7_wantSlack_24 : decode cX7_wantSlack 24 = .ok (.iconst 1, 1) := by decide +kernel
theorem dX7_wantSlack_25 : decode cX7_wantSlack 25 = .ok (.iload_n 1, 1) := by decide +kernel
theorem dX7_wantSlack_26 : decode cX7_wantSlack 26 = .ok (.iastore, 1) := by decide +kernel
theorem dX7_wantSlack_27 : decode cX7_wantSlack 27 = .ok (.return_, 1) := by decide +kernel
theorem dX7_wantLook_0 : decode cX7_wantLook 0 = .ok (.aload_n 0, 1) := by decide +kernel
theorem dX7_wantLook_1 : decode cX7_wantLook 1 = .ok (.invokevirtual 247, 3) := by decide +kernel
theorem dX7_wantLook_4 : decode cX7_wantLook 4 = .ok (.aload_n 0, 1) := by decide +kernel
theorem dX7_wantLook_5 : decode cX7_wantLook 5 = .ok (.iconst 0, 1) := by decide +kernel
theorem dX7_wantLook_6 : decode cX7_wantLook 6 = .ok (.aload_n 0, 1) := by decide +kernel
theorem dX7_wantLook_7 : decode cX7_wantLook 7 = .ok (.getfield 7, 3) := by decide +kernel
theorem dX7_wantLook_10 : decode cX7_wantLook 10 = .ok (.iconst 0, 1) := by decide +kernel
theorem dX7_wantLook_11 : decode cX7_wantLook 11 = .ok (.iaload, 1) := by decide +kernel
theorem dX7_wantLook_12 : decode cX7_wantLook 12 = .ok (.iconst 1, 1) := by decide +kernel
theorem dX7_wantLook_13 : decode cX7_wantLook 13 = .ok (.isub, 1) := by decide +kernel
theorem dX7_wantLook_14 : decode cX7_wantLook 14 = .ok (.invokevirtual 250, 3) := by decide +kernel
theorem dX7_wantLook_17 : decode cX7_wantLook 17 = .ok (.istore_n 1, 1) := by decide +kernel
theorem dX7_wantLook_18 : decode cX7_wantLook 18 = .ok (.aload_n 0, 1) := by decide +kernel
theorem dX7_wantLook_19 : decode cX7_wantLook 19 = .ok (.getfield 243, 3) := by decide +kernel
theorem dX7_wantLook_22 : decode cX7_wantLook 22 = .ok (.ifCond .eq 10, 3) := by decide +kernel
theorem dX7_wantLook_25 : decode cX7_wantLook 25 = .ok (.aload_n 0, 1) := by decide +kernel
theorem dX7_wantLook_26 : decode cX7_wantLook 26 = .ok (.iload_n 1, 1) := by decide +kernel
theorem dX7_wantLook_27 : decode cX7_wantLook 27 = .ok (.iconst 3, 1) := by decide +kernel
theorem dX7_wantLook_28 : decode cX7_wantLook 28 = .ok (.iconst 1, 1) := by decide +kernel
theorem dX7_wantLook_29 : decode cX7_wantLook 29 = .ok (.invokevirtual 86, 3) := by decide +kernel
theorem dX7_wantLook_32 : decode cX7_wantLook 32 = .ok (.return_, 1) := by decide +kernel
theorem dX7_wantItem_0 : decode cX7_wantItem 0 = .ok (.aload_n 0, 1) := by decide +kernel
theorem dX7_wantItem_1 : decode cX7_wantItem 1 = .ok (.invokevirtual 263, 3) := by decide +kernel
theorem dX7_wantItem_4 : decode cX7_wantItem 4 = .ok (.ifCond .lt 14, 3) := by decide +kernel
theorem dX7_wantItem_7 : decode cX7_wantItem 7 = .ok (.aload_n 0, 1) := by decide +kernel
theorem dX7_wantItem_8 : decode cX7_wantItem 8 = .ok (.aload_n 0, 1) := by decide +kernel
theorem dX7_wantItem_9 : decode cX7_wantItem 9 = .ok (.invokevirtual 263, 3) := by decide +kernel
theorem dX7_wantItem_12 : decode cX7_wantItem 12 = .ok (.invokevirtual 267, 3) := by decide +kernel
theorem dX7_wantItem_15 : decode cX7_wantItem 15 = .ok (.goto 42, 3) := by decide +kernel
theorem dX7_wantItem_18 : decode cX7_wantItem 18 = .ok (.aload_n 0, 1) := by decide +kernel
theorem dX7_wantItem_19 : decode cX7_wantItem 19 = .ok (.ldc2_w 270, 3) := by decide +kernel
theorem dX7_wantItem_22 : decode cX7_wantItem 22 = .ok (.invokevirtual 229, 3) := by decide +kernel
theorem dX7_wantItem_25 : decode cX7_wantItem 25 = .ok (.ifCond .eq 10, 3) := by decide +kernel
theorem dX7_wantItem_28 : decode cX7_wantItem 28 = .ok (.aload_n 0, 1) := by decide +kernel
theorem dX7_wantItem_29 : decode cX7_wantItem 29 = .ok (.invokevirtual 272, 3) := by decide +kernel
theorem dX7_wantItem_32 : decode cX7_wantItem 32 = .ok (.goto 25, 3) := by decide +kernel
theorem dX7_wantItem_35 : decode cX7_wantItem 35 = .ok (.aload_n 0, 1) := by decide +kernel
theorem dX7_wantItem_36 : decode cX7_wantItem 36 = .ok (.ldc2_w 275, 3) := by decide +kernel
theorem dX7_wantItem_39 : decode cX7_wantItem 39 = .ok (.invokevirtual 229, 3) := by decide +kernel
theorem dX7_wantItem_42 : decode cX7_wantItem 42 = .ok (.ifCond .eq 10, 3) := by decide +kernel
theorem dX7_wantItem_45 : decode cX7_wantItem 45 = .ok (.aload_n 0, 1) := by decide +kernel
theorem dX7_wantItem_46 : decode cX7_wantItem 46 = .ok (.invokevirtual 277, 3) := by decide +kernel
theorem dX7_wantItem_49 : decode cX7_wantItem 49 = .ok (.goto 8, 3) := by decide +kernel
theorem dX7_wantItem_52 : decode cX7_wantItem 52 = .ok (.aload_n 0, 1) := by decide +kernel
theorem dX7_wantItem_53 : decode cX7_wantItem 53 = .ok (.iconst 0, 1) := by decide +kernel
theorem dX7_wantItem_54 : decode cX7_wantItem 54 = .ok (.putfield 243, 3) := by decide +kernel
theorem dX7_wantItem_57 : decode cX7_wantItem 57 = .ok (.return_, 1) := by decide +kernel
theorem dX7_text_0 : decode cX7_text 0 = .ok (.aload_n 0, 1) := by decide +kernel
theorem dX7_text_1 : decode cX7_text 1 = .ok (.iconst 1, 1) := by decide +kernel
theorem dX7_text_2 : decode cX7_text 2 = .ok (.aload_n 0, 1) := by decide +kernel
theorem dX7_text_3 : decode cX7_text 3 = .ok (.getfield 54, 3) := by decide +kernel
theorem dX7_text_6 : decode cX7_text 6 = .ok (.aload_n 0, 1) := by decide +kernel
theorem dX7_text_7 : decode cX7_text 7 = .ok (.getfield 60, 3) := by decide +kernel
theorem dX7_text_10 : decode cX7_text 10 = .ok (.invokevirtual 280, 3) := by decide +kernel
theorem dX7_text_13 : decode cX7_text 13 = .ok (.aload_n 0, 1) := by decide +kernel
theorem dX7_text_14 : decode cX7_text 14 = .ok (.iconst 0, 1) := by decide +kernel
theorem dX7_text_15 : decode cX7_text 15 = .ok (.putfield 198, 3) := by decide +kernel
theorem dX7_text_18 : decode cX7_text 18 = .ok (.aload_n 0, 1) := by decide +kernel
theorem dX7_text_19 : decode cX7_text 19 = .ok (.iconst 1, 1) := by decide +kernel
theorem dX7_text_20 : decode cX7_text 20 = .ok (.putfield 243, 3) := by decide +kernel
theorem dX7_text_23 : decode cX7_text 23 = .ok (.iconst 0, 1) := by decide +kernel
theorem dX7_text_24 : decode cX7_text 24 = .ok (.istore_n 1, 1) := by decide +kernel
theorem dX7_text_25 : decode cX7_text 25 = .ok (.iconst 1, 1) := by decide +kernel
theorem dX7_text_26 : decode cX7_text 26 = .ok (.istore_n 2, 1) := by decide +kernel
theorem dX7_text_27 : decode cX7_text 27 = .ok (.iload_n 2, 1) := by decide +kernel
theorem dX7_text_28 : decode cX7_text 28 = .ok (.ifCond .eq 47, 3) := by decide +kernel
theorem dX7_text_31 : decode cX7_text 31 = .ok (.aload_n 0, 1) := by decide +kernel
theorem dX7_text_32 : decode cX7_text 32 = .ok (.invokevirtual 247, 3) := by decide +kernel
theorem dX7_text_35 : decode cX7_text 35 = .ok (.aload_n 0, 1) := by decide +kernel
theorem dX7_text_36 : decode cX7_text 36 = .ok (.invokevirtual 284, 3) := by decide +kernel
theorem dX7_text_39 : decode cX7_text 39 = .ok (.iinc 1 1, 3) := by decide +kernel
theorem dX7_text_42 : decode cX7_text 42 = .ok (.aload_n 0, 1) := by decide +kernel
theorem dX7_text_43 : decode cX7_text 43 = .ok (.getfield 243, 3) := by decide +kernel
theorem dX7_text_46 : decode cX7_text 46 = .ok (.ifCond .eq 24, 3) := by decide +kernel
theorem dX7_text_49 : decode cX7_text 49 = .ok (.aload_n 0, 1) := by decide +kernel
theorem dX7_text_50 : decode cX7_text 50 = .ok (.getfield 213, 3) := by decide +kernel
theorem dX7_text_53 : decode cX7_text 53 = .ok (.iconst 3, 1) := by decide +kernel
theorem dX7_text_54 : decode cX7_text 54 = .ok (.if_icmp .ne 16, 3) := by decide +kernel
theorem dX7_text_57 : decode cX7_text 57 = .ok (.aload_n 0, 1) := by decide +kernel
theorem dX7_text_58 : decode cX7_text 58 = .ok (.getfield 220, 3) := by decide +kernel
theorem dX7_text_61 : decode cX7_text 61 = .ok (.bipush 59, 2) := by decide +kernel
theorem dX7_text_63 : decode cX7_text 63 = .ok (.if_icmp .ne 7, 3) := by decide +kernel
theorem dX7_text_66 : decode cX7_text 66 = .ok (.iconst 1, 1) := by decide +kernel
theorem dX7_text_67 : decode cX7_text 67 = .ok (.goto 4, 3) := by decide +kernel
theorem dX7_text_70 : decode cX7_text 70 = .ok (.iconst 0, 1) := by decide +kernel
theorem dX7_text_71 : decode cX7_text 71 = .ok (.istore_n 2, 1) := by decide +kernel
theorem dX7_text_72 : decode cX7_text 72 = .ok (.goto (-45), 3) := by decide +kernel
theorem dX7_text_75 : decode cX7_text 75 = .ok (.aload_n 0, 1) := by decide +kernel
theorem dX7_text_76 : decode cX7_text 76 = .ok (.aload_n 0, 1) := by decide +kernel
theorem dX7_text_77 : decode cX7_text 77 = .ok (.getfield 243, 3) := by decide +kernel
theorem dX7_text_80 : decode cX7_text 80 = .ok (.ifCond .eq 14, 3) := by decide +kernel
theorem dX7_text_83 : decode cX7_text 83 = .ok (.aload_n 0, 1) := by decide +kernel
theorem dX7_text_84 : decode cX7_text 84 = .ok (.getfield 213, 3) := by decide +kernel
theorem dX7_text_87 : decode cX7_text 87 = .ok (.ifCond .ne 7, 3) := by decide +kernel
theorem dX7_text_90 : decode cX7_text 90 = .ok (.iconst 1, 1) := by decide +kernel
theorem dX7_text_91 : decode cX7_text 91 = .ok (.goto 4, 3) := by decide +kernel
theorem dX7_text_94 : decode cX7_text 94 = .ok (.iconst 0, 1) := by decide +kernel
theorem dX7_text_95 : decode cX7_text 95 = .ok (.putfield 243, 3) := by decide +kernel
theorem dX7_text_98 : decode cX7_text 98 = .ok (.aload_n 0, 1) := by decide +kernel
theorem dX7_text_99 : decode cX7_text 99 = .ok (.iconst 0, 1) := by decide +kernel
theorem dX7_text_100 : decode cX7_text 100 = .ok (.putfield 194, 3) := by decide +kernel
theorem dX7_text_103 : decode cX7_text 103 = .ok (.aload_n 0, 1) := by decide +kernel
theorem dX7_text_104 : decode cX7_text 104 = .ok (.getfield 243, 3) := by decide +kernel
theorem dX7_text_107 : decode cX7_text 107 = .ok (.ifCond .ne 23, 3) := by decide +kernel
theorem dX7_text_110 : decode cX7_text 110 = .ok (.aload_n 0, 1) := by decide +kernel
theorem dX7_text_111 : decode cX7_text 111 = .ok (.iconst 0, 1) := by decide +kernel
theorem dX7_text_112 : decode cX7_text 112 = .ok (.aload_n 0, 1) := by decide +kernel
theorem dX7_text_113 : decode cX7_text 113 = .ok (.getfield 54, 3) := by decide +kernel
theorem dX7_text_116 : decode cX7_text 116 = .ok (.aload_n 0, 1) := by decide +kernel
theorem dX7_text_117 : decode cX7_text 117 = .ok (.getfield 60, 3) := by decide +kernel
theorem dX7_text_120 : decode cX7_text 120 = .ok (.invokevirtual 280, 3) := by decide +kernel
theorem dX7_text_123 : decode cX7_text 123 = .ok (.iconst (-1), 1) := by decide +kernel
theorem dX7_text_124 : decode cX7_text 124 = .ok (.aload_n 0, 1) := by decide +kernel
theorem dX7_text_125 : decode cX7_text 125 = .ok (.getfield 201, 3) := by decide +kernel
theorem dX7_text_128 : decode cX7_text 128 = .ok (.isub, 1) := by decide +kernel
theorem dX7_text_129 : decode cX7_text 129 = .ok (.ireturn, 1) := by decide +kernel
theorem dX7_text_130 : decode cX7_text 130 = .ok (.iload_n 1, 1) := by decide +kernel
theorem dX7_text_131 : decode cX7_text 131 = .ok (.ireturn, 1) := by decide +kernel
theorem dX7_isSheet_0 : decode cX7_isSheet 0 = .ok (.iload_n 0, 1) := by decide +kernel
theorem dX7_isSheet_1 : decode cX7_isSheet 1 = .ok (.iconst 0, 1) := by decide +kernel
theorem dX7_isSheet_2 : decode cX7_isSheet 2 = .ok (.iconst 3, 1) := by decide +kernel
theorem dX7_isSheet_3 : decode cX7_isSheet 3 = .ok (.invokestatic 64, 3) := by decide +kernel
theorem dX7_isSheet_6 : decode cX7_isSheet 6 = .ok (.ireturn, 1) := by decide +kernel
theorem dX7_narrow_0 : decode cX7_narrow 0 = .ok (.iload_n 0, 1) := by decide +kernel
theorem dX7_narrow_1 : decode cX7_narrow 1 = .ok (.bipush 8, 2) := by decide +kernel
theorem dX7_narrow_3 : decode cX7_narrow 3 = .ok (.if_icmp .ne 13, 3) := by decide +kernel
theorem dX7_narrow_6 : decode cX7_narrow 6 = .ok (.lload_n 1, 1) := by decide +kernel
theorem dX7_narrow_7 : decode cX7_narrow 7 = .ok (.bipush 56, 2) := by decide +kernel
theorem dX7_narrow_9 : decode cX7_narrow 9 = .ok (.lshl, 1) := by decide +kernel
theorem dX7_narrow_10 : decode cX7_narrow 10 = .ok (.bipush 56, 2) := by decide +kernel
theorem dX7_narrow_12 : decode cX7_narrow 12 = .ok (.lshr, 1) := by decide +kernel
theorem dX7_narrow_13 : decode cX7_narrow 13 = .ok (.goto 20, 3) := by decide +kernel
theorem dX7_narrow_16 : decode cX7_narrow 16 = .ok (.iload_n 0, 1) := by decide +kernel
theorem dX7_narrow_17 : decode cX7_narrow 17 = .ok (.bipush 16, 2) := by decide +kernel
theorem dX7_narrow_19 : decode cX7_narrow 19 = .ok (.if_icmp .ne 13, 3) := by decide +kernel
theorem dX7_narrow_22 : decode cX7_narrow 22 = .ok (.lload_n 1, 1) := by decide +kernel
theorem dX7_narrow_23 : decode cX7_narrow 23 = .ok (.bipush 48, 2) := by decide +kernel
theorem dX7_narrow_25 : decode cX7_narrow 25 = .ok (.lshl, 1) := by decide +kernel
theorem dX7_narrow_26 : decode cX7_narrow 26 = .ok (.bipush 48, 2) := by decide +kernel
theorem dX7_narrow_28 : decode cX7_narrow 28 = .ok (.lshr, 1) := by decide +kernel
theorem dX7_narrow_29 : decode cX7_narrow 29 = .ok (.goto 4, 3) := by decide +kernel
theorem dX7_narrow_32 : decode cX7_narrow 32 = .ok (.lload_n 1, 1) := by decide +kernel
theorem dX7_narrow_33 : decode cX7_narrow 33 = .ok (.lreturn, 1) := by decide +kernel
theorem dX7_sheet_0 : decode cX7_sheet 0 = .ok (.iload_n 1, 1) := by decide +kernel
theorem dX7_sheet_1 : decode cX7_sheet 1 = .ok (.invokestatic 287, 3) := by decide +kernel
theorem dX7_sheet_4 : decode cX7_sheet 4 = .ok (.ifCond .eq 25, 3) := by decide +kernel
theorem dX7_sheet_7 : decode cX7_sheet 7 = .ok (.iload_n 2, 1) := by decide +kernel
theorem dX7_sheet_8 : decode cX7_sheet 8 = .ok (.ifCond .eq 28, 3) := by decide +kernel
theorem dX7_sheet_11 : decode cX7_sheet 11 = .ok (.iload_n 2, 1) := by decide +kernel
theorem dX7_sheet_12 : decode cX7_sheet 12 = .ok (.bipush 8, 2) := by decide +kernel
theorem dX7_sheet_14 : decode cX7_sheet 14 = .ok (.if_icmp .eq 22, 3) := by decide +kernel
theorem dX7_sheet_17 : decode cX7_sheet 17 = .ok (.iload_n 2, 1) := by decide +kernel
theorem dX7_sheet_18 : decode cX7_sheet 18 = .ok (.bipush 16, 2) := by decide +kernel
theorem dX7_sheet_20 : decode cX7_sheet 20 = .ok (.if_icmp .eq 16, 3) := by decide +kernel
theorem dX7_sheet_23 : decode cX7_sheet 23 = .ok (.iload_n 2, 1) := by decide +kernel
theorem dX7_sheet_24 : decode cX7_sheet 24 = .ok (.bipush 64, 2) := by decide +kernel
theorem dX7_sheet_26 : decode cX7_sheet 26 = .ok (.if_icmp .eq 10, 3) := by decide +kernel
theorem dX7_sheet_29 : decode cX7_sheet 29 = .ok (.aload_n 0, 1) := by decide +kernel
theorem dX7_sheet_30 : decode cX7_sheet 30 = .ok (.ldc 63, 2) := by decide +kernel
theorem dX7_sheet_32 : decode cX7_sheet 32 = .ok (.invokevirtual 94, 3) := by decide +kernel
theorem dX7_sheet_35 : decode cX7_sheet 35 = .ok (.ireturn, 1) := by decide +kernel
theorem dX7_sheet_36 : decode cX7_sheet 36 = .ok (.iload_n 3, 1) := by decide +kernel
theorem dX7_sheet_37 : decode cX7_sheet 37 = .ok (.ifCond .ge 10, 3) := by decide +kernel
theorem dX7_sheet_40 : decode cX7_sheet 40 = .ok (.aload_n 0, 1) := by decide +kernel
theorem dX7_sheet_41 : decode cX7_sheet 41 = .ok (.ldc 174, 2) := by decide +kernel
theorem dX7_sheet_43 : decode cX7_sheet 43 = .ok (.invokevirtual 94, 3) := by decide +kernel
theorem dX7_sheet_46 : decode cX7_sheet 46 = .ok (.ireturn, 1) := by decide +kernel
theorem dX7_sheet_47 : decode cX7_sheet 47 = .ok (.iload_n 3, 1) := by decide +kernel
theorem dX7_sheet_48 : decode cX7_sheet 48 = .ok (.bipush 40, 2) := by decide +kernel
theorem dX7_sheet_50 : decode cX7_sheet 50 = .ok (.if_icmp .le 10, 3) := by decide +kernel
theorem dX7_sheet_53 : decode cX7_sheet 53 = .ok (.aload_n 0, 1) := by decide +kernel
theorem dX7_sheet_54 : decode cX7_sheet 54 = .ok (.ldc 63, 2) := by decide +kernel
theorem dX7_sheet_56 : decode cX7_sheet 56 = .ok (.invokevirtual 94, 3) := by decide +kernel
theorem dX7_sheet_59 : decode cX7_sheet 59 = .ok (.ireturn, 1) := by decide +kernel
theorem dX7_sheet_60 : decode cX7_sheet 60 = .ok (.aload_n 0, 1) := by decide +kernel
theorem dX7_sheet_61 : decode cX7_sheet 61 = .ok (.getfield 39, 3) := by decide +kernel
theorem dX7_sheet_64 : decode cX7_sheet 64 = .ok (.iload_n 1, 1) := by decide +kernel
theorem dX7_sheet_65 : decode cX7_sheet 65 = .ok (.iload_n 2, 1) := by decide +kernel
theorem dX7_sheet_66 : decode cX7_sheet 66 = .ok (.iastore, 1) := by decide +kernel
theorem dX7_sheet_67 : decode cX7_sheet 67 = .ok (.aload_n 0, 1) := by decide +kernel
theorem dX7_sheet_68 : decode cX7_sheet 68 = .ok (.getfield 42, 3) := by decide +kernel
theorem dX7_sheet_71 : decode cX7_sheet 71 = .ok (.iload_n 1, 1) := by decide +kernel
theorem dX7_sheet_72 : decode cX7_sheet 72 = .ok (.iload_n 2, 1) := by decide +kernel
theorem dX7_sheet_73 : decode cX7_sheet 73 = .ok (.ifCond .ne 7, 3) := by decide +kernel
theorem dX7_sheet_76 : decode cX7_sheet 76 = .ok (.iconst 0, 1) := by decide +kernel
theorem dX7_sheet_77 : decode cX7_sheet 77 = .ok (.goto 4, 3) := by decide +kernel
theorem dX7_sheet_80 : decode cX7_sheet 80 = .ok (.iload_n 3, 1) := by decide +kernel
theorem dX7_sheet_81 : decode cX7_sheet 81 = .ok (.iastore, 1) := by decide +kernel
theorem dX7_sheet_82 : decode cX7_sheet 82 = .ok (.iconst 0, 1) := by decide +kernel
theorem dX7_sheet_83 : decode cX7_sheet 83 = .ok (.istore 4, 2) := by decide +kernel
theorem dX7_sheet_85 : decode cX7_sheet 85 = .ok (.iload 4, 2) := by decide +kernel
theorem dX7_sheet_87 : decode cX7_sheet 87 = .ok (.bipush 40, 2) := by decide +kernel
theorem dX7_sheet_89 : decode cX7_sheet 89 = .ok (.if_icmp .ge 22, 3) := by decide +kernel
theorem dX7_sheet_92 : decode cX7_sheet 92 = .ok (.aload_n 0, 1) := by decide +kernel
theorem dX7_sheet_93 : decode cX7_sheet 93 = .ok (.getfield 45, 3) := by decide +kernel
theorem dX7_sheet_96 : decode cX7_sheet 96 = .ok (.bipush 40, 2) := by decide +kernel
theorem dX7_sheet_98 : decode cX7_sheet 98 = .ok (.iload_n 1, 1) := by decide +kernel
theorem dX7_sheet_99 : decode cX7_sheet 99 = .ok (.imul, 1) := by decide +kernel
theorem dX7_sheet_100 : decode cX7_sheet 100 = .ok (.iload 4, 2) := by decide +kernel
theorem dX7_sheet_102 : decode cX7_sheet 102 = .ok (.iadd, 1) := by decide +kernel
theorem dX7_sheet_103 : decode cX7_sheet 103 = .ok (.lconst 0, 1) := by decide +kernel
theorem dX7_sheet_104 : decode cX7_sheet 104 = .ok (.lastore, 1) := by decide +kernel
theorem dX7_sheet_105 : decode cX7_sheet 105 = .ok (.iinc 4 1, 3) := by decide +kernel
theorem dX7_sheet_108 : decode cX7_sheet 108 = .ok (.goto (-23), 3) := by decide +kernel
theorem dX7_sheet_111 : decode cX7_sheet 111 = .ok (.aload_n 0, 1) := by decide +kernel
theorem dX7_sheet_112 : decode cX7_sheet 112 = .ok (.getfield 42, 3) := by decide +kernel
theorem dX7_sheet_115 : decode cX7_sheet 115 = .ok (.iload_n 1, 1) := by decide +kernel
theorem dX7_sheet_116 : decode cX7_sheet 116 = .ok (.iaload, 1) := by decide +kernel
theorem dX7_sheet_117 : decode cX7_sheet 117 = .ok (.ireturn, 1) := by decide +kernel
theorem dX7_write_0 : decode cX7_write 0 = .ok (.iload_n 1, 1) := by decide +kernel
theorem dX7_write_1 : decode cX7_write 1 = .ok (.invokestatic 287, 3) := by decide +kernel
theorem dX7_write_4 : decode cX7_write 4 = .ok (.ifCond .ne 11, 3) := by decide +kernel
theorem dX7_write_7 : decode cX7_write 7 = .ok (.aload_n 0, 1) := by decide +kernel
theorem dX7_write_8 : decode cX7_write 8 = .ok (.ldc 63, 2) := by decide +kernel
theorem dX7_write_10 : decode cX7_write 10 = .ok (.invokevirtual 94, 3) := by decide +kernel
theorem dX7_write_13 : decode cX7_write 13 = .ok (.i2l, 1) := by decide +kernel
theorem dX7_write_14 : decode cX7_write 14 = .ok (.lreturn, 1) := by decide +kernel
theorem dX7_write_15 : decode cX7_write 15 = .ok (.aload_n 0, 1) := by decide +kernel
theorem dX7_write_16 : decode cX7_write 16 = .ok (.getfield 39, 3) := by decide +kernel
theorem dX7_write_19 : decode cX7_write 19 = .ok (.iload_n 1, 1) := by decide +kernel
theorem dX7_write_20 : decode cX7_write 20 = .ok (.iaload, 1) := by decide +kernel
theorem dX7_write_21 : decode cX7_write 21 = .ok (.ifCond .ne 12, 3) := by decide +kernel
theorem dX7_write_24 : decode cX7_write 24 = .ok (.aload_n 0, 1) := by decide +kernel
theorem dX7_write_25 : decode cX7_write 25 = .ok (.ldc_w 290, 3) := by decide +kernel
theorem dX7_write_28 : decode cX7_write 28 = .ok (.invokevirtual 94, 3) := by decide +kernel
theorem dX7_write_31 : decode cX7_write 31 = .ok (.i2l, 1) := by decide +kernel
theorem dX7_write_32 : decode cX7_write 32 = .ok (.lreturn, 1) := by decide +kernel
theorem dX7_write_33 : decode cX7_write 33 = .ok (.iload_n 2, 1) := by decide +kernel
theorem dX7_write_34 : decode cX7_write 34 = .ok (.iconst 0, 1) := by decide +kernel
theorem dX7_write_35 : decode cX7_write 35 = .ok (.aload_n 0, 1) := by decide +kernel
theorem dX7_write_36 : decode cX7_write 36 = .ok (.getfield 42, 3) := by decide +kernel
theorem dX7_write_39 : decode cX7_write 39 = .ok (.iload_n 1, 1) := by decide +kernel
theorem dX7_write_40 : decode cX7_write 40 = .ok (.iaload, 1) := by decide +kernel
theorem dX7_write_41 : decode cX7_write 41 = .ok (.iconst 1, 1) := by decide +kernel
theorem dX7_write_42 : decode cX7_write 42 = .ok (.isub, 1) := by decide +kernel
theorem dX7_write_43 : decode cX7_write 43 = .ok (.invokestatic 64, 3) := by decide +kernel
theorem dX7_write_46 : decode cX7_write 46 = .ok (.ifCond .ne 11, 3) := by decide +kernel
theorem dX7_write_49 : decode cX7_write 49 = .ok (.aload_n 0, 1) := by decide +kernel
theorem dX7_write_50 : decode cX7_write 50 = .ok (.ldc 63, 2) := by decide +kernel
theorem dX7_write_52 : decode cX7_write 52 = .ok (.invokevirtual 94, 3) := by decide +kernel
theorem dX7_write_55 : decode cX7_write 55 = .ok (.i2l, 1) := by decide +kernel
theorem dX7_write_56 : decode cX7_write 56 = .ok (.lreturn, 1) := by decide +kernel
theorem dX7_write_57 : decode cX7_write 57 = .ok (.aload_n 0, 1) := by decide +kernel
theorem dX7_write_58 : decode cX7_write 58 = .ok (.getfield 45, 3) := by decide +kernel
theorem dX7_write_61 : decode cX7_write 61 = .ok (.bipush 40, 2) := by decide +kernel
theorem dX7_write_63 : decode cX7_write 63 = .ok (.iload_n 1, 1) := by decide +kernel
theorem dX7_write_64 : decode cX7_write 64 = .ok (.imul, 1) := by decide +kernel
theorem dX7_write_65 : decode cX7_write 65 = .ok (.iload_n 2, 1) := by decide +kernel
theorem dX7_write_66 : decode cX7_write 66 = .ok (.iadd, 1) := by decide +kernel
theorem dX7_write_67 : decode cX7_write 67 = .ok (.laload, 1) := by decide +kernel
theorem dX7_write_68 : decode cX7_write 68 = .ok (.lstore 5, 2) := by decide +kernel
theorem dX7_write_70 : decode cX7_write 70 = .ok (.aload_n 0, 1) := by decide +kernel
theorem dX7_write_71 : decode cX7_write 71 = .ok (.getfield 45, 3) := by decide +kernel
theorem dX7_write_74 : decode cX7_write 74 = .ok (.bipush 40, 2) := by decide +kernel
theorem dX7_write_76 : decode cX7_write 76 = .ok (.iload_n 1, 1) := by decide +kernel
theorem dX7_write_77 : decode cX7_write 77 = .ok (.imul, 1) := by decide +kernel
theorem dX7_write_78 : decode cX7_write 78 = .ok (.iload_n 2, 1) := by decide +kernel
theorem dX7_write_79 : decode cX7_write 79 = .ok (.iadd, 1) := by decide +kernel
theorem dX7_write_80 : decode cX7_write 80 = .ok (.aload_n 0, 1) := by decide +kernel
theorem dX7_write_81 : decode cX7_write 81 = .ok (.getfield 39, 3) := by decide +kernel
theorem dX7_write_84 : decode cX7_write 84 = .ok (.iload_n 1, 1) := by decide +kernel
theorem dX7_write_85 : decode cX7_write 85 = .ok (.iaload, 1) := by decide +kernel
theorem dX7_write_86 : decode cX7_write 86 = .ok (.lload_n 3, 1) := by decide +kernel
theorem dX7_write_87 : decode cX7_write 87 = .ok (.invokestatic 291, 3) := by decide +kernel
theorem dX7_write_90 : decode cX7_write 90 = .ok (.lastore, 1) := by decide +kernel
theorem dX7_write_91 : decode cX7_write 91 = .ok (.lload 5, 2) := by decide +kernel
theorem dX7_write_93 : decode cX7_write 93 = .ok (.lreturn, 1) := by decide +kernel
theorem dX7_isPart_0 : decode cX7_isPart 0 = .ok (.iload_n 2, 1) := by decide +kernel
theorem dX7_isPart_1 : decode cX7_isPart 1 = .ok (.ifCond .lt 33, 3) := by decide +kernel
theorem dX7_isPart_4 : decode cX7_isPart 4 = .ok (.iload_n 3, 1) := by decide +kernel
theorem dX7_isPart_5 : decode cX7_isPart 5 = .ok (.ifCond .lt 29, 3) := by decide +kernel
theorem dX7_isPart_8 : decode cX7_isPart 8 = .ok (.iload_n 3, 1) := by decide +kernel
theorem dX7_isPart_9 : decode cX7_isPart 9 = .ok (.aload_n 0, 1) := by decide +kernel
theorem dX7_isPart_10 : decode cX7_isPart 10 = .ok (.getfield 42, 3) := by decide +kernel
theorem dX7_isPart_13 : decode cX7_isPart 13 = .ok (.iload_n 1, 1) := by decide +kernel
theorem dX7_isPart_14 : decode cX7_isPart 14 = .ok (.iaload, 1) := by decide +kernel
theorem dX7_isPart_15 : decode cX7_isPart 15 = .ok (.if_icmp .gt 19, 3) := by decide +kernel
theorem dX7_isPart_18 : decode cX7_isPart 18 = .ok (.iload_n 2, 1) := by decide +kernel
theorem dX7_isPart_19 : decode cX7_isPart 19 = .ok (.aload_n 0, 1) := by decide +kernel
theorem dX7_isPart_20 : decode cX7_isPart 20 = .ok (.getfield 42, 3) := by decide +kernel
theorem dX7_isPart_23 : decode cX7_isPart 23 = .ok (.iload_n 1, 1) := by decide +kernel
theorem dX7_isPart_24 : decode cX7_isPart 24 = .ok (.iaload, 1) := by decide +kernel
theorem dX7_isPart_25 : decode cX7_isPart 25 = .ok (.iload_n 3, 1) := by decide +kernel
theorem dX7_isPart_26 : decode cX7_isPart 26 = .ok (.isub, 1) := by decide +kernel
theorem dX7_isPart_27 : decode cX7_isPart 27 = .ok (.if_icmp .gt 7, 3) := by decide +kernel
theorem dX7_isPart_30 : decode cX7_isPart 30 = .ok (.iconst 1, 1) := by decide +kernel
theorem dX7_isPart_31 : decode cX7_isPart 31 = .ok (.goto 4, 3) := by decide +kernel
theorem dX7_isPart_34 : decode cX7_isPart 34 = .ok (.iconst 0, 1) := by decide +kernel
theorem dX7_isPart_35 : decode cX7_isPart 35 = .ok (.ireturn, 1) := by decide +kernel
theorem dX7_copy_0 : decode cX7_copy 0 = .ok (.iload_n 1, 1) := by decide +kernel
theorem dX7_copy_1 : decode cX7_copy 1 = .ok (.invokestatic 287, 3) := by decide +kernel
theorem dX7_copy_4 : decode cX7_copy 4 = .ok (.ifCond .eq 10, 3) := by decide +kernel
theorem dX7_copy_7 : decode cX7_copy 7 = .ok (.iload_n 3, 1) := by decide +kernel
theorem dX7_copy_8 : decode cX7_copy 8 = .ok (.invokestatic 287, 3) := by decide +kernel
theorem dX7_copy_11 : decode cX7_copy 11 = .ok (.ifCond .ne 10, 3) := by decide +kernel
theorem dX7_copy_14 : decode cX7_copy 14 = .ok (.aload_n 0, 1) := by decide +kernel
theorem dX7_copy_15 : decode cX7_copy 15 = .ok (.ldc 63, 2) := by decide +kernel
theorem dX7_copy_17 : decode cX7_copy 17 = .ok (.invokevirtual 94, 3) := by decide +kernel
theorem dX7_copy_20 : decode cX7_copy 20 = .ok (.ireturn, 1) := by decide +kernel
theorem dX7_copy_21 : decode cX7_copy 21 = .ok (.aload_n 0, 1) := by decide +kernel
theorem dX7_copy_22 : decode cX7_copy 22 = .ok (.getfield 39, 3) := by decide +kernel
theorem dX7_copy_25 : decode cX7_copy 25 = .ok (.iload_n 1, 1) := by decide +kernel
theorem dX7_copy_26 : decode cX7_copy 26 = .ok (.iaload, 1) := by decide +kernel
theorem dX7_copy_27 : decode cX7_copy 27 = .ok (.ifCond .eq 12, 3) := by decide +kernel
theorem dX7_copy_30 : decode cX7_copy 30 = .ok (.aload_n 0, 1) := by decide +kernel
theorem dX7_copy_31 : decode cX7_copy 31 = .ok (.getfield 39, 3) := by decide +kernel
theorem dX7_copy_34 : decode cX7_copy 34 = .ok (.iload_n 3, 1) := by decide +kernel
theorem dX7_copy_35 : decode cX7_copy 35 = .ok (.iaload, 1) := by decide +kernel
theorem dX7_copy_36 : decode cX7_copy 36 = .ok (.ifCond .ne 11, 3) := by decide +kernel
theorem dX7_copy_39 : decode cX7_copy 39 = .ok (.aload_n 0, 1) := by decide +kernel
theorem dX7_copy_40 : decode cX7_copy 40 = .ok (.ldc_w 290, 3) := by decide +kernel
theorem dX7_copy_43 : decode cX7_copy 43 = .ok (.invokevirtual 94, 3) := by decide +kernel
theorem dX7_copy_46 : decode cX7_copy 46 = .ok (.ireturn, 1) := by decide +kernel
theorem dX7_copy_47 : decode cX7_copy 47 = .ok (.aload_n 0, 1) := by decide +kernel
theorem dX7_copy_48 : decode cX7_copy 48 = .ok (.getfield 39, 3) := by decide +kernel
theorem dX7_copy_51 : decode cX7_copy 51 = .ok (.iload_n 1, 1) := by decide +kernel
theorem dX7_copy_52 : decode cX7_copy 52 = .ok (.iaload, 1) := by decide +kernel
theorem dX7_copy_53 : decode cX7_copy 53 = .ok (.aload_n 0, 1) := by decide +kernel
theorem dX7_copy_54 : decode cX7_copy 54 = .ok (.getfield 39, 3) := by decide +kernel
theorem dX7_copy_57 : decode cX7_copy 57 = .ok (.iload_n 3, 1) := by decide +kernel
theorem dX7_copy_58 : decode cX7_copy 58 = .ok (.iaload, 1) := by decide +kernel
theorem dX7_copy_59 : decode cX7_copy 59 = .ok (.if_icmp .eq 10, 3) := by decide +kernel
theorem dX7_copy_62 : decode cX7_copy 62 = .ok (.aload_n 0, 1) := by decide +kernel
theorem dX7_copy_63 : decode cX7_copy 63 = .ok (.ldc 123, 2) := by decide +kernel
theorem dX7_copy_65 : decode cX7_copy 65 = .ok (.invokevirtual 94, 3) := by decide +kernel
theorem dX7_copy_68 : decode cX7_copy 68 = .ok (.ireturn, 1) := by decide +kernel
theorem dX7_copy_69 : decode cX7_copy 69 = .ok (.aload_n 0, 1) := by decide +kernel
theorem dX7_copy_70 : decode cX7_copy 70 = .ok (.iload_n 1, 1) := by decide +kernel
theorem dX7_copy_71 : decode cX7_copy 71 = .ok (.iload_n 2, 1) := by decide +kernel
theorem dX7_copy_72 : decode cX7_copy 72 = .ok (.iload 5, 2) := by decide +kernel
theorem dX7_copy_74 : decode cX7_copy 74 = .ok (.invokevirtual 295, 3) := by decide +kernel
theorem dX7_copy_77 : decode cX7_copy 77 = .ok (.ifCond .eq 15, 3) := by decide +kernel
theorem dX7_copy_80 : decode cX7_copy 80 = .ok (.aload_n 0, 1) := by decide +kernel
theorem dX7_copy_81 : decode cX7_copy 81 = .ok (.iload_n 3, 1) := by decide +kernel
theorem dX7_copy_82 : decode cX7_copy 82 = .ok (.iload 4, 2) := by decide +kernel
theorem dX7_copy_84 : decode cX7_copy 84 = .ok (.iload 5, 2) := by decide +kernel
theorem dX7_copy_86 : decode cX7_copy 86 = .ok (.invokevirtual 295, 3) := by decide +kernel
theorem dX7_copy_89 : decode cX7_copy 89 = .ok (.ifCond .ne 10, 3) := by decide +kernel
theorem dX7_copy_92 : decode cX7_copy 92 = .ok (.aload_n 0, 1) := by decide +kernel
theorem dX7_copy_93 : decode cX7_copy 93 = .ok (.ldc 63, 2) := by decide +kernel
theorem dX7_copy_95 : decode cX7_copy 95 = .ok (.invokevirtual 94, 3) := by decide +kernel
theorem dX7_copy_98 : decode cX7_copy 98 = .ok (.ireturn, 1) := by decide +kernel
theorem dX7_copy_99 : decode cX7_copy 99 = .ok (.iconst 0, 1) := by decide +kernel
theorem dX7_copy_100 : decode cX7_copy 100 = .ok (.istore 6, 2) := by decide +kernel
theorem dX7_copy_102 : decode cX7_copy 102 = .ok (.iload 6, 2) := by decide +kernel
theorem dX7_copy_104 : decode cX7_copy 104 = .ok (.iload 5, 2) := by decide +kernel
theorem dX7_copy_106 : decode cX7_copy 106 = .ok (.if_icmp .ge 30, 3) := by decide +kernel
theorem dX7_copy_109 : decode cX7_copy 109 = .ok (.aload_n 0, 1) := by decide +kernel
theorem dX7_copy_110 : decode cX7_copy 110 = .ok (.getfield 48, 3) := by decide +kernel
theorem dX7_copy_113 : decode cX7_copy 113 = .ok (.iload 6, 2) := by decide +kernel
theorem dX7_copy_115 : decode cX7_copy 115 = .ok (.aload_n 0, 1) := by decide +kernel
theorem dX7_copy_116 : decode cX7_copy 116 = .ok (.getfield 45, 3) := by decide +kernel
theorem dX7_copy_119 : decode cX7_copy 119 = .ok (.bipush 40, 2) := by decide +kernel
theorem dX7_copy_121 : decode cX7_copy 121 = .ok (.iload_n 1, 1) := by decide +kernel
theorem dX7_copy_122 : decode cX7_copy 122 = .ok (.imul, 1) := by decide +kernel
theorem dX7_copy_123 : decode cX7_copy 123 = .ok (.iload_n 2, 1) := by decide +kernel
theorem dX7_copy_124 : decode cX7_copy 124 = .ok (.iadd, 1) := by decide +kernel
theorem dX7_copy_125 : decode cX7_copy 125 = .ok (.iload 6, 2) := by decide +kernel
theorem dX7_copy_127 : decode cX7_copy 127 = .ok (.iadd, 1) := by decide +kernel
theorem dX7_copy_128 : decode cX7_copy 128 = .ok (.laload, 1) := by decide +kernel
theorem dX7_copy_129 : decode cX7_copy 129 = .ok (.lastore, 1) := by decide +kernel
theorem dX7_copy_130 : decode cX7_copy 130 = .ok (.iinc 6 1, 3) := by decide +kernel
theorem dX7_copy_133 : decode cX7_copy 133 = .ok (.goto (-31), 3) := by decide +kernel
theorem dX7_copy_136 : decode cX7_copy 136 = .ok (.iconst 0, 1) := by decide +kernel
theorem dX7_copy_137 : decode cX7_copy 137 = .ok (.istore 6, 2) := by decide +kernel
theorem dX7_copy_139 : decode cX7_copy 139 = .ok (.iload 6, 2) := by decide +kernel
theorem dX7_copy_141 : decode cX7_copy 141 = .ok (.iload 5, 2) := by decide +kernel
theorem dX7_copy_143 : decode cX7_copy 143 = .ok (.if_icmp .ge 31, 3) := by decide +kernel
theorem dX7_copy_146 : decode cX7_copy 146 = .ok (.aload_n 0, 1) := by decide +kernel
theorem dX7_copy_147 : decode cX7_copy 147 = .ok (.getfield 45, 3) := by decide +kernel
theorem dX7_copy_150 : decode cX7_copy 150 = .ok (.bipush 40, 2) := by decide +kernel
theorem dX7_copy_152 : decode cX7_copy 152 = .ok (.iload_n 3, 1) := by decide +kernel
theorem dX7_copy_153 : decode cX7_copy 153 = .ok (.imul, 1) := by decide +kernel
theorem dX7_copy_154 : decode cX7_copy 154 = .ok (.iload 4, 2) := by decide +kernel
theorem dX7_copy_156 : decode cX7_copy 156 = .ok (.iadd, 1) := by decide +kernel
theorem dX7_copy_157 : decode cX7_copy 157 = .ok (.iload 6, 2) := by decide +kernel
theorem dX7_copy_159 : decode cX7_copy 159 = .ok (.iadd, 1) := by decide +kernel
theorem dX7_copy_160 : decode cX7_copy 160 = .ok (.aload_n 0, 1) := by decide +kernel
theorem dX7_copy_161 : decode cX7_copy 161 = .ok (.getfield 48, 3) := by decide +kernel
theorem dX7_copy_164 : decode cX7_copy 164 = .ok (.iload 6, 2) := by decide +kernel
theorem dX7_copy_166 : decode cX7_copy 166 = .ok (.laload, 1) := by decide +kernel
theorem dX7_copy_167 : decode cX7_copy 167 = .ok (.lastore, 1) := by decide +kernel
theorem dX7_copy_168 : decode cX7_copy 168 = .ok (.iinc 6 1, 3) := by decide +kernel
theorem dX7_copy_171 : decode cX7_copy 171 = .ok (.goto (-32), 3) := by decide +kernel
theorem dX7_copy_174 : decode cX7_copy 174 = .ok (.iload 5, 2) := by decide +kernel
theorem dX7_copy_176 : decode cX7_copy 176 = .ok (.ireturn, 1) := by decide +kernel
theorem dX7_dates_0 : decode cX7_dates 0 = .ok (.iload_n 1, 1) := by decide +kernel
theorem dX7_dates_1 : decode cX7_dates 1 = .ok (.invokestatic 287, 3) := by decide +kernel
theorem dX7_dates_4 : decode cX7_dates 4 = .ok (.ifCond .ne 10, 3) := by decide +kernel
theorem dX7_dates_7 : decode cX7_dates 7 = .ok (.aload_n 0, 1) := by decide +kernel
theorem dX7_dates_8 : decode cX7_dates 8 = .ok (.ldc 63, 2) := by decide +kernel
theorem dX7_dates_10 : decode cX7_dates 10 = .ok (.invokevirtual 94, 3) := by decide +kernel
theorem dX7_dates_13 : decode cX7_dates 13 = .ok (.ireturn, 1) := by decide +kernel
theorem dX7_dates_14 : decode cX7_dates 14 = .ok (.aload_n 0, 1) := by decide +kernel
theorem dX7_dates_15 : decode cX7_dates 15 = .ok (.getfield 39, 3) := by decide +kernel
theorem dX7_dates_18 : decode cX7_dates 18 = .ok (.iload_n 1, 1) := by decide +kernel
theorem dX7_dates_19 : decode cX7_dates 19 = .ok (.iaload, 1) := by decide +kernel
theorem dX7_dates_20 : decode cX7_dates 20 = .ok (.ifCond .ne 11, 3) := by decide +kernel
theorem dX7_dates_23 : decode cX7_dates 23 = .ok (.aload_n 0, 1) := by decide +kernel
theorem dX7_dates_24 : decode cX7_dates 24 = .ok (.ldc_w 290, 3) := by decide +kernel
theorem dX7_dates_27 : decode cX7_dates 27 = .ok (.invokevirtual 94, 3) := by decide +kernel
theorem dX7_dates_30 : decode cX7_dates 30 = .ok (.ireturn, 1) := by decide +kernel
theorem dX7_dates_31 : decode cX7_dates 31 = .ok (.iconst 0, 1) := by decide +kernel
theorem dX7_dates_32 : decode cX7_dates 32 = .ok (.istore_n 2, 1) := by decide +kernel
theorem dX7_dates_33 : decode cX7_dates 33 = .ok (.iconst 0, 1) := by decide +kernel
theorem dX7_dates_34 : decode cX7_dates 34 = .ok (.istore_n 3, 1) := by decide +kernel
theorem dX7_dates_35 : decode cX7_dates 35 = .ok (.iload_n 3, 1) := by decide +kernel
theorem dX7_dates_36 : decode cX7_dates 36 = .ok (.aload_n 0, 1) := by decide +kernel
theorem dX7_dates_37 : decode cX7_dates 37 = .ok (.getfield 7, 3) := by decide +kernel
theorem dX7_dates_40 : decode cX7_dates 40 = .ok (.iconst 0, 1) := by decide +kernel
theorem dX7_dates_41 : decode cX7_dates 41 = .ok (.iaload, 1) := by decide +kernel
theorem dX7_dates_42 : decode cX7_dates 42 = .ok (.if_icmp .ge 60, 3) := by decide +kernel
theorem dX7_dates_45 : decode cX7_dates 45 = .ok (.iload_n 3, 1) := by decide +kernel
theorem dX7_dates_46 : decode cX7_dates 46 = .ok (.aload_n 0, 1) := by decide +kernel
theorem dX7_dates_47 : decode cX7_dates 47 = .ok (.getfield 42, 3) := by decide +kernel
theorem dX7_dates_50 : decode cX7_dates 50 = .ok (.iload_n 1, 1) := by decide +kernel
theorem dX7_dates_51 : decode cX7_dates 51 = .ok (.iaload, 1) := by decide +kernel
theorem dX7_dates_52 : decode cX7_dates 52 = .ok (.if_icmp .ge 50, 3) := by decide +kernel
theorem dX7_dates_55 : decode cX7_dates 55 = .ok (.aload_n 0, 1) := by decide +kernel
theorem dX7_dates_56 : decode cX7_dates 56 = .ok (.getfield 45, 3) := by decide +kernel
theorem dX7_dates_59 : decode cX7_dates 59 = .ok (.bipush 40, 2) := by decide +kernel
theorem dX7_dates_61 : decode cX7_dates 61 = .ok (.iload_n 1, 1) := by decide +kernel
theorem dX7_dates_62 : decode cX7_dates 62 = .ok (.imul, 1) := by decide +kernel
theorem dX7_dates_63 : decode cX7_dates 63 = .ok (.iload_n 3, 1) := by decide +kernel
theorem dX7_dates_64 : decode cX7_dates 64 = .ok (.iadd, 1) := by decide +kernel
theorem dX7_dates_65 : decode cX7_dates 65 = .ok (.laload, 1) := by decide +kernel
theorem dX7_dates_66 : decode cX7_dates 66 = .ok (.lstore 4, 2) := by decide +kernel
theorem dX7_dates_68 : decode cX7_dates 68 = .ok (.lload 4, 2) := by decide +kernel
theorem dX7_dates_70 : decode cX7_dates 70 = .ok (.lconst 0, 1) := by decide +kernel
theorem dX7_dates_71 : decode cX7_dates 71 = .ok (.lcmp, 1) := by decide +kernel
theorem dX7_dates_72 : decode cX7_dates 72 = .ok (.ifCond .lt 24, 3) := by decide +kernel
theorem dX7_dates_75 : decode cX7_dates 75 = .ok (.lload 4, 2) := by decide +kernel
theorem dX7_dates_77 : decode cX7_dates 77 = .ok (.ldc2_w 298, 3) := by decide +kernel
theorem dX7_dates_80 : decode cX7_dates 80 = .ok (.lcmp, 1) := by decide +kernel
theorem dX7_dates_81 : decode cX7_dates 81 = .ok (.ifCond .gt 15, 3) := by decide +kernel
theorem dX7_dates_84 : decode cX7_dates 84 = .ok (.aload_n 0, 1) := by decide +kernel
theorem dX7_dates_85 : decode cX7_dates 85 = .ok (.iload_n 3, 1) := by decide +kernel
theorem dX7_dates_86 : decode cX7_dates 86 = .ok (.iconst 2, 1) := by decide +kernel
theorem dX7_dates_87 : decode cX7_dates 87 = .ok (.lload 4, 2) := by decide +kernel
theorem dX7_dates_89 : decode cX7_dates 89 = .ok (.l2i, 1) := by decide +kernel
theorem dX7_dates_90 : decode cX7_dates 90 = .ok (.invokevirtual 86, 3) := by decide +kernel
theorem dX7_dates_93 : decode cX7_dates 93 = .ok (.iinc 2 1, 3) := by decide +kernel
theorem dX7_dates_96 : decode cX7_dates 96 = .ok (.iinc 3 1, 3) := by decide +kernel
theorem dX7_dates_99 : decode cX7_dates 99 = .ok (.goto (-64), 3) := by decide +kernel
theorem dX7_dates_102 : decode cX7_dates 102 = .ok (.iload_n 2, 1) := by decide +kernel
theorem dX7_dates_103 : decode cX7_dates 103 = .ok (.ireturn, 1) := by decide +kernel
theorem dX7_show_0 : decode cX7_show 0 = .ok (.iload_n 1, 1) := by decide +kernel
theorem dX7_show_1 : decode cX7_show 1 = .ok (.invokestatic 287, 3) := by decide +kernel
theorem dX7_show_4 : decode cX7_show 4 = .ok (.ifCond .ne 10, 3) := by decide +kernel
theorem dX7_show_7 : decode cX7_show 7 = .ok (.aload_n 0, 1) := by decide +kernel
theorem dX7_show_8 : decode cX7_show 8 = .ok (.ldc 63, 2) := by decide +kernel
theorem dX7_show_10 : decode cX7_show 10 = .ok (.invokevirtual 94, 3) := by decide +kernel
theorem dX7_show_13 : decode cX7_show 13 = .ok (.ireturn, 1) := by decide +kernel
theorem dX7_show_14 : decode cX7_show 14 = .ok (.aload_n 0, 1) := by decide +kernel
theorem dX7_show_15 : decode cX7_show 15 = .ok (.getfield 39, 3) := by decide +kernel
theorem dX7_show_18 : decode cX7_show 18 = .ok (.iload_n 1, 1) := by decide +kernel
theorem dX7_show_19 : decode cX7_show 19 = .ok (.iaload, 1) := by decide +kernel
theorem dX7_show_20 : decode cX7_show 20 = .ok (.ifCond .ne 11, 3) := by decide +kernel
theorem dX7_show_23 : decode cX7_show 23 = .ok (.aload_n 0, 1) := by decide +kernel
theorem dX7_show_24 : decode cX7_show 24 = .ok (.ldc_w 290, 3) := by decide +kernel
theorem dX7_show_27 : decode cX7_show 27 = .ok (.invokevirtual 94, 3) := by decide +kernel
theorem dX7_show_30 : decode cX7_show 30 = .ok (.ireturn, 1) := by decide +kernel
theorem dX7_show_31 : decode cX7_show 31 = .ok (.iconst 0, 1) := by decide +kernel
theorem dX7_show_32 : decode cX7_show 32 = .ok (.istore_n 2, 1) := by decide +kernel
theorem dX7_show_33 : decode cX7_show 33 = .ok (.iload_n 2, 1) := by decide +kernel
theorem dX7_show_34 : decode cX7_show 34 = .ok (.aload_n 0, 1) := by decide +kernel
theorem dX7_show_35 : decode cX7_show 35 = .ok (.getfield 7, 3) := by decide +kernel
theorem dX7_show_38 : decode cX7_show 38 = .ok (.iconst 0, 1) := by decide +kernel
theorem dX7_show_39 : decode cX7_show 39 = .ok (.iaload, 1) := by decide +kernel
theorem dX7_show_40 : decode cX7_show 40 = .ok (.if_icmp .ge 44, 3) := by decide +kernel
theorem dX7_show_43 : decode cX7_show 43 = .ok (.iload_n 2, 1) := by decide +kernel
theorem dX7_show_44 : decode cX7_show 44 = .ok (.aload_n 0, 1) := by decide +kernel
theorem dX7_show_45 : decode cX7_show 45 = .ok (.getfield 42, 3) := by decide +kernel
theorem dX7_show_48 : decode cX7_show 48 = .ok (.iload_n 1, 1) := by decide +kernel
theorem dX7_show_49 : decode cX7_show 49 = .ok (.iaload, 1) := by decide +kernel
theorem dX7_show_50 : decode cX7_show 50 = .ok (.if_icmp .ge 34, 3) := by decide +kernel
theorem dX7_show_53 : decode cX7_show 53 = .ok (.aload_n 0, 1) := by decide +kernel
theorem dX7_show_54 : decode cX7_show 54 = .ok (.getfield 45, 3) := by decide +kernel
theorem dX7_show_57 : decode cX7_show 57 = .ok (.bipush 40, 2) := by decide +kernel
theorem dX7_show_59 : decode cX7_show 59 = .ok (.iload_n 1, 1) := by decide +kernel
theorem dX7_show_60 : decode cX7_show 60 = .ok (.imul, 1) := by decide +kernel
theorem dX7_show_61 : decode cX7_show 61 = .ok (.iload_n 2, 1) := by decide +kernel
theorem dX7_show_62 : decode cX7_show 62 = .ok (.iadd, 1) := by decide +kernel
theorem dX7_show_63 : decode cX7_show 63 = .ok (.aload_n 0, 1) := by decide +kernel
theorem dX7_show_64 : decode cX7_show 64 = .ok (.getfield 39, 3) := by decide +kernel
theorem dX7_show_67 : decode cX7_show 67 = .ok (.iload_n 1, 1) := by decide +kernel
theorem dX7_show_68 : decode cX7_show 68 = .ok (.iaload, 1) := by decide +kernel
theorem dX7_show_69 : decode cX7_show 69 = .ok (.aload_n 0, 1) := by decide +kernel
theorem dX7_show_70 : decode cX7_show 70 = .ok (.iload_n 2, 1) := by decide +kernel
theorem dX7_show_71 : decode cX7_show 71 = .ok (.invokevirtual 109, 3) := by decide +kernel
theorem dX7_show_74 : decode cX7_show 74 = .ok (.invokestatic 291, 3) := by decide +kernel
theorem dX7_show_77 : decode cX7_show 77 = .ok (.lastore, 1) := by decide +kernel
theorem dX7_show_78 : decode cX7_show 78 = .ok (.iinc 2 1, 3) := by decide +kernel
theorem dX7_show_81 : decode cX7_show 81 = .ok (.goto (-48), 3) := by decide +kernel
theorem dX7_show_84 : decode cX7_show 84 = .ok (.iload_n 2, 1) := by decide +kernel
theorem dX7_show_85 : decode cX7_show 85 = .ok (.ireturn, 1) := by decide +kernel
theorem dX7_read_0 : decode cX7_read 0 = .ok (.iload_n 1, 1) := by decide +kernel
theorem dX7_read_1 : decode cX7_read 1 = .ok (.invokestatic 287, 3) := by decide +kernel
theorem dX7_read_4 : decode cX7_read 4 = .ok (.ifCond .ne 10, 3) := by decide +kernel
theorem dX7_read_7 : decode cX7_read 7 = .ok (.aload_n 0, 1) := by decide +kernel
theorem dX7_read_8 : decode cX7_read 8 = .ok (.ldc 63, 2) := by decide +kernel
theorem dX7_read_10 : decode cX7_read 10 = .ok (.invokevirtual 94, 3) := by decide +kernel
theorem dX7_read_13 : decode cX7_read 13 = .ok (.ireturn, 1) := by decide +kernel
theorem dX7_read_14 : decode cX7_read 14 = .ok (.aload_n 0, 1) := by decide +kernel
theorem dX7_read_15 : decode cX7_read 15 = .ok (.getfield 39, 3) := by decide +kernel
theorem dX7_read_18 : decode cX7_read 18 = .ok (.iload_n 1, 1) := by decide +kernel
theorem dX7_read_19 : decode cX7_read 19 = .ok (.iaload, 1) := by decide +kernel
theorem dX7_read_20 : decode cX7_read 20 = .ok (.ifCond .ne 11, 3) := by decide +kernel
theorem dX7_read_23 : decode cX7_read 23 = .ok (.aload_n 0, 1) := by decide +kernel
theorem dX7_read_24 : decode cX7_read 24 = .ok (.ldc_w 290, 3) := by decide +kernel
theorem dX7_read_27 : decode cX7_read 27 = .ok (.invokevirtual 94, 3) := by decide +kernel
theorem dX7_read_30 : decode cX7_read 30 = .ok (.ireturn, 1) := by decide +kernel
theorem dX7_read_31 : decode cX7_read 31 = .ok (.aload_n 0, 1) := by decide +kernel
theorem dX7_read_32 : decode cX7_read 32 = .ok (.invokevirtual 147, 3) := by decide +kernel
theorem dX7_read_35 : decode cX7_read 35 = .ok (.iconst 0, 1) := by decide +kernel
theorem dX7_read_36 : decode cX7_read 36 = .ok (.istore_n 2, 1) := by decide +kernel
theorem dX7_read_37 : decode cX7_read 37 = .ok (.iconst 0, 1) := by decide +kernel
theorem dX7_read_38 : decode cX7_read 38 = .ok (.istore_n 3, 1) := by decide +kernel
theorem dX7_read_39 : decode cX7_read 39 = .ok (.iconst 0, 1) := by decide +kernel
theorem dX7_read_40 : decode cX7_read 40 = .ok (.istore 4, 2) := by decide +kernel
theorem dX7_read_42 : decode cX7_read 42 = .ok (.iload 4, 2) := by decide +kernel
theorem dX7_read_44 : decode cX7_read 44 = .ok (.aload_n 0, 1) := by decide +kernel
theorem dX7_read_45 : decode cX7_read 45 = .ok (.getfield 42, 3) := by decide +kernel
theorem dX7_read_48 : decode cX7_read 48 = .ok (.iload_n 1, 1) := by decide +kernel
theorem dX7_read_49 : decode cX7_read 49 = .ok (.iaload, 1) := by decide +kernel
theorem dX7_read_50 : decode cX7_read 50 = .ok (.if_icmp .ge 167, 3) := by decide +kernel
theorem dX7_read_53 : decode cX7_read 53 = .ok (.iload_n 3, 1) := by decide +kernel
theorem dX7_read_54 : decode cX7_read 54 = .ok (.ifCond .ne 163, 3) := by decide +kernel
theorem dX7_read_57 : decode cX7_read 57 = .ok (.aload_n 0, 1) := by decide +kernel
theorem dX7_read_58 : decode cX7_read 58 = .ok (.getfield 45, 3) := by decide +kernel
theorem dX7_read_61 : decode cX7_read 61 = .ok (.bipush 40, 2) := by decide +kernel
theorem dX7_read_63 : decode cX7_read 63 = .ok (.iload_n 1, 1) := by decide +kernel
theorem dX7_read_64 : decode cX7_read 64 = .ok (.imul, 1) := by decide +kernel
theorem dX7_read_65 : decode cX7_read 65 = .ok (.iload 4, 2) := by decide +kernel
theorem dX7_read_67 : decode cX7_read 67 = .ok (.iadd, 1) := by decide +kernel
theorem dX7_read_68 : decode cX7_read 68 = .ok (.laload, 1) := by decide +kernel
theorem dX7_read_69 : decode cX7_read 69 = .ok (.lstore 5, 2) := by decide +kernel
theorem dX7_read_71 : decode cX7_read 71 = .ok (.lload 5, 2) := by decide +kernel
theorem dX7_read_73 : decode cX7_read 73 = .ok (.lconst 0, 1) := by decide +kernel
theorem dX7_read_74 : decode cX7_read 74 = .ok (.lcmp, 1) := by decide +kernel
theorem dX7_read_75 : decode cX7_read 75 = .ok (.ifCond .lt 20, 3) := by decide +kernel
theorem dX7_read_78 : decode cX7_read 78 = .ok (.lload 5, 2) := by decide +kernel
theorem dX7_read_80 : decode cX7_read 80 = .ok (.aload_n 0, 1) := by decide +kernel
theorem dX7_read_81 : decode cX7_read 81 = .ok (.getfield 7, 3) := by decide +kernel
theorem dX7_read_84 : decode cX7_read 84 = .ok (.iconst 0, 1) := by decide +kernel
theorem dX7_read_85 : decode cX7_read 85 = .ok (.iaload, 1) := by decide +kernel
theorem dX7_read_86 : decode cX7_read 86 = .ok (.i2l, 1) := by decide +kernel
theorem dX7_read_87 : decode cX7_read 87 = .ok (.lcmp, 1) := by decide +kernel
theorem dX7_read_88 : decode cX7_read 88 = .ok (.ifCond .ge 7, 3) := by decide +kernel
theorem dX7_read_91 : decode cX7_read 91 = .ok (.iconst 1, 1) := by decide +kernel
theorem dX7_read_92 : decode cX7_read 92 = .ok (.goto 4, 3) := by decide +kernel
theorem dX7_read_95 : decode cX7_read 95 = .ok (.iconst 0, 1) := by decide +kernel
theorem dX7_read_96 : decode cX7_read 96 = .ok (.istore 7, 2) := by decide +kernel
theorem dX7_read_98 : decode cX7_read 98 = .ok (.iload 7, 2) := by decide +kernel
theorem dX7_read_100 : decode cX7_read 100 = .ok (.ifCond .eq 9, 3) := by decide +kernel
theorem dX7_read_103 : decode cX7_read 103 = .ok (.lload 5, 2) := by decide +kernel
theorem dX7_read_105 : decode cX7_read 105 = .ok (.l2i, 1) := by decide +kernel
theorem dX7_read_106 : decode cX7_read 106 = .ok (.goto 4, 3) := by decide +kernel
theorem dX7_read_109 : decode cX7_read 109 = .ok (.iconst 0, 1) := by decide +kernel
theorem dX7_read_110 : decode cX7_read 110 = .ok (.istore 8, 2) := by decide +kernel
theorem dX7_read_112 : decode cX7_read 112 = .ok (.iload 7, 2) := by decide +kernel
theorem dX7_read_114 : decode cX7_read 114 = .ok (.ifCond .eq 16, 3) := by decide +kernel
theorem dX7_read_117 : decode cX7_read 117 = .ok (.iload_n 2, 1) := by decide +kernel
theorem dX7_read_118 : decode cX7_read 118 = .ok (.iload 8, 2) := by decide +kernel
theorem dX7_read_120 : decode cX7_read 120 = .ok (.invokestatic 141, 3) := by decide +kernel
theorem dX7_read_123 : decode cX7_read 123 = .ok (.ifCond .ne 7, 3) := by decide +kernel
theorem dX7_read_126 : decode cX7_read 126 = .ok (.iconst 1, 1) := by decide +kernel
theorem dX7_read_127 : decode cX7_read 127 = .ok (.goto 4, 3) := by decide +kernel
theorem dX7_read_130 : decode cX7_read 130 = .ok (.iconst 0, 1) := by decide +kernel
theorem dX7_read_131 : decode cX7_read 131 = .ok (.istore 7, 2) := by decide +kernel
theorem dX7_read_133 : decode cX7_read 133 = .ok (.iconst 0, 1) := by decide +kernel
theorem dX7_read_134 : decode cX7_read 134 = .ok (.istore 9, 2) := by decide +kernel
theorem dX7_read_136 : decode cX7_read 136 = .ok (.iload 9, 2) := by decide +kernel
theorem dX7_read_138 : decode cX7_read 138 = .ok (.aload_n 0, 1) := by decide +kernel
theorem dX7_read_139 : decode cX7_read 139 = .ok (.getfield 7, 3) := by decide +kernel
theorem dX7_read_142 : decode cX7_read 142 = .ok (.iconst 0, 1) := by decide +kernel
theorem dX7_read_143 : decode cX7_read 143 = .ok (.iaload, 1) := by decide +kernel
theorem dX7_read_144 : decode cX7_read 144 = .ok (.if_icmp .ge 46, 3) := by decide +kernel
theorem dX7_read_147 : decode cX7_read 147 = .ok (.iload 7, 2) := by decide +kernel
theorem dX7_read_149 : decode cX7_read 149 = .ok (.ifCond .eq 32, 3) := by decide +kernel
theorem dX7_read_152 : decode cX7_read 152 = .ok (.iload_n 2, 1) := by decide +kernel
theorem dX7_read_153 : decode cX7_read 153 = .ok (.iload 9, 2) := by decide +kernel
theorem dX7_read_155 : decode cX7_read 155 = .ok (.invokestatic 141, 3) := by decide +kernel
theorem dX7_read_158 : decode cX7_read 158 = .ok (.ifCond .eq 19, 3) := by decide +kernel
theorem dX7_read_161 : decode cX7_read 161 = .ok (.aload_n 0, 1) := by decide +kernel
theorem dX7_read_162 : decode cX7_read 162 = .ok (.getfield 20, 3) := by decide +kernel
theorem dX7_read_165 : decode cX7_read 165 = .ok (.bipush 12, 2) := by decide +kernel
theorem dX7_read_167 : decode cX7_read 167 = .ok (.iload 9, 2) := by decide +kernel
theorem dX7_read_169 : decode cX7_read 169 = .ok (.imul, 1) := by decide +kernel
theorem dX7_read_170 : decode cX7_read 170 = .ok (.iload 8, 2) := by decide +kernel
theorem dX7_read_172 : decode cX7_read 172 = .ok (.iadd, 1) := by decide +kernel
theorem dX7_read_173 : decode cX7_read 173 = .ok (.baload, 1) := by decide +kernel
theorem dX7_read_174 : decode cX7_read 174 = .ok (.ifCond .eq 7, 3) := by decide +kernel
theorem dX7_read_177 : decode cX7_read 177 = .ok (.iconst 1, 1) := by decide +kernel
theorem dX7_read_178 : decode cX7_read 178 = .ok (.goto 4, 3) := by decide +kernel
theorem dX7_read_181 : decode cX7_read 181 = .ok (.iconst 0, 1) := by decide +kernel
theorem dX7_read_182 : decode cX7_read 182 = .ok (.istore 7, 2) := by decide +kernel
theorem dX7_read_184 : decode cX7_read 184 = .ok (.iinc 9 1, 3) := by decide +kernel
theorem dX7_read_187 : decode cX7_read 187 = .ok (.goto (-51), 3) := by decide +kernel
theorem dX7_read_190 : decode cX7_read 190 = .ok (.iload 7, 2) := by decide +kernel
theorem dX7_read_192 : decode cX7_read 192 = .ok (.ifCond .eq 7, 3) := by decide +kernel
theorem dX7_read_195 : decode cX7_read 195 = .ok (.iconst 0, 1) := by decide +kernel
theorem dX7_read_196 : decode cX7_read 196 = .ok (.goto 7, 3) := by decide +kernel
theorem dX7_read_199 : decode cX7_read 199 = .ok (.iload 4, 2) := by decide +kernel
theorem dX7_read_201 : decode cX7_read 201 = .ok (.iconst 1, 1) := by decide +kernel
theorem dX7_read_202 : decode cX7_read 202 = .ok (.iadd, 1) := by decide +kernel
theorem dX7_read_203 : decode cX7_read 203 = .ok (.istore_n 3, 1) := by decide +kernel
theorem dX7_read_204 : decode cX7_read 204 = .ok (.iload_n 2, 1) := by decide +kernel
theorem dX7_read_205 : decode cX7_read 205 = .ok (.iconst 1, 1) := by decide +kernel
theorem dX7_read_206 : decode cX7_read 206 = .ok (.iload 8, 2) := by decide +kernel
theorem dX7_read_208 : decode cX7_read 208 = .ok (.ishl, 1) := by decide +kernel
theorem dX7_read_209 : decode cX7_read 209 = .ok (.ior, 1) := by decide +kernel
theorem dX7_read_210 : decode cX7_read 210 = .ok (.istore_n 2, 1) := by decide +kernel
theorem dX7_read_211 : decode cX7_read 211 = .ok (.iinc 4 1, 3) := by decide +kernel
theorem dX7_read_214 : decode cX7_read 214 = .ok (.goto (-172), 3) := by decide +kernel
theorem dX7_read_217 : decode cX7_read 217 = .ok (.iload_n 3, 1) := by decide +kernel
theorem dX7_read_218 : decode cX7_read 218 = .ok (.ireturn, 1) := by decide +kernel
theorem dX7_moveAll_0 : decode cX7_moveAll 0 = .ok (.iconst 0, 1) := by decide +kernel
theorem dX7_moveAll_1 : decode cX7_moveAll 1 = .ok (.istore 4, 2) := by decide +kernel
theorem dX7_moveAll_3 : decode cX7_moveAll 3 = .ok (.iload 4, 2) := by decide +kernel
theorem dX7_moveAll_5 : decode cX7_moveAll 5 = .ok (.bipush 50, 2) := by decide +kernel
theorem dX7_moveAll_7 : decode cX7_moveAll 7 = .ok (.if_icmp .ge 38, 3) := by decide +kernel
theorem dX7_moveAll_10 : decode cX7_moveAll 10 = .ok (.iload_n 1, 1) := by decide +kernel
theorem dX7_moveAll_11 : decode cX7_moveAll 11 = .ok (.ifCond .eq 17, 3) := by decide +kernel
theorem dX7_moveAll_14 : decode cX7_moveAll 14 = .ok (.aload_n 2, 1) := by decide +kernel
theorem dX7_moveAll_15 : decode cX7_moveAll 15 = .ok (.iload 4, 2) := by decide +kernel
theorem dX7_moveAll_17 : decode cX7_moveAll 17 = .ok (.aload_n 0, 1) := by decide +kernel
theorem dX7_moveAll_18 : decode cX7_moveAll 18 = .ok (.getfield 7, 3) := by decide +kernel
theorem dX7_moveAll_21 : decode cX7_moveAll 21 = .ok (.iload 4, 2) := by decide +kernel
theorem dX7_moveAll_23 : decode cX7_moveAll 23 = .ok (.iaload, 1) := by decide +kernel
theorem dX7_moveAll_24 : decode cX7_moveAll 24 = .ok (.iastore, 1) := by decide +kernel
theorem dX7_moveAll_25 : decode cX7_moveAll 25 = .ok (.goto 14, 3) := by decide +kernel
theorem dX7_moveAll_28 : decode cX7_moveAll 28 = .ok (.aload_n 0, 1) := by decide +kernel
theorem dX7_moveAll_29 : decode cX7_moveAll 29 = .ok (.getfield 7, 3) := by decide +kernel
theorem dX7_moveAll_32 : decode cX7_moveAll 32 = .ok (.iload 4, 2) := by decide +kernel
theorem dX7_moveAll_34 : decode cX7_moveAll 34 = .ok (.aload_n 2, 1) := by decide +kernel
theorem dX7_moveAll_35 : decode cX7_moveAll 35 = .ok (.iload 4, 2) := by decide +kernel
theorem dX7_moveAll_37 : decode cX7_moveAll 37 = .ok (.iaload, 1) := by decide +kernel
theorem dX7_moveAll_38 : decode cX7_moveAll 38 = .ok (.iastore, 1) := by decide +kernel
theorem dX7_moveAll_39 : decode cX7_moveAll 39 = .ok (.iinc 4 1, 3) := by decide +kernel
theorem dX7_moveAll_42 : decode cX7_moveAll 42 = .ok (.goto (-39), 3) := by decide +kernel
theorem dX7_moveAll_45 : decode cX7_moveAll 45 = .ok (.iconst 0, 1) := by decide +kernel
theorem dX7_moveAll_46 : decode cX7_moveAll 46 = .ok (.istore 4, 2) := by decide +kernel
theorem dX7_moveAll_48 : decode cX7_moveAll 48 = .ok (.iload 4, 2) := by decide +kernel
theorem dX7_moveAll_50 : decode cX7_moveAll 50 = .ok (.bipush 12, 2) := by decide +kernel
theorem dX7_moveAll_52 : decode cX7_moveAll 52 = .ok (.if_icmp .ge 38, 3) := by decide +kernel
theorem dX7_moveAll_55 : decode cX7_moveAll 55 = .ok (.iload_n 1, 1) := by decide +kernel
theorem dX7_moveAll_56 : decode cX7_moveAll 56 = .ok (.ifCond .eq 17, 3) := by decide +kernel
theorem dX7_moveAll_59 : decode cX7_moveAll 59 = .ok (.aload_n 3, 1) := by decide +kernel
theorem dX7_moveAll_60 : decode cX7_moveAll 60 = .ok (.iload 4, 2) := by decide +kernel
theorem dX7_moveAll_62 : decode cX7_moveAll 62 = .ok (.aload_n 0, 1) := by decide +kernel
theorem dX7_moveAll_63 : decode cX7_moveAll 63 = .ok (.getfield 13, 3) := by decide +kernel
theorem dX7_moveAll_66 : decode cX7_moveAll 66 = .ok (.iload 4, 2) := by decide +kernel
theorem dX7_moveAll_68 : decode cX7_moveAll 68 = .ok (.laload, 1) := by decide +kernel
theorem dX7_moveAll_69 : decode cX7_moveAll 69 = .ok (.lastore, 1) := by decide +kernel
theorem dX7_moveAll_70 : decode cX7_moveAll 70 = .ok (.goto 14, 3) := by decide +kernel
theorem dX7_moveAll_73 : decode cX7_moveAll 73 = .ok (.aload_n 0, 1) := by decide +kernel
theorem dX7_moveAll_74 : decode cX7_moveAll 74 = .ok (.getfield 13, 3) := by decide +kernel
theorem dX7_moveAll_77 : decode cX7_moveAll 77 = .ok (.iload 4, 2) := by decide +kernel
theorem dX7_moveAll_79 : decode cX7_moveAll 79 = .ok (.aload_n 3, 1) := by decide +kernel
theorem dX7_moveAll_80 : decode cX7_moveAll 80 = .ok (.iload 4, 2) := by decide +kernel
theorem dX7_moveAll_82 : decode cX7_moveAll 82 = .ok (.laload, 1) := by decide +kernel
theorem dX7_moveAll_83 : decode cX7_moveAll 83 = .ok (.lastore, 1) := by decide +kernel
theorem dX7_moveAll_84 : decode cX7_moveAll 84 = .ok (.iinc 4 1, 3) := by decide +kernel
theorem dX7_moveAll_87 : decode cX7_moveAll 87 = .ok (.goto (-39), 3) := by decide +kernel
theorem dX7_moveAll_90 : decode cX7_moveAll 90 = .ok (.return_, 1) := by decide +kernel
theorem dX7_image_0 : decode cX7_image 0 = .ok (.aload_n 0, 1) := by decide +kernel
theorem dX7_image_1 : decode cX7_image 1 = .ok (.iconst 1, 1) := by decide +kernel
theorem dX7_image_2 : decode cX7_image 2 = .ok (.aload_n 0, 1) := by decide +kernel
theorem dX7_image_3 : decode cX7_image 3 = .ok (.getfield 51, 3) := by decide +kernel
theorem dX7_image_6 : decode cX7_image 6 = .ok (.aload_n 0, 1) := by decide +kernel
theorem dX7_image_7 : decode cX7_image 7 = .ok (.getfield 57, 3) := by decide +kernel
theorem dX7_image_10 : decode cX7_image 10 = .ok (.invokevirtual 280, 3) := by decide +kernel
theorem dX7_image_13 : decode cX7_image 13 = .ok (.aload_n 0, 1) := by decide +kernel
theorem dX7_image_14 : decode cX7_image 14 = .ok (.iconst 1, 1) := by decide +kernel
theorem dX7_image_15 : decode cX7_image 15 = .ok (.putfield 300, 3) := by decide +kernel
theorem dX7_image_18 : decode cX7_image 18 = .ok (.iconst 1, 1) := by decide +kernel
theorem dX7_image_19 : decode cX7_image 19 = .ok (.ireturn, 1) := by decide +kernel
theorem dX7_undo_0 : decode cX7_undo 0 = .ok (.aload_n 0, 1) := by decide +kernel
theorem dX7_undo_1 : decode cX7_undo 1 = .ok (.getfield 300, 3) := by decide +kernel
theorem dX7_undo_4 : decode cX7_undo 4 = .ok (.ifCond .ne 10, 3) := by decide +kernel
theorem dX7_undo_7 : decode cX7_undo 7 = .ok (.aload_n 0, 1) := by decide +kernel
theorem dX7_undo_8 : decode cX7_undo 8 = .ok (.ldc 136, 2) := by decide +kernel
theorem dX7_undo_10 : decode cX7_undo 10 = .ok (.invokevirtual 94, 3) := by decide +kernel
theorem dX7_undo_13 : decode cX7_undo 13 = .ok (.ireturn, 1) := by decide +kernel
theorem dX7_undo_14 : decode cX7_undo 14 = .ok (.aload_n 0, 1) := by decide +kernel
theorem dX7_undo_15 : decode cX7_undo 15 = .ok (.iconst 0, 1) := by decide +kernel
theorem dX7_undo_16 : decode cX7_undo 16 = .ok (.aload_n 0, 1) := by decide +kernel
theorem dX7_undo_17 : decode cX7_undo 17 = .ok (.getfield 51, 3) := by decide +kernel
theorem dX7_undo_20 : decode cX7_undo 20 = .ok (.aload_n 0, 1) := by decide +kernel
theorem dX7_undo_21 : decode cX7_undo 21 = .ok (.getfield 57, 3) := by decide +kernel
theorem dX7_undo_24 : decode cX7_undo 24 = .ok (.invokevirtual 280, 3) := by decide +kernel
theorem dX7_undo_27 : decode cX7_undo 27 = .ok (.aload_n 0, 1) := by decide +kernel
theorem dX7_undo_28 : decode cX7_undo 28 = .ok (.getfield 7, 3) := by decide +kernel
theorem dX7_undo_31 : decode cX7_undo 31 = .ok (.iconst 0, 1) := by decide +kernel
theorem dX7_undo_32 : decode cX7_undo 32 = .ok (.iaload, 1) := by decide +kernel
theorem dX7_undo_33 : decode cX7_undo 33 = .ok (.ireturn, 1) := by decide +kernel
theorem dX7_tear_0 : decode cX7_tear 0 = .ok (.aload_n 0, 1) := by decide +kernel
theorem dX7_tear_1 : decode cX7_tear 1 = .ok (.getfield 300, 3) := by decide +kernel
theorem dX7_tear_4 : decode cX7_tear 4 = .ok (.ifCond .eq 7, 3) := by decide +kernel
theorem dX7_tear_7 : decode cX7_tear 7 = .ok (.iconst 1, 1) := by decide +kernel
theorem dX7_tear_8 : decode cX7_tear 8 = .ok (.goto 4, 3) := by decide +kernel
theorem dX7_tear_11 : decode cX7_tear 11 = .ok (.iconst 0, 1) := by decide +kernel
theorem dX7_tear_12 : decode cX7_tear 12 = .ok (.istore_n 1, 1) := by decide +kernel
theorem dX7_tear_13 : decode cX7_tear 13 = .ok (.aload_n 0, 1) := by decide +kernel
theorem dX7_tear_14 : decode cX7_tear 14 = .ok (.iconst 0, 1) := by decide +kernel
theorem dX7_tear_15 : decode cX7_tear 15 = .ok (.putfield 300, 3) := by decide +kernel
theorem dX7_tear_18 : decode cX7_tear 18 = .ok (.iload_n 1, 1) := by decide +kernel
theorem dX7_tear_19 : decode cX7_tear 19 = .ok (.ireturn, 1) := by decide +kernel
theorem dX7_count_0 : decode cX7_count 0 = .ok (.iconst 0, 1) := by decide +kernel
theorem dX7_count_1 : decode cX7_count 1 = .ok (.istore_n 2, 1) := by decide +kernel
theorem dX7_count_2 : decode cX7_count 2 = .ok (.iload_n 1, 1) := by decide +kernel
theorem dX7_count_3 : decode cX7_count 3 = .ok (.tableswitch 113 0 4 #[33, 40, 69, 74, 81], 33) := by decide +kernel
theorem dX7_count_36 : decode cX7_count 36 = .ok (.aload_n 0, 1) := by decide +kernel
theorem dX7_count_37 : decode cX7_count 37 = .ok (.getfield 7, 3) := by decide +kernel
theorem dX7_count_40 : decode cX7_count 40 = .ok (.iconst 0, 1) := by decide +kernel
theorem dX7_count_41 : decode cX7_count 41 = .ok (.iaload, 1) := by decide +kernel
theorem dX7_count_42 : decode cX7_count 42 = .ok (.ireturn, 1) := by decide +kernel
theorem dX7_count_43 : decode cX7_count 43 = .ok (.iconst 0, 1) := by decide +kernel
theorem dX7_count_44 : decode cX7_count 44 = .ok (.istore_n 3, 1) := by decide +kernel
theorem dX7_count_45 : decode cX7_count 45 = .ok (.iload_n 3, 1) := by decide +kernel
theorem dX7_count_46 : decode cX7_count 46 = .ok (.aload_n 0, 1) := by decide +kernel
theorem dX7_count_47 : decode cX7_count 47 = .ok (.getfield 7, 3) := by decide +kernel
theorem dX7_count_50 : decode cX7_count 50 = .ok (.iconst 0, 1) := by decide +kernel
theorem dX7_count_51 : decode cX7_count 51 = .ok (.iaload, 1) := by decide +kernel
theorem dX7_count_52 : decode cX7_count 52 = .ok (.if_icmp .ge 18, 3) := by decide +kernel
theorem dX7_count_55 : decode cX7_count 55 = .ok (.iload_n 2, 1) := by decide +kernel
theorem dX7_count_56 : decode cX7_count 56 = .ok (.aload_n 0, 1) := by decide +kernel
theorem dX7_count_57 : decode cX7_count 57 = .ok (.iload_n 3, 1) := by decide +kernel
theorem dX7_count_58 : decode cX7_count 58 = .ok (.iconst 3, 1) := by decide +kernel
theorem dX7_count_59 : decode cX7_count 59 = .ok (.invokevirtual 68, 3) := by decide +kernel
theorem dX7_count_62 : decode cX7_count 62 = .ok (.iadd, 1) := by decide +kernel
theorem dX7_count_63 : decode cX7_count 63 = .ok (.istore_n 2, 1) := by decide +kernel
theorem dX7_count_64 : decode cX7_count 64 = .ok (.iinc 3 1, 3) := by decide +kernel
theorem dX7_count_67 : decode cX7_count 67 = .ok (.goto (-22), 3) := by decide +kernel
theorem dX7_count_70 : decode cX7_count 70 = .ok (.iload_n 2, 1) := by decide +kernel
theorem dX7_count_71 : decode cX7_count 71 = .ok (.ireturn, 1) := by decide +kernel
theorem dX7_count_72 : decode cX7_count 72 = .ok (.aload_n 0, 1) := by decide +kernel
theorem dX7_count_73 : decode cX7_count 73 = .ok (.getfield 194, 3) := by decide +kernel
theorem dX7_count_76 : decode cX7_count 76 = .ok (.ireturn, 1) := by decide +kernel
theorem dX7_count_77 : decode cX7_count 77 = .ok (.aload_n 0, 1) := by decide +kernel
theorem dX7_count_78 : decode cX7_count 78 = .ok (.getfield 7, 3) := by decide +kernel
theorem dX7_count_81 : decode cX7_count 81 = .ok (.iconst 1, 1) := by decide +kernel
theorem dX7_count_82 : decode cX7_count 82 = .ok (.iaload, 1) := by decide +kernel
theorem dX7_count_83 : decode cX7_count 83 = .ok (.ireturn, 1) := by decide +kernel
theorem dX7_count_84 : decode cX7_count 84 = .ok (.iconst 0, 1) := by decide +kernel
theorem dX7_count_85 : decode cX7_count 85 = .ok (.istore_n 3, 1) := by decide +kernel
theorem dX7_count_86 : decode cX7_count 86 = .ok (.iload_n 3, 1) := by decide +kernel
theorem dX7_count_87 : decode cX7_count 87 = .ok (.aload_n 0, 1) := by decide +kernel
theorem dX7_count_88 : decode cX7_count 88 = .ok (.getfield 7, 3) := by decide +kernel
theorem dX7_count_91 : decode cX7_count 91 = .ok (.iconst 0, 1) := by decide +kernel
theorem dX7_count_92 : decode cX7_count 92 = .ok (.iaload, 1) := by decide +kernel
theorem dX7_count_93 : decode cX7_count 93 = .ok (.if_icmp .ge 21, 3) := by decide +kernel
theorem dX7_count_96 : decode cX7_count 96 = .ok (.iload_n 2, 1) := by decide +kernel
theorem dX7_count_97 : decode cX7_count 97 = .ok (.aload_n 0, 1) := by decide +kernel
theorem dX7_count_98 : decode cX7_count 98 = .ok (.getfield 13, 3) := by decide +kernel
theorem dX7_count_101 : decode cX7_count 101 = .ok (.iload_n 3, 1) := by decide +kernel
theorem dX7_count_102 : decode cX7_count 102 = .ok (.laload, 1) := by decide +kernel
theorem dX7_count_103 : decode cX7_count 103 = .ok (.invokestatic 112, 3) := by decide +kernel
theorem dX7_count_106 : decode cX7_count 106 = .ok (.iadd, 1) := by decide +kernel
theorem dX7_count_107 : decode cX7_count 107 = .ok (.istore_n 2, 1) := by decide +kernel
theorem dX7_count_108 : decode cX7_count 108 = .ok (.iinc 3 1, 3) := by decide +kernel
theorem dX7_count_111 : decode cX7_count 111 = .ok (.goto (-25), 3) := by decide +kernel
theorem dX7_count_114 : decode cX7_count 114 = .ok (.iload_n 2, 1) := by decide +kernel
theorem dX7_count_115 : decode cX7_count 115 = .ok (.ireturn, 1) := by decide +kernel
theorem dX7_count_116 : decode cX7_count 116 = .ok (.aload_n 0, 1) := by decide +kernel
theorem dX7_count_117 : decode cX7_count 117 = .ok (.ldc 63, 2) := by decide +kernel
theorem dX7_count_119 : decode cX7_count 119 = .ok (.invokevirtual 94, 3) := by decide +kernel
theorem dX7_count_122 : decode cX7_count 122 = .ok (.ireturn, 1) := by decide +kernel
theorem dX7_status_0 : decode cX7_status 0 = .ok (.iload_n 1, 1) := by decide +kernel
theorem dX7_status_1 : decode cX7_status 1 = .ok (.iconst (-1), 1) := by decide +kernel
theorem dX7_status_2 : decode cX7_status 2 = .ok (.bipush 6, 2) := by decide +kernel
theorem dX7_status_4 : decode cX7_status 4 = .ok (.invokestatic 64, 3) := by decide +kernel
theorem dX7_status_7 : decode cX7_status 7 = .ok (.ifCond .ne 10, 3) := by decide +kernel
theorem dX7_status_10 : decode cX7_status 10 = .ok (.aload_n 0, 1) := by decide +kernel
theorem dX7_status_11 : decode cX7_status 11 = .ok (.ldc 63, 2) := by decide +kernel
theorem dX7_status_13 : decode cX7_status 13 = .ok (.invokevirtual 94, 3) := by decide +kernel
theorem dX7_status_16 : decode cX7_status 16 = .ok (.ireturn, 1) := by decide +kernel
theorem dX7_status_17 : decode cX7_status 17 = .ok (.iconst 0, 1) := by decide +kernel
theorem dX7_status_18 : decode cX7_status 18 = .ok (.istore_n 2, 1) := by decide +kernel
theorem dX7_status_19 : decode cX7_status 19 = .ok (.iconst 0, 1) := by decide +kernel
theorem dX7_status_20 : decode cX7_status 20 = .ok (.istore_n 3, 1) := by decide +kernel
theorem dX7_status_21 : decode cX7_status 21 = .ok (.iload_n 3, 1) := by decide +kernel
theorem dX7_status_22 : decode cX7_status 22 = .ok (.bipush 7, 2) := by decide +kernel
theorem dX7_status_24 : decode cX7_status 24 = .ok (.if_icmp .ge 18, 3) := by decide +kernel
theorem dX7_status_27 : decode cX7_status 27 = .ok (.iload_n 2, 1) := by decide +kernel
theorem dX7_status_28 : decode cX7_status 28 = .ok (.aload_n 0, 1) := by decide +kernel
theorem dX7_status_29 : decode cX7_status 29 = .ok (.getfield 17, 3) := by decide +kernel
theorem dX7_status_32 : decode cX7_status 32 = .ok (.iload_n 3, 1) := by decide +kernel
theorem dX7_status_33 : decode cX7_status 33 = .ok (.iaload, 1) := by decide +kernel
theorem dX7_status_34 : decode cX7_status 34 = .ok (.iadd, 1) := by decide +kernel
theorem dX7_status_35 : decode cX7_status 35 = .ok (.istore_n 2, 1) := by decide +kernel
theorem dX7_status_36 : decode cX7_status 36 = .ok (.iinc 3 1, 3) := by decide +kernel
theorem dX7_status_39 : decode cX7_status 39 = .ok (.goto (-18), 3) := by decide +kernel
theorem dX7_status_42 : decode cX7_status 42 = .ok (.iload_n 1, 1) := by decide +kernel
theorem dX7_status_43 : decode cX7_status 43 = .ok (.ifCond .ge 7, 3) := by decide +kernel
theorem dX7_status_46 : decode cX7_status 46 = .ok (.iload_n 2, 1) := by decide +kernel
theorem dX7_status_47 : decode cX7_status 47 = .ok (.goto 17, 3) := by decide +kernel
theorem dX7_status_50 : decode cX7_status 50 = .ok (.aload_n 0, 1) := by decide +kernel
theorem dX7_status_51 : decode cX7_status 51 = .ok (.getfield 17, 3) := by decide +kernel
theorem dX7_status_54 : decode cX7_status 54 = .ok (.iload_n 1, 1) := by decide +kernel
theorem dX7_status_55 : decode cX7_status 55 = .ok (.ifCond .ge 7, 3) := by decide +kernel
theorem dX7_status_58 : decode cX7_status 58 = .ok (.iconst 0, 1) := by decide +kernel
theorem dX7_status_59 : decode cX7_status 59 = .ok (.goto 4, 3) := by decide +kernel
theorem dX7_status_62 : decode cX7_status 62 = .ok (.iload_n 1, 1) := by decide +kernel
theorem dX7_status_63 : decode cX7_status 63 = .ok (.iaload, 1) := by decide +kernel
theorem dX7_status_64 : decode cX7_status 64 = .ok (.ireturn, 1) := by decide +kernel
