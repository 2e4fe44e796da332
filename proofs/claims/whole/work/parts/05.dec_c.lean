theorem dX4_init_0 : decode cX4_init 0 = .ok (.aload_n 0, 1) := by decide +kernel
theorem dX4_init_1 : decode cX4_init 1 = .ok (.invokespecial 3, 3) := by decide +kernel
theorem dX4_init_4 : decode cX4_init 4 = .ok (.aload_n 0, 1) := by decide +kernel
theorem dX4_init_5 : decode cX4_init 5 = .ok (.sipush 135, 3) := by decide +kernel
theorem dX4_init_8 : decode cX4_init 8 = .ok (.newarray .int, 2) := by decide +kernel
theorem dX4_init_10 : decode cX4_init 10 = .ok (.putfield 9, 3) := by decide +kernel
theorem dX4_init_13 : decode cX4_init 13 = .ok (.aload_n 0, 1) := by decide +kernel
theorem dX4_init_14 : decode cX4_init 14 = .ok (.sipush 135, 3) := by decide +kernel
theorem dX4_init_17 : decode cX4_init 17 = .ok (.newarray .int, 2) := by decide +kernel
theorem dX4_init_19 : decode cX4_init 19 = .ok (.putfield 13, 3) := by decide +kernel
theorem dX4_init_22 : decode cX4_init 22 = .ok (.aload_n 0, 1) := by decide +kernel
theorem dX4_init_23 : decode cX4_init 23 = .ok (.sipush 135, 3) := by decide +kernel
theorem dX4_init_26 : decode cX4_init 26 = .ok (.newarray .int, 2) := by decide +kernel
theorem dX4_init_28 : decode cX4_init 28 = .ok (.putfield 16, 3) := by decide +kernel
theorem dX4_init_31 : decode cX4_init 31 = .ok (.aload_n 0, 1) := by decide +kernel
theorem dX4_init_32 : decode cX4_init 32 = .ok (.bipush 7, 2) := by decide +kernel
theorem dX4_init_34 : decode cX4_init 34 = .ok (.newarray .int, 2) := by decide +kernel
theorem dX4_init_36 : decode cX4_init 36 = .ok (.putfield 19, 3) := by decide +kernel
theorem dX4_init_39 : decode cX4_init 39 = .ok (.aload_n 0, 1) := by decide +kernel
theorem dX4_init_40 : decode cX4_init 40 = .ok (.bipush 120, 2) := by decide +kernel
theorem dX4_init_42 : decode cX4_init 42 = .ok (.newarray .int, 2) := by decide +kernel
theorem dX4_init_44 : decode cX4_init 44 = .ok (.putfield 22, 3) := by decide +kernel
theorem dX4_init_47 : decode cX4_init 47 = .ok (.aload_n 0, 1) := by decide +kernel
theorem dX4_init_48 : decode cX4_init 48 = .ok (.iconst 4, 1) := by decide +kernel
theorem dX4_init_49 : decode cX4_init 49 = .ok (.newarray .int, 2) := by decide +kernel
theorem dX4_init_51 : decode cX4_init 51 = .ok (.putfield 25, 3) := by decide +kernel
theorem dX4_init_54 : decode cX4_init 54 = .ok (.aload_n 0, 1) := by decide +kernel
theorem dX4_init_55 : decode cX4_init 55 = .ok (.iconst 4, 1) := by decide +kernel
theorem dX4_init_56 : decode cX4_init 56 = .ok (.newarray .int, 2) := by decide +kernel
theorem dX4_init_58 : decode cX4_init 58 = .ok (.putfield 28, 3) := by decide +kernel
theorem dX4_init_61 : decode cX4_init 61 = .ok (.aload_n 0, 1) := by decide +kernel
theorem dX4_init_62 : decode cX4_init 62 = .ok (.sipush 160, 3) := by decide +kernel
theorem dX4_init_65 : decode cX4_init 65 = .ok (.newarray .int, 2) := by decide +kernel
theorem dX4_init_67 : decode cX4_init 67 = .ok (.putfield 31, 3) := by decide +kernel
theorem dX4_init_70 : decode cX4_init 70 = .ok (.aload_n 0, 1) := by decide +kernel
theorem dX4_init_71 : decode cX4_init 71 = .ok (.bipush 40, 2) := by decide +kernel
theorem dX4_init_73 : decode cX4_init 73 = .ok (.newarray .int, 2) := by decide +kernel
theorem dX4_init_75 : decode cX4_init 75 = .ok (.putfield 34, 3) := by decide +kernel
theorem dX4_init_78 : decode cX4_init 78 = .ok (.aload_n 0, 1) := by decide +kernel
theorem dX4_init_79 : decode cX4_init 79 = .ok (.getfield 9, 3) := by decide +kernel
theorem dX4_init_82 : decode cX4_init 82 = .ok (.iconst 1, 1) := by decide +kernel
theorem dX4_init_83 : decode cX4_init 83 = .ok (.iconst 1, 1) := by decide +kernel
theorem dX4_init_84 : decode cX4_init 84 = .ok (.iastore, 1) := by decide +kernel
theorem dX4_init_85 : decode cX4_init 85 = .ok (.aload_n 0, 1) := by decide +kernel
theorem dX4_init_86 : decode cX4_init 86 = .ok (.getfield 9, 3) := by decide +kernel
theorem dX4_init_89 : decode cX4_init 89 = .ok (.iconst 3, 1) := by decide +kernel
theorem dX4_init_90 : decode cX4_init 90 = .ok (.bipush 8, 2) := by decide +kernel
theorem dX4_init_92 : decode cX4_init 92 = .ok (.iastore, 1) := by decide +kernel
theorem dX4_init_93 : decode cX4_init 93 = .ok (.iconst 0, 1) := by decide +kernel
theorem dX4_init_94 : decode cX4_init 94 = .ok (.istore_n 1, 1) := by decide +kernel
theorem dX4_init_95 : decode cX4_init 95 = .ok (.iload_n 1, 1) := by decide +kernel
theorem dX4_init_96 : decode cX4_init 96 = .ok (.bipush 24, 2) := by decide +kernel
theorem dX4_init_98 : decode cX4_init 98 = .ok (.if_icmp .ge 18, 3) := by decide +kernel
theorem dX4_init_101 : decode cX4_init 101 = .ok (.aload_n 0, 1) := by decide +kernel
theorem dX4_init_102 : decode cX4_init 102 = .ok (.getfield 9, 3) := by decide +kernel
theorem dX4_init_105 : decode cX4_init 105 = .ok (.iconst 5, 1) := by decide +kernel
theorem dX4_init_106 : decode cX4_init 106 = .ok (.iload_n 1, 1) := by decide +kernel
theorem dX4_init_107 : decode cX4_init 107 = .ok (.iadd, 1) := by decide +kernel
theorem dX4_init_108 : decode cX4_init 108 = .ok (.iconst (-1), 1) := by decide +kernel
theorem dX4_init_109 : decode cX4_init 109 = .ok (.iastore, 1) := by decide +kernel
theorem dX4_init_110 : decode cX4_init 110 = .ok (.iinc 1 1, 3) := by decide +kernel
theorem dX4_init_113 : decode cX4_init 113 = .ok (.goto (-18), 3) := by decide +kernel
theorem dX4_init_116 : decode cX4_init 116 = .ok (.iconst 0, 1) := by decide +kernel
theorem dX4_init_117 : decode cX4_init 117 = .ok (.istore_n 1, 1) := by decide +kernel
theorem dX4_init_118 : decode cX4_init 118 = .ok (.iload_n 1, 1) := by decide +kernel
theorem dX4_init_119 : decode cX4_init 119 = .ok (.bipush 10, 2) := by decide +kernel
theorem dX4_init_121 : decode cX4_init 121 = .ok (.if_icmp .ge 19, 3) := by decide +kernel
theorem dX4_init_124 : decode cX4_init 124 = .ok (.aload_n 0, 1) := by decide +kernel
theorem dX4_init_125 : decode cX4_init 125 = .ok (.getfield 9, 3) := by decide +kernel
theorem dX4_init_128 : decode cX4_init 128 = .ok (.bipush 125, 2) := by decide +kernel
theorem dX4_init_130 : decode cX4_init 130 = .ok (.iload_n 1, 1) := by decide +kernel
theorem dX4_init_131 : decode cX4_init 131 = .ok (.iadd, 1) := by decide +kernel
theorem dX4_init_132 : decode cX4_init 132 = .ok (.iconst (-1), 1) := by decide +kernel
theorem dX4_init_133 : decode cX4_init 133 = .ok (.iastore, 1) := by decide +kernel
theorem dX4_init_134 : decode cX4_init 134 = .ok (.iinc 1 1, 3) := by decide +kernel
theorem dX4_init_137 : decode cX4_init 137 = .ok (.goto (-19), 3) := by decide +kernel
theorem dX4_init_140 : decode cX4_init 140 = .ok (.return_, 1) := by decide +kernel
theorem dX4_finds_0 : decode cX4_finds 0 = .ok (.aload_n 0, 1) := by decide +kernel
theorem dX4_finds_1 : decode cX4_finds 1 = .ok (.getfield 19, 3) := by decide +kernel
theorem dX4_finds_4 : decode cX4_finds 4 = .ok (.iload_n 1, 1) := by decide +kernel
theorem dX4_finds_5 : decode cX4_finds 5 = .ok (.dup2, 1) := by decide +kernel
theorem dX4_finds_6 : decode cX4_finds 6 = .ok (.iaload, 1) := by decide +kernel
theorem dX4_finds_7 : decode cX4_finds 7 = .ok (.iconst 1, 1) := by decide +kernel
theorem dX4_finds_8 : decode cX4_finds 8 = .ok (.iadd, 1) := by decide +kernel
theorem dX4_finds_9 : decode cX4_finds 9 = .ok (.iastore, 1) := by decide +kernel
theorem dX4_finds_10 : decode cX4_finds 10 = .ok (.ldc 37, 2) := by decide +kernel
theorem dX4_finds_12 : decode cX4_finds 12 = .ok (.iload_n 1, 1) := by decide +kernel
theorem dX4_finds_13 : decode cX4_finds 13 = .ok (.isub, 1) := by decide +kernel
theorem dX4_finds_14 : decode cX4_finds 14 = .ok (.ireturn, 1) := by decide +kernel
theorem dX4_in_0 : decode cX4_in 0 = .ok (.lload_n 0, 1) := by decide +kernel
theorem dX4_in_1 : decode cX4_in 1 = .ok (.lload_n 2, 1) := by decide +kernel
theorem dX4_in_2 : decode cX4_in 2 = .ok (.lcmp, 1) := by decide +kernel
theorem dX4_in_3 : decode cX4_in 3 = .ok (.ifCond .lt 14, 3) := by decide +kernel
theorem dX4_in_6 : decode cX4_in 6 = .ok (.lload_n 0, 1) := by decide +kernel
theorem dX4_in_7 : decode cX4_in 7 = .ok (.lload 4, 2) := by decide +kernel
theorem dX4_in_9 : decode cX4_in 9 = .ok (.lcmp, 1) := by decide +kernel
theorem dX4_in_10 : decode cX4_in 10 = .ok (.ifCond .gt 7, 3) := by decide +kernel
theorem dX4_in_13 : decode cX4_in 13 = .ok (.iconst 1, 1) := by decide +kernel
theorem dX4_in_14 : decode cX4_in 14 = .ok (.goto 4, 3) := by decide +kernel
theorem dX4_in_17 : decode cX4_in 17 = .ok (.iconst 0, 1) := by decide +kernel
theorem dX4_in_18 : decode cX4_in 18 = .ok (.ireturn, 1) := by decide +kernel
theorem dX4_become_0 : decode cX4_become 0 = .ok (.iconst 0, 1) := by decide +kernel
theorem dX4_become_1 : decode cX4_become 1 = .ok (.istore_n 2, 1) := by decide +kernel
theorem dX4_become_2 : decode cX4_become 2 = .ok (.iload_n 2, 1) := by decide +kernel
theorem dX4_become_3 : decode cX4_become 3 = .ok (.sipush 135, 3) := by decide +kernel
theorem dX4_become_6 : decode cX4_become 6 = .ok (.if_icmp .ge 15, 3) := by decide +kernel
theorem dX4_become_9 : decode cX4_become 9 = .ok (.aload_n 1, 1) := by decide +kernel
theorem dX4_become_10 : decode cX4_become 10 = .ok (.iload_n 2, 1) := by decide +kernel
theorem dX4_become_11 : decode cX4_become 11 = .ok (.aload_n 0, 1) := by decide +kernel
theorem dX4_become_12 : decode cX4_become 12 = .ok (.iload_n 2, 1) := by decide +kernel
theorem dX4_become_13 : decode cX4_become 13 = .ok (.iaload, 1) := by decide +kernel
theorem dX4_become_14 : decode cX4_become 14 = .ok (.iastore, 1) := by decide +kernel
theorem dX4_become_15 : decode cX4_become 15 = .ok (.iinc 2 1, 3) := by decide +kernel
theorem dX4_become_18 : decode cX4_become 18 = .ok (.goto (-16), 3) := by decide +kernel
theorem dX4_become_21 : decode cX4_become 21 = .ok (.return_, 1) := by decide +kernel
theorem dX4_lends_0 : decode cX4_lends 0 = .ok (.aload_n 0, 1) := by decide +kernel
theorem dX4_lends_1 : decode cX4_lends 1 = .ok (.getfield 9, 3) := by decide +kernel
theorem dX4_lends_4 : decode cX4_lends 4 = .ok (.aload_n 0, 1) := by decide +kernel
theorem dX4_lends_5 : decode cX4_lends 5 = .ok (.getfield 16, 3) := by decide +kernel
theorem dX4_lends_8 : decode cX4_lends 8 = .ok (.invokestatic 38, 3) := by decide +kernel
theorem dX4_lends_11 : decode cX4_lends 11 = .ok (.return_, 1) := by decide +kernel
theorem dX4_laysBack_0 : decode cX4_laysBack 0 = .ok (.aload_n 0, 1) := by decide +kernel
theorem dX4_laysBack_1 : decode cX4_laysBack 1 = .ok (.getfield 16, 3) := by decide +kernel
theorem dX4_laysBack_4 : decode cX4_laysBack 4 = .ok (.aload_n 0, 1) := by decide +kernel
theorem dX4_laysBack_5 : decode cX4_laysBack 5 = .ok (.getfield 9, 3) := by decide +kernel
theorem dX4_laysBack_8 : decode cX4_laysBack 8 = .ok (.invokestatic 38, 3) := by decide +kernel
theorem dX4_laysBack_11 : decode cX4_laysBack 11 = .ok (.return_, 1) := by decide +kernel
theorem dX4_isWalker_0 : decode cX4_isWalker 0 = .ok (.iload_n 1, 1) := by decide +kernel
theorem dX4_isWalker_1 : decode cX4_isWalker 1 = .ok (.i2l, 1) := by decide +kernel
theorem dX4_isWalker_2 : decode cX4_isWalker 2 = .ok (.lconst 0, 1) := by decide +kernel
theorem dX4_isWalker_3 : decode cX4_isWalker 3 = .ok (.aload_n 0, 1) := by decide +kernel
theorem dX4_isWalker_4 : decode cX4_isWalker 4 = .ok (.getfield 9, 3) := by decide +kernel
theorem dX4_isWalker_7 : decode cX4_isWalker 7 = .ok (.iconst 2, 1) := by decide +kernel
theorem dX4_isWalker_8 : decode cX4_isWalker 8 = .ok (.iaload, 1) := by decide +kernel
theorem dX4_isWalker_9 : decode cX4_isWalker 9 = .ok (.iconst 1, 1) := by decide +kernel
theorem dX4_isWalker_10 : decode cX4_isWalker 10 = .ok (.isub, 1) := by decide +kernel
theorem dX4_isWalker_11 : decode cX4_isWalker 11 = .ok (.i2l, 1) := by decide +kernel
theorem dX4_isWalker_12 : decode cX4_isWalker 12 = .ok (.invokestatic 42, 3) := by decide +kernel
theorem dX4_isWalker_15 : decode cX4_isWalker 15 = .ok (.ireturn, 1) := by decide +kernel
theorem dX4_isCell_0 : decode cX4_isCell 0 = .ok (.iload_n 0, 1) := by decide +kernel
theorem dX4_isCell_1 : decode cX4_isCell 1 = .ok (.i2l, 1) := by decide +kernel
theorem dX4_isCell_2 : decode cX4_isCell 2 = .ok (.lconst 0, 1) := by decide +kernel
theorem dX4_isCell_3 : decode cX4_isCell 3 = .ok (.ldc2_w 46, 3) := by decide +kernel
theorem dX4_isCell_6 : decode cX4_isCell 6 = .ok (.invokestatic 42, 3) := by decide +kernel
theorem dX4_isCell_9 : decode cX4_isCell 9 = .ok (.ireturn, 1) := by decide +kernel
theorem dX4_its_0 : decode cX4_its 0 = .ok (.aload_n 0, 1) := by decide +kernel
theorem dX4_its_1 : decode cX4_its 1 = .ok (.getfield 9, 3) := by decide +kernel
theorem dX4_its_4 : decode cX4_its 4 = .ok (.bipush 77, 2) := by decide +kernel
theorem dX4_its_6 : decode cX4_its 6 = .ok (.bipush 6, 2) := by decide +kernel
theorem dX4_its_8 : decode cX4_its 8 = .ok (.iload_n 1, 1) := by decide +kernel
theorem dX4_its_9 : decode cX4_its 9 = .ok (.imul, 1) := by decide +kernel
theorem dX4_its_10 : decode cX4_its 10 = .ok (.iadd, 1) := by decide +kernel
theorem dX4_its_11 : decode cX4_its 11 = .ok (.iload_n 2, 1) := by decide +kernel
theorem dX4_its_12 : decode cX4_its 12 = .ok (.iadd, 1) := by decide +kernel
theorem dX4_its_13 : decode cX4_its 13 = .ok (.iaload, 1) := by decide +kernel
theorem dX4_its_14 : decode cX4_its 14 = .ok (.ireturn, 1) := by decide +kernel
theorem dX4_sets_0 : decode cX4_sets 0 = .ok (.aload_n 0, 1) := by decide +kernel
theorem dX4_sets_1 : decode cX4_sets 1 = .ok (.getfield 9, 3) := by decide +kernel
theorem dX4_sets_4 : decode cX4_sets 4 = .ok (.bipush 77, 2) := by decide +kernel
theorem dX4_sets_6 : decode cX4_sets 6 = .ok (.bipush 6, 2) := by decide +kernel
theorem dX4_sets_8 : decode cX4_sets 8 = .ok (.iload_n 1, 1) := by decide +kernel
theorem dX4_sets_9 : decode cX4_sets 9 = .ok (.imul, 1) := by decide +kernel
theorem dX4_sets_10 : decode cX4_sets 10 = .ok (.iadd, 1) := by decide +kernel
theorem dX4_sets_11 : decode cX4_sets 11 = .ok (.iload_n 2, 1) := by decide +kernel
theorem dX4_sets_12 : decode cX4_sets 12 = .ok (.iadd, 1) := by decide +kernel
theorem dX4_sets_13 : decode cX4_sets 13 = .ok (.iload_n 3, 1) := by decide +kernel
theorem dX4_sets_14 : decode cX4_sets 14 = .ok (.iastore, 1) := by decide +kernel
theorem dX4_sets_15 : decode cX4_sets 15 = .ok (.return_, 1) := by decide +kernel
theorem dX4_becomes_0 : decode cX4_becomes 0 = .ok (.aload_n 0, 1) := by decide +kernel
theorem dX4_becomes_1 : decode cX4_becomes 1 = .ok (.getfield 9, 3) := by decide +kernel
theorem dX4_becomes_4 : decode cX4_becomes 4 = .ok (.iload_n 1, 1) := by decide +kernel
theorem dX4_becomes_5 : decode cX4_becomes 5 = .ok (.iaload, 1) := by decide +kernel
theorem dX4_becomes_6 : decode cX4_becomes 6 = .ok (.istore_n 3, 1) := by decide +kernel
theorem dX4_becomes_7 : decode cX4_becomes 7 = .ok (.aload_n 0, 1) := by decide +kernel
theorem dX4_becomes_8 : decode cX4_becomes 8 = .ok (.getfield 9, 3) := by decide +kernel
theorem dX4_becomes_11 : decode cX4_becomes 11 = .ok (.iload_n 1, 1) := by decide +kernel
theorem dX4_becomes_12 : decode cX4_becomes 12 = .ok (.iload_n 2, 1) := by decide +kernel
theorem dX4_becomes_13 : decode cX4_becomes 13 = .ok (.iastore, 1) := by decide +kernel
theorem dX4_becomes_14 : decode cX4_becomes 14 = .ok (.iload_n 3, 1) := by decide +kernel
theorem dX4_becomes_15 : decode cX4_becomes 15 = .ok (.ireturn, 1) := by decide +kernel
theorem dX4_ones_0 : decode cX4_ones 0 = .ok (.iconst 0, 1) := by decide +kernel
theorem dX4_ones_1 : decode cX4_ones 1 = .ok (.istore_n 1, 1) := by decide +kernel
theorem dX4_ones_2 : decode cX4_ones 2 = .ok (.iconst 0, 1) := by decide +kernel
theorem dX4_ones_3 : decode cX4_ones 3 = .ok (.istore_n 2, 1) := by decide +kernel
theorem dX4_ones_4 : decode cX4_ones 4 = .ok (.iload_n 2, 1) := by decide +kernel
theorem dX4_ones_5 : decode cX4_ones 5 = .ok (.bipush 24, 2) := by decide +kernel
theorem dX4_ones_7 : decode cX4_ones 7 = .ok (.if_icmp .ge 17, 3) := by decide +kernel
theorem dX4_ones_10 : decode cX4_ones 10 = .ok (.iload_n 1, 1) := by decide +kernel
theorem dX4_ones_11 : decode cX4_ones 11 = .ok (.iload_n 0, 1) := by decide +kernel
theorem dX4_ones_12 : decode cX4_ones 12 = .ok (.iload_n 2, 1) := by decide +kernel
theorem dX4_ones_13 : decode cX4_ones 13 = .ok (.ishr, 1) := by decide +kernel
theorem dX4_ones_14 : decode cX4_ones 14 = .ok (.iconst 1, 1) := by decide +kernel
theorem dX4_ones_15 : decode cX4_ones 15 = .ok (.iand, 1) := by decide +kernel
theorem dX4_ones_16 : decode cX4_ones 16 = .ok (.iadd, 1) := by decide +kernel
theorem dX4_ones_17 : decode cX4_ones 17 = .ok (.istore_n 1, 1) := by decide +kernel
theorem dX4_ones_18 : decode cX4_ones 18 = .ok (.iinc 2 1, 3) := by decide +kernel
theorem dX4_ones_21 : decode cX4_ones 21 = .ok (.goto (-17), 3) := by decide +kernel
theorem dX4_ones_24 : decode cX4_ones 24 = .ok (.iload_n 1, 1) := by decide +kernel
theorem dX4_ones_25 : decode cX4_ones 25 = .ok (.ireturn, 1) := by decide +kernel
theorem dX4_aboveOf_0 : decode cX4_aboveOf 0 = .ok (.iload_n 0, 1) := by decide +kernel
theorem dX4_aboveOf_1 : decode cX4_aboveOf 1 = .ok (.iconst 3, 1) := by decide +kernel
theorem dX4_aboveOf_2 : decode cX4_aboveOf 2 = .ok (.if_icmp .ne 7, 3) := by decide +kernel
theorem dX4_aboveOf_5 : decode cX4_aboveOf 5 = .ok (.iconst 2, 1) := by decide +kernel
theorem dX4_aboveOf_6 : decode cX4_aboveOf 6 = .ok (.goto 23, 3) := by decide +kernel
theorem dX4_aboveOf_9 : decode cX4_aboveOf 9 = .ok (.iload_n 0, 1) := by decide +kernel
theorem dX4_aboveOf_10 : decode cX4_aboveOf 10 = .ok (.iconst 4, 1) := by decide +kernel
theorem dX4_aboveOf_11 : decode cX4_aboveOf 11 = .ok (.if_icmp .ne 7, 3) := by decide +kernel
theorem dX4_aboveOf_14 : decode cX4_aboveOf 14 = .ok (.iconst 3, 1) := by decide +kernel
theorem dX4_aboveOf_15 : decode cX4_aboveOf 15 = .ok (.goto 14, 3) := by decide +kernel
theorem dX4_aboveOf_18 : decode cX4_aboveOf 18 = .ok (.iload_n 0, 1) := by decide +kernel
theorem dX4_aboveOf_19 : decode cX4_aboveOf 19 = .ok (.bipush 6, 2) := by decide +kernel
theorem dX4_aboveOf_21 : decode cX4_aboveOf 21 = .ok (.if_icmp .ne 7, 3) := by decide +kernel
theorem dX4_aboveOf_24 : decode cX4_aboveOf 24 = .ok (.iconst 1, 1) := by decide +kernel
theorem dX4_aboveOf_25 : decode cX4_aboveOf 25 = .ok (.goto 4, 3) := by decide +kernel
theorem dX4_aboveOf_28 : decode cX4_aboveOf 28 = .ok (.iconst 0, 1) := by decide +kernel
theorem dX4_aboveOf_29 : decode cX4_aboveOf 29 = .ok (.ireturn, 1) := by decide +kernel
theorem dX4_isUnder_0 : decode cX4_isUnder 0 = .ok (.iload_n 0, 1) := by decide +kernel
theorem dX4_isUnder_1 : decode cX4_isUnder 1 = .ok (.istore_n 2, 1) := by decide +kernel
theorem dX4_isUnder_2 : decode cX4_isUnder 2 = .ok (.iload_n 2, 1) := by decide +kernel
theorem dX4_isUnder_3 : decode cX4_isUnder 3 = .ok (.ifCond .eq 16, 3) := by decide +kernel
theorem dX4_isUnder_6 : decode cX4_isUnder 6 = .ok (.iload_n 2, 1) := by decide +kernel
theorem dX4_isUnder_7 : decode cX4_isUnder 7 = .ok (.iload_n 1, 1) := by decide +kernel
theorem dX4_isUnder_8 : decode cX4_isUnder 8 = .ok (.if_icmp .eq 11, 3) := by decide +kernel
theorem dX4_isUnder_11 : decode cX4_isUnder 11 = .ok (.iload_n 2, 1) := by decide +kernel
theorem dX4_isUnder_12 : decode cX4_isUnder 12 = .ok (.invokestatic 48, 3) := by decide +kernel
theorem dX4_isUnder_15 : decode cX4_isUnder 15 = .ok (.istore_n 2, 1) := by decide +kernel
theorem dX4_isUnder_16 : decode cX4_isUnder 16 = .ok (.goto (-14), 3) := by decide +kernel
theorem dX4_isUnder_19 : decode cX4_isUnder 19 = .ok (.iload_n 2, 1) := by decide +kernel
theorem dX4_isUnder_20 : decode cX4_isUnder 20 = .ok (.iload_n 1, 1) := by decide +kernel
theorem dX4_isUnder_21 : decode cX4_isUnder 21 = .ok (.if_icmp .ne 7, 3) := by decide +kernel
theorem dX4_isUnder_24 : decode cX4_isUnder 24 = .ok (.iconst 1, 1) := by decide +kernel
theorem dX4_isUnder_25 : decode cX4_isUnder 25 = .ok (.goto 4, 3) := by decide +kernel
theorem dX4_isUnder_28 : decode cX4_isUnder 28 = .ok (.iconst 0, 1) := by decide +kernel
theorem dX4_isUnder_29 : decode cX4_isUnder 29 = .ok (.ireturn, 1) := by decide +kernel
theorem dX4_isKind_0 : decode cX4_isKind 0 = .ok (.iload_n 0, 1) := by decide +kernel
theorem dX4_isKind_1 : decode cX4_isKind 1 = .ok (.i2l, 1) := by decide +kernel
theorem dX4_isKind_2 : decode cX4_isKind 2 = .ok (.lconst 0, 1) := by decide +kernel
theorem dX4_isKind_3 : decode cX4_isKind 3 = .ok (.ldc2_w 52, 3) := by decide +kernel
theorem dX4_isKind_6 : decode cX4_isKind 6 = .ok (.invokestatic 42, 3) := by decide +kernel
theorem dX4_isKind_9 : decode cX4_isKind 9 = .ok (.ireturn, 1) := by decide +kernel
theorem dX4_strides_0 : decode cX4_strides 0 = .ok (.aload_n 0, 1) := by decide +kernel
theorem dX4_strides_1 : decode cX4_strides 1 = .ok (.iload_n 1, 1) := by decide +kernel
theorem dX4_strides_2 : decode cX4_strides 2 = .ok (.iconst 3, 1) := by decide +kernel
theorem dX4_strides_3 : decode cX4_strides 3 = .ok (.invokevirtual 54, 3) := by decide +kernel
theorem dX4_strides_6 : decode cX4_strides 6 = .ok (.istore_n 2, 1) := by decide +kernel
theorem dX4_strides_7 : decode cX4_strides 7 = .ok (.iload_n 2, 1) := by decide +kernel
theorem dX4_strides_8 : decode cX4_strides 8 = .ok (.aload_n 0, 1) := by decide +kernel
theorem dX4_strides_9 : decode cX4_strides 9 = .ok (.getfield 9, 3) := by decide +kernel
theorem dX4_strides_12 : decode cX4_strides 12 = .ok (.iconst 0, 1) := by decide +kernel
theorem dX4_strides_13 : decode cX4_strides 13 = .ok (.iaload, 1) := by decide +kernel
theorem dX4_strides_14 : decode cX4_strides 14 = .ok (.iconst 2, 1) := by decide +kernel
theorem dX4_strides_15 : decode cX4_strides 15 = .ok (.irem, 1) := by decide +kernel
theorem dX4_strides_16 : decode cX4_strides 16 = .ok (.iadd, 1) := by decide +kernel
theorem dX4_strides_17 : decode cX4_strides 17 = .ok (.istore_n 3, 1) := by decide +kernel
theorem dX4_strides_18 : decode cX4_strides 18 = .ok (.aload_n 0, 1) := by decide +kernel
theorem dX4_strides_19 : decode cX4_strides 19 = .ok (.iload_n 1, 1) := by decide +kernel
theorem dX4_strides_20 : decode cX4_strides 20 = .ok (.iconst 0, 1) := by decide +kernel
theorem dX4_strides_21 : decode cX4_strides 21 = .ok (.invokevirtual 54, 3) := by decide +kernel
theorem dX4_strides_24 : decode cX4_strides 24 = .ok (.tableswitch 60 1 6 #[40, 46, 48, 54, 60, 42], 40) := by decide +kernel
theorem dX4_strides_64 : decode cX4_strides 64 = .ok (.iload_n 3, 1) := by decide +kernel
theorem dX4_strides_65 : decode cX4_strides 65 = .ok (.ireturn, 1) := by decide +kernel
theorem dX4_strides_66 : decode cX4_strides 66 = .ok (.iconst 2, 1) := by decide +kernel
theorem dX4_strides_67 : decode cX4_strides 67 = .ok (.iload_n 3, 1) := by decide +kernel
theorem dX4_strides_68 : decode cX4_strides 68 = .ok (.imul, 1) := by decide +kernel
theorem dX4_strides_69 : decode cX4_strides 69 = .ok (.ireturn, 1) := by decide +kernel
theorem dX4_strides_70 : decode cX4_strides 70 = .ok (.iconst 1, 1) := by decide +kernel
theorem dX4_strides_71 : decode cX4_strides 71 = .ok (.ireturn, 1) := by decide +kernel
theorem dX4_strides_72 : decode cX4_strides 72 = .ok (.iconst 1, 1) := by decide +kernel
theorem dX4_strides_73 : decode cX4_strides 73 = .ok (.iload_n 2, 1) := by decide +kernel
theorem dX4_strides_74 : decode cX4_strides 74 = .ok (.iconst 2, 1) := by decide +kernel
theorem dX4_strides_75 : decode cX4_strides 75 = .ok (.idiv, 1) := by decide +kernel
theorem dX4_strides_76 : decode cX4_strides 76 = .ok (.iadd, 1) := by decide +kernel
theorem dX4_strides_77 : decode cX4_strides 77 = .ok (.ireturn, 1) := by decide +kernel
theorem dX4_strides_78 : decode cX4_strides 78 = .ok (.iconst 3, 1) := by decide +kernel
theorem dX4_strides_79 : decode cX4_strides 79 = .ok (.iload_n 2, 1) := by decide +kernel
theorem dX4_strides_80 : decode cX4_strides 80 = .ok (.iconst 2, 1) := by decide +kernel
theorem dX4_strides_81 : decode cX4_strides 81 = .ok (.idiv, 1) := by decide +kernel
theorem dX4_strides_82 : decode cX4_strides 82 = .ok (.iadd, 1) := by decide +kernel
theorem dX4_strides_83 : decode cX4_strides 83 = .ok (.ireturn, 1) := by decide +kernel
theorem dX4_strides_84 : decode cX4_strides 84 = .ok (.iload_n 2, 1) := by decide +kernel
theorem dX4_strides_85 : decode cX4_strides 85 = .ok (.ireturn, 1) := by decide +kernel
theorem dX4_presses_0 : decode cX4_presses 0 = .ok (.aload_n 0, 1) := by decide +kernel
theorem dX4_presses_1 : decode cX4_presses 1 = .ok (.iload_n 1, 1) := by decide +kernel
theorem dX4_presses_2 : decode cX4_presses 2 = .ok (.iconst 4, 1) := by decide +kernel
theorem dX4_presses_3 : decode cX4_presses 3 = .ok (.invokevirtual 54, 3) := by decide +kernel
theorem dX4_presses_6 : decode cX4_presses 6 = .ok (.istore_n 2, 1) := by decide +kernel
theorem dX4_presses_7 : decode cX4_presses 7 = .ok (.iload_n 2, 1) := by decide +kernel
theorem dX4_presses_8 : decode cX4_presses 8 = .ok (.istore_n 3, 1) := by decide +kernel
theorem dX4_presses_9 : decode cX4_presses 9 = .ok (.aload_n 0, 1) := by decide +kernel
theorem dX4_presses_10 : decode cX4_presses 10 = .ok (.iload_n 1, 1) := by decide +kernel
theorem dX4_presses_11 : decode cX4_presses 11 = .ok (.iconst 0, 1) := by decide +kernel
theorem dX4_presses_12 : decode cX4_presses 12 = .ok (.invokevirtual 54, 3) := by decide +kernel
theorem dX4_presses_15 : decode cX4_presses 15 = .ok (.tableswitch 97 1 6 #[37, 57, 64, 71, 92, 44], 37) := by decide +kernel
theorem dX4_presses_52 : decode cX4_presses 52 = .ok (.iload_n 2, 1) := by decide +kernel
theorem dX4_presses_53 : decode cX4_presses 53 = .ok (.iconst 2, 1) := by decide +kernel
theorem dX4_presses_54 : decode cX4_presses 54 = .ok (.idiv, 1) := by decide +kernel
theorem dX4_presses_55 : decode cX4_presses 55 = .ok (.istore_n 3, 1) := by decide +kernel
theorem dX4_presses_56 : decode cX4_presses 56 = .ok (.goto 56, 3) := by decide +kernel
theorem dX4_presses_59 : decode cX4_presses 59 = .ok (.iconst 0, 1) := by decide +kernel
theorem dX4_presses_60 : decode cX4_presses 60 = .ok (.iload_n 2, 1) := by decide +kernel
theorem dX4_presses_61 : decode cX4_presses 61 = .ok (.iconst 2, 1) := by decide +kernel
theorem dX4_presses_62 : decode cX4_presses 62 = .ok (.idiv, 1) := by decide +kernel
theorem dX4_presses_63 : decode cX4_presses 63 = .ok (.iconst 1, 1) := by decide +kernel
theorem dX4_presses_64 : decode cX4_presses 64 = .ok (.isub, 1) := by decide +kernel
theorem dX4_presses_65 : decode cX4_presses 65 = .ok (.invokestatic 58, 3) := by decide +kernel
theorem dX4_presses_68 : decode cX4_presses 68 = .ok (.istore_n 3, 1) := by decide +kernel
theorem dX4_presses_69 : decode cX4_presses 69 = .ok (.goto 43, 3) := by decide +kernel
theorem dX4_presses_72 : decode cX4_presses 72 = .ok (.iload_n 2, 1) := by decide +kernel
theorem dX4_presses_73 : decode cX4_presses 73 = .ok (.iconst 3, 1) := by decide +kernel
theorem dX4_presses_74 : decode cX4_presses 74 = .ok (.iadd, 1) := by decide +kernel
theorem dX4_presses_75 : decode cX4_presses 75 = .ok (.istore_n 3, 1) := by decide +kernel
theorem dX4_presses_76 : decode cX4_presses 76 = .ok (.goto 36, 3) := by decide +kernel
theorem dX4_presses_79 : decode cX4_presses 79 = .ok (.iload_n 2, 1) := by decide +kernel
theorem dX4_presses_80 : decode cX4_presses 80 = .ok (.iconst 4, 1) := by decide +kernel
theorem dX4_presses_81 : decode cX4_presses 81 = .ok (.iadd, 1) := by decide +kernel
theorem dX4_presses_82 : decode cX4_presses 82 = .ok (.istore_n 3, 1) := by decide +kernel
theorem dX4_presses_83 : decode cX4_presses 83 = .ok (.goto 29, 3) := by decide +kernel
theorem dX4_presses_86 : decode cX4_presses 86 = .ok (.iload_n 2, 1) := by decide +kernel
theorem dX4_presses_87 : decode cX4_presses 87 = .ok (.aload_n 0, 1) := by decide +kernel
theorem dX4_presses_88 : decode cX4_presses 88 = .ok (.iload_n 1, 1) := by decide +kernel
theorem dX4_presses_89 : decode cX4_presses 89 = .ok (.iconst 3, 1) := by decide +kernel
theorem dX4_presses_90 : decode cX4_presses 90 = .ok (.invokevirtual 54, 3) := by decide +kernel
theorem dX4_presses_93 : decode cX4_presses 93 = .ok (.iconst 3, 1) := by decide +kernel
theorem dX4_presses_94 : decode cX4_presses 94 = .ok (.if_icmp .le 7, 3) := by decide +kernel
theorem dX4_presses_97 : decode cX4_presses 97 = .ok (.iconst 4, 1) := by decide +kernel
theorem dX4_presses_98 : decode cX4_presses 98 = .ok (.goto 4, 3) := by decide +kernel
theorem dX4_presses_101 : decode cX4_presses 101 = .ok (.iconst 2, 1) := by decide +kernel
theorem dX4_presses_102 : decode cX4_presses 102 = .ok (.iadd, 1) := by decide +kernel
theorem dX4_presses_103 : decode cX4_presses 103 = .ok (.istore_n 3, 1) := by decide +kernel
theorem dX4_presses_104 : decode cX4_presses 104 = .ok (.goto 8, 3) := by decide +kernel
theorem dX4_presses_107 : decode cX4_presses 107 = .ok (.iconst 1, 1) := by decide +kernel
theorem dX4_presses_108 : decode cX4_presses 108 = .ok (.istore_n 3, 1) := by decide +kernel
theorem dX4_presses_109 : decode cX4_presses 109 = .ok (.goto 3, 3) := by decide +kernel
theorem dX4_presses_112 : decode cX4_presses 112 = .ok (.bipush 9, 2) := by decide +kernel
theorem dX4_presses_114 : decode cX4_presses 114 = .ok (.iload_n 3, 1) := by decide +kernel
theorem dX4_presses_115 : decode cX4_presses 115 = .ok (.invokestatic 63, 3) := by decide +kernel
theorem dX4_presses_118 : decode cX4_presses 118 = .ok (.ireturn, 1) := by decide +kernel
theorem dX4_looks_0 : decode cX4_looks 0 = .ok (.aload_n 0, 1) := by decide +kernel
theorem dX4_looks_1 : decode cX4_looks 1 = .ok (.iload_n 1, 1) := by decide +kernel
theorem dX4_looks_2 : decode cX4_looks 2 = .ok (.iconst 0, 1) := by decide +kernel
theorem dX4_looks_3 : decode cX4_looks 3 = .ok (.invokevirtual 54, 3) := by decide +kernel
theorem dX4_looks_6 : decode cX4_looks 6 = .ok (.iconst 5, 1) := by decide +kernel
theorem dX4_looks_7 : decode cX4_looks 7 = .ok (.if_icmp .ne 14, 3) := by decide +kernel
theorem dX4_looks_10 : decode cX4_looks 10 = .ok (.iconst 1, 1) := by decide +kernel
theorem dX4_looks_11 : decode cX4_looks 11 = .ok (.aload_n 0, 1) := by decide +kernel
theorem dX4_looks_12 : decode cX4_looks 12 = .ok (.iload_n 1, 1) := by decide +kernel
theorem dX4_looks_13 : decode cX4_looks 13 = .ok (.iconst 2, 1) := by decide +kernel
theorem dX4_looks_14 : decode cX4_looks 14 = .ok (.invokevirtual 54, 3) := by decide +kernel
theorem dX4_looks_17 : decode cX4_looks 17 = .ok (.isub, 1) := by decide +kernel
theorem dX4_looks_18 : decode cX4_looks 18 = .ok (.goto 9, 3) := by decide +kernel
theorem dX4_looks_21 : decode cX4_looks 21 = .ok (.aload_n 0, 1) := by decide +kernel
theorem dX4_looks_22 : decode cX4_looks 22 = .ok (.iload_n 1, 1) := by decide +kernel
theorem dX4_looks_23 : decode cX4_looks 23 = .ok (.iconst 2, 1) := by decide +kernel
theorem dX4_looks_24 : decode cX4_looks 24 = .ok (.invokevirtual 54, 3) := by decide +kernel
theorem dX4_looks_27 : decode cX4_looks 27 = .ok (.ireturn, 1) := by decide +kernel
theorem dX4_workOf_0 : decode cX4_workOf 0 = .ok (.iconst 0, 1) := by decide +kernel
theorem dX4_workOf_1 : decode cX4_workOf 1 = .ok (.istore_n 2, 1) := by decide +kernel
theorem dX4_workOf_2 : decode cX4_workOf 2 = .ok (.iconst 0, 1) := by decide +kernel
theorem dX4_workOf_3 : decode cX4_workOf 3 = .ok (.istore_n 3, 1) := by decide +kernel
theorem dX4_workOf_4 : decode cX4_workOf 4 = .ok (.iload_n 3, 1) := by decide +kernel
theorem dX4_workOf_5 : decode cX4_workOf 5 = .ok (.bipush 24, 2) := by decide +kernel
theorem dX4_workOf_7 : decode cX4_workOf 7 = .ok (.if_icmp .ge 31, 3) := by decide +kernel
theorem dX4_workOf_10 : decode cX4_workOf 10 = .ok (.iload_n 2, 1) := by decide +kernel
theorem dX4_workOf_11 : decode cX4_workOf 11 = .ok (.aload_n 0, 1) := by decide +kernel
theorem dX4_workOf_12 : decode cX4_workOf 12 = .ok (.getfield 9, 3) := by decide +kernel
theorem dX4_workOf_15 : decode cX4_workOf 15 = .ok (.iconst 5, 1) := by decide +kernel
theorem dX4_workOf_16 : decode cX4_workOf 16 = .ok (.iload_n 3, 1) := by decide +kernel
theorem dX4_workOf_17 : decode cX4_workOf 17 = .ok (.iadd, 1) := by decide +kernel
theorem dX4_workOf_18 : decode cX4_workOf 18 = .ok (.iaload, 1) := by decide +kernel
theorem dX4_workOf_19 : decode cX4_workOf 19 = .ok (.iload_n 1, 1) := by decide +kernel
theorem dX4_workOf_20 : decode cX4_workOf 20 = .ok (.if_icmp .ne 9, 3) := by decide +kernel
theorem dX4_workOf_23 : decode cX4_workOf 23 = .ok (.iconst 1, 1) := by decide +kernel
theorem dX4_workOf_24 : decode cX4_workOf 24 = .ok (.iload_n 3, 1) := by decide +kernel
theorem dX4_workOf_25 : decode cX4_workOf 25 = .ok (.ishl, 1) := by decide +kernel
theorem dX4_workOf_26 : decode cX4_workOf 26 = .ok (.goto 4, 3) := by decide +kernel
theorem dX4_workOf_29 : decode cX4_workOf 29 = .ok (.iconst 0, 1) := by decide +kernel
theorem dX4_workOf_30 : decode cX4_workOf 30 = .ok (.ior, 1) := by decide +kernel
theorem dX4_workOf_31 : decode cX4_workOf 31 = .ok (.istore_n 2, 1) := by decide +kernel
theorem dX4_workOf_32 : decode cX4_workOf 32 = .ok (.iinc 3 1, 3) := by decide +kernel
theorem dX4_workOf_35 : decode cX4_workOf 35 = .ok (.goto (-31), 3) := by decide +kernel
theorem dX4_workOf_38 : decode cX4_workOf 38 = .ok (.iload_n 2, 1) := by decide +kernel
theorem dX4_workOf_39 : decode cX4_workOf 39 = .ok (.ireturn, 1) := by decide +kernel
theorem dX4_adds_0 : decode cX4_adds 0 = .ok (.aload_n 0, 1) := by decide +kernel
theorem dX4_adds_1 : decode cX4_adds 1 = .ok (.getfield 9, 3) := by decide +kernel
theorem dX4_adds_4 : decode cX4_adds 4 = .ok (.iconst 2, 1) := by decide +kernel
theorem dX4_adds_5 : decode cX4_adds 5 = .ok (.iaload, 1) := by decide +kernel
theorem dX4_adds_6 : decode cX4_adds 6 = .ok (.istore_n 3, 1) := by decide +kernel
theorem dX4_adds_7 : decode cX4_adds 7 = .ok (.aload_n 0, 1) := by decide +kernel
theorem dX4_adds_8 : decode cX4_adds 8 = .ok (.getfield 9, 3) := by decide +kernel
theorem dX4_adds_11 : decode cX4_adds 11 = .ok (.iconst 2, 1) := by decide +kernel
theorem dX4_adds_12 : decode cX4_adds 12 = .ok (.dup2, 1) := by decide +kernel
theorem dX4_adds_13 : decode cX4_adds 13 = .ok (.iaload, 1) := by decide +kernel
theorem dX4_adds_14 : decode cX4_adds 14 = .ok (.iconst 1, 1) := by decide +kernel
theorem dX4_adds_15 : decode cX4_adds 15 = .ok (.iadd, 1) := by decide +kernel
theorem dX4_adds_16 : decode cX4_adds 16 = .ok (.iastore, 1) := by decide +kernel
theorem dX4_adds_17 : decode cX4_adds 17 = .ok (.aload_n 0, 1) := by decide +kernel
theorem dX4_adds_18 : decode cX4_adds 18 = .ok (.iload_n 3, 1) := by decide +kernel
theorem dX4_adds_19 : decode cX4_adds 19 = .ok (.iconst 0, 1) := by decide +kernel
theorem dX4_adds_20 : decode cX4_adds 20 = .ok (.iload_n 1, 1) := by decide +kernel
theorem dX4_adds_21 : decode cX4_adds 21 = .ok (.invokevirtual 66, 3) := by decide +kernel
theorem dX4_adds_24 : decode cX4_adds 24 = .ok (.aload_n 0, 1) := by decide +kernel
theorem dX4_adds_25 : decode cX4_adds 25 = .ok (.iload_n 3, 1) := by decide +kernel
theorem dX4_adds_26 : decode cX4_adds 26 = .ok (.iconst 1, 1) := by decide +kernel
theorem dX4_adds_27 : decode cX4_adds 27 = .ok (.iload_n 2, 1) := by decide +kernel
theorem dX4_adds_28 : decode cX4_adds 28 = .ok (.invokevirtual 66, 3) := by decide +kernel
theorem dX4_adds_31 : decode cX4_adds 31 = .ok (.aload_n 0, 1) := by decide +kernel
theorem dX4_adds_32 : decode cX4_adds 32 = .ok (.iload_n 3, 1) := by decide +kernel
theorem dX4_adds_33 : decode cX4_adds 33 = .ok (.iconst 2, 1) := by decide +kernel
theorem dX4_adds_34 : decode cX4_adds 34 = .ok (.iconst 1, 1) := by decide +kernel
theorem dX4_adds_35 : decode cX4_adds 35 = .ok (.invokevirtual 66, 3) := by decide +kernel
theorem dX4_adds_38 : decode cX4_adds 38 = .ok (.aload_n 0, 1) := by decide +kernel
theorem dX4_adds_39 : decode cX4_adds 39 = .ok (.iload_n 3, 1) := by decide +kernel
theorem dX4_adds_40 : decode cX4_adds 40 = .ok (.iconst 3, 1) := by decide +kernel
theorem dX4_adds_41 : decode cX4_adds 41 = .ok (.iconst 1, 1) := by decide +kernel
theorem dX4_adds_42 : decode cX4_adds 42 = .ok (.invokevirtual 66, 3) := by decide +kernel
theorem dX4_adds_45 : decode cX4_adds 45 = .ok (.aload_n 0, 1) := by decide +kernel
theorem dX4_adds_46 : decode cX4_adds 46 = .ok (.iload_n 3, 1) := by decide +kernel
theorem dX4_adds_47 : decode cX4_adds 47 = .ok (.iconst 4, 1) := by decide +kernel
theorem dX4_adds_48 : decode cX4_adds 48 = .ok (.iconst 4, 1) := by decide +kernel
theorem dX4_adds_49 : decode cX4_adds 49 = .ok (.invokevirtual 66, 3) := by decide +kernel
theorem dX4_adds_52 : decode cX4_adds 52 = .ok (.aload_n 0, 1) := by decide +kernel
theorem dX4_adds_53 : decode cX4_adds 53 = .ok (.iload_n 3, 1) := by decide +kernel
theorem dX4_adds_54 : decode cX4_adds 54 = .ok (.iconst 5, 1) := by decide +kernel
theorem dX4_adds_55 : decode cX4_adds 55 = .ok (.iconst 0, 1) := by decide +kernel
theorem dX4_adds_56 : decode cX4_adds 56 = .ok (.invokevirtual 66, 3) := by decide +kernel
theorem dX4_adds_59 : decode cX4_adds 59 = .ok (.iload_n 3, 1) := by decide +kernel
theorem dX4_adds_60 : decode cX4_adds 60 = .ok (.ireturn, 1) := by decide +kernel
theorem dX4_walkersAt_0 : decode cX4_walkersAt 0 = .ok (.iconst 0, 1) := by decide +kernel
theorem dX4_walkersAt_1 : decode cX4_walkersAt 1 = .ok (.istore_n 2, 1) := by decide +kernel
theorem dX4_walkersAt_2 : decode cX4_walkersAt 2 = .ok (.iconst 0, 1) := by decide +kernel
theorem dX4_walkersAt_3 : decode cX4_walkersAt 3 = .ok (.istore_n 3, 1) := by decide +kernel
theorem dX4_walkersAt_4 : decode cX4_walkersAt 4 = .ok (.iload_n 3, 1) := by decide +kernel
theorem dX4_walkersAt_5 : decode cX4_walkersAt 5 = .ok (.aload_n 0, 1) := by decide +kernel
theorem dX4_walkersAt_6 : decode cX4_walkersAt 6 = .ok (.getfield 9, 3) := by decide +kernel
theorem dX4_walkersAt_9 : decode cX4_walkersAt 9 = .ok (.iconst 2, 1) := by decide +kernel
theorem dX4_walkersAt_10 : decode cX4_walkersAt 10 = .ok (.iaload, 1) := by decide +kernel
theorem dX4_walkersAt_11 : decode cX4_walkersAt 11 = .ok (.if_icmp .ge 29, 3) := by decide +kernel
theorem dX4_walkersAt_14 : decode cX4_walkersAt 14 = .ok (.iload_n 2, 1) := by decide +kernel
theorem dX4_walkersAt_15 : decode cX4_walkersAt 15 = .ok (.aload_n 0, 1) := by decide +kernel
theorem dX4_walkersAt_16 : decode cX4_walkersAt 16 = .ok (.iload_n 3, 1) := by decide +kernel
theorem dX4_walkersAt_17 : decode cX4_walkersAt 17 = .ok (.iconst 1, 1) := by decide +kernel
theorem dX4_walkersAt_18 : decode cX4_walkersAt 18 = .ok (.invokevirtual 54, 3) := by decide +kernel
theorem dX4_walkersAt_21 : decode cX4_walkersAt 21 = .ok (.iload_n 1, 1) := by decide +kernel
theorem dX4_walkersAt_22 : decode cX4_walkersAt 22 = .ok (.if_icmp .ne 9, 3) := by decide +kernel
theorem dX4_walkersAt_25 : decode cX4_walkersAt 25 = .ok (.iconst 1, 1) := by decide +kernel
theorem dX4_walkersAt_26 : decode cX4_walkersAt 26 = .ok (.iload_n 3, 1) := by decide +kernel
theorem dX4_walkersAt_27 : decode cX4_walkersAt 27 = .ok (.ishl, 1) := by decide +kernel
theorem dX4_walkersAt_28 : decode cX4_walkersAt 28 = .ok (.goto 4, 3) := by decide +kernel
theorem dX4_walkersAt_31 : decode cX4_walkersAt 31 = .ok (.iconst 0, 1) := by decide +kernel
theorem dX4_walkersAt_32 : decode cX4_walkersAt 32 = .ok (.ior, 1) := by decide +kernel
theorem dX4_walkersAt_33 : decode cX4_walkersAt 33 = .ok (.istore_n 2, 1) := by decide +kernel
theorem dX4_walkersAt_34 : decode cX4_walkersAt 34 = .ok (.iinc 3 1, 3) := by decide +kernel
theorem dX4_walkersAt_37 : decode cX4_walkersAt 37 = .ok (.goto (-33), 3) := by decide +kernel
theorem dX4_walkersAt_40 : decode cX4_walkersAt 40 = .ok (.iload_n 2, 1) := by decide +kernel
theorem dX4_walkersAt_41 : decode cX4_walkersAt 41 = .ok (.ireturn, 1) := by decide +kernel
theorem dX4_cell_0 : decode cX4_cell 0 = .ok (.iload_n 1, 1) := by decide +kernel
theorem dX4_cell_1 : decode cX4_cell 1 = .ok (.invokestatic 70, 3) := by decide +kernel
theorem dX4_cell_4 : decode cX4_cell 4 = .ok (.ifCond .eq 15, 3) := by decide +kernel
theorem dX4_cell_7 : decode cX4_cell 7 = .ok (.iload_n 2, 1) := by decide +kernel
theorem dX4_cell_8 : decode cX4_cell 8 = .ok (.i2l, 1) := by decide +kernel
theorem dX4_cell_9 : decode cX4_cell 9 = .ok (.lconst 0, 1) := by decide +kernel
theorem dX4_cell_10 : decode cX4_cell 10 = .ok (.ldc2_w 74, 3) := by decide +kernel
theorem dX4_cell_13 : decode cX4_cell 13 = .ok (.invokestatic 42, 3) := by decide +kernel
theorem dX4_cell_16 : decode cX4_cell 16 = .ok (.ifCond .ne 9, 3) := by decide +kernel
theorem dX4_cell_19 : decode cX4_cell 19 = .ok (.aload_n 0, 1) := by decide +kernel
theorem dX4_cell_20 : decode cX4_cell 20 = .ok (.iconst 0, 1) := by decide +kernel
theorem dX4_cell_21 : decode cX4_cell 21 = .ok (.invokevirtual 76, 3) := by decide +kernel
theorem dX4_cell_24 : decode cX4_cell 24 = .ok (.ireturn, 1) := by decide +kernel
theorem dX4_cell_25 : decode cX4_cell 25 = .ok (.iload_n 2, 1) := by decide +kernel
theorem dX4_cell_26 : decode cX4_cell 26 = .ok (.iconst 3, 1) := by decide +kernel
theorem dX4_cell_27 : decode cX4_cell 27 = .ok (.if_icmp .ne 11, 3) := by decide +kernel
theorem dX4_cell_30 : decode cX4_cell 30 = .ok (.aload_n 0, 1) := by decide +kernel
theorem dX4_cell_31 : decode cX4_cell 31 = .ok (.iload_n 1, 1) := by decide +kernel
theorem dX4_cell_32 : decode cX4_cell 32 = .ok (.invokevirtual 79, 3) := by decide +kernel
theorem dX4_cell_35 : decode cX4_cell 35 = .ok (.goto 16, 3) := by decide +kernel
theorem dX4_cell_38 : decode cX4_cell 38 = .ok (.aload_n 0, 1) := by decide +kernel
theorem dX4_cell_39 : decode cX4_cell 39 = .ok (.getfield 9, 3) := by decide +kernel
theorem dX4_cell_42 : decode cX4_cell 42 = .ok (.iconst 5, 1) := by decide +kernel
theorem dX4_cell_43 : decode cX4_cell 43 = .ok (.bipush 24, 2) := by decide +kernel
theorem dX4_cell_45 : decode cX4_cell 45 = .ok (.iload_n 2, 1) := by decide +kernel
theorem dX4_cell_46 : decode cX4_cell 46 = .ok (.imul, 1) := by decide +kernel
theorem dX4_cell_47 : decode cX4_cell 47 = .ok (.iadd, 1) := by decide +kernel
theorem dX4_cell_48 : decode cX4_cell 48 = .ok (.iload_n 1, 1) := by decide +kernel
theorem dX4_cell_49 : decode cX4_cell 49 = .ok (.iadd, 1) := by decide +kernel
theorem dX4_cell_50 : decode cX4_cell 50 = .ok (.iaload, 1) := by decide +kernel
theorem dX4_cell_51 : decode cX4_cell 51 = .ok (.ireturn, 1) := by decide +kernel
theorem dX4_prints_0 : decode cX4_prints 0 = .ok (.aload_n 0, 1) := by decide +kernel
theorem dX4_prints_1 : decode cX4_prints 1 = .ok (.getfield 9, 3) := by decide +kernel
theorem dX4_prints_4 : decode cX4_prints 4 = .ok (.iconst 5, 1) := by decide +kernel
theorem dX4_prints_5 : decode cX4_prints 5 = .ok (.iload_n 1, 1) := by decide +kernel
theorem dX4_prints_6 : decode cX4_prints 6 = .ok (.iadd, 1) := by decide +kernel
theorem dX4_prints_7 : decode cX4_prints 7 = .ok (.iload_n 2, 1) := by decide +kernel
theorem dX4_prints_8 : decode cX4_prints 8 = .ok (.iastore, 1) := by decide +kernel
theorem dX4_prints_9 : decode cX4_prints 9 = .ok (.aload_n 0, 1) := by decide +kernel
theorem dX4_prints_10 : decode cX4_prints 10 = .ok (.getfield 9, 3) := by decide +kernel
theorem dX4_prints_13 : decode cX4_prints 13 = .ok (.bipush 29, 2) := by decide +kernel
theorem dX4_prints_15 : decode cX4_prints 15 = .ok (.iload_n 1, 1) := by decide +kernel
theorem dX4_prints_16 : decode cX4_prints 16 = .ok (.iadd, 1) := by decide +kernel
theorem dX4_prints_17 : decode cX4_prints 17 = .ok (.iload_n 2, 1) := by decide +kernel
theorem dX4_prints_18 : decode cX4_prints 18 = .ok (.ifCond .ge 7, 3) := by decide +kernel
theorem dX4_prints_21 : decode cX4_prints 21 = .ok (.iconst 0, 1) := by decide +kernel
theorem dX4_prints_22 : decode cX4_prints 22 = .ok (.goto 4, 3) := by decide +kernel
theorem dX4_prints_25 : decode cX4_prints 25 = .ok (.iload_n 3, 1) := by decide +kernel
theorem dX4_prints_26 : decode cX4_prints 26 = .ok (.iastore, 1) := by decide +kernel
theorem dX4_prints_27 : decode cX4_prints 27 = .ok (.aload_n 0, 1) := by decide +kernel
theorem dX4_prints_28 : decode cX4_prints 28 = .ok (.getfield 9, 3) := by decide +kernel
theorem dX4_prints_31 : decode cX4_prints 31 = .ok (.bipush 53, 2) := by decide +kernel
theorem dX4_prints_33 : decode cX4_prints 33 = .ok (.iload_n 1, 1) := by decide +kernel
theorem dX4_prints_34 : decode cX4_prints 34 = .ok (.iadd, 1) := by decide +kernel
theorem dX4_prints_35 : decode cX4_prints 35 = .ok (.iload_n 2, 1) := by decide +kernel
theorem dX4_prints_36 : decode cX4_prints 36 = .ok (.ifCond .ge 7, 3) := by decide +kernel
theorem dX4_prints_39 : decode cX4_prints 39 = .ok (.iconst 0, 1) := by decide +kernel
theorem dX4_prints_40 : decode cX4_prints 40 = .ok (.goto 5, 3) := by decide +kernel
theorem dX4_prints_43 : decode cX4_prints 43 = .ok (.iload 4, 2) := by decide +kernel
theorem dX4_prints_45 : decode cX4_prints 45 = .ok (.iastore, 1) := by decide +kernel
theorem dX4_prints_46 : decode cX4_prints 46 = .ok (.return_, 1) := by decide +kernel
theorem dX4_print_0 : decode cX4_print 0 = .ok (.iload_n 1, 1) := by decide +kernel
theorem dX4_print_1 : decode cX4_print 1 = .ok (.invokestatic 70, 3) := by decide +kernel
theorem dX4_print_4 : decode cX4_print 4 = .ok (.ifCond .eq 28, 3) := by decide +kernel
theorem dX4_print_7 : decode cX4_print 7 = .ok (.iload_n 2, 1) := by decide +kernel
theorem dX4_print_8 : decode cX4_print 8 = .ok (.iconst (-1), 1) := by decide +kernel
theorem dX4_print_9 : decode cX4_print 9 = .ok (.if_icmp .eq 11, 3) := by decide +kernel
theorem dX4_print_12 : decode cX4_print 12 = .ok (.aload_n 0, 1) := by decide +kernel
theorem dX4_print_13 : decode cX4_print 13 = .ok (.iload_n 2, 1) := by decide +kernel
theorem dX4_print_14 : decode cX4_print 14 = .ok (.invokevirtual 82, 3) := by decide +kernel
theorem dX4_print_17 : decode cX4_print 17 = .ok (.ifCond .eq 15, 3) := by decide +kernel
theorem dX4_print_20 : decode cX4_print 20 = .ok (.iload_n 3, 1) := by decide +kernel
theorem dX4_print_21 : decode cX4_print 21 = .ok (.i2l, 1) := by decide +kernel
theorem dX4_print_22 : decode cX4_print 22 = .ok (.lconst 0, 1) := by decide +kernel
theorem dX4_print_23 : decode cX4_print 23 = .ok (.ldc2_w 85, 3) := by decide +kernel
theorem dX4_print_26 : decode cX4_print 26 = .ok (.invokestatic 42, 3) := by decide +kernel
theorem dX4_print_29 : decode cX4_print 29 = .ok (.ifCond .ne 9, 3) := by decide +kernel
theorem dX4_print_32 : decode cX4_print 32 = .ok (.aload_n 0, 1) := by decide +kernel
theorem dX4_print_33 : decode cX4_print 33 = .ok (.iconst 0, 1) := by decide +kernel
theorem dX4_print_34 : decode cX4_print 34 = .ok (.invokevirtual 76, 3) := by decide +kernel
theorem dX4_print_37 : decode cX4_print 37 = .ok (.ireturn, 1) := by decide +kernel
theorem dX4_print_38 : decode cX4_print 38 = .ok (.aload_n 0, 1) := by decide +kernel
theorem dX4_print_39 : decode cX4_print 39 = .ok (.getfield 9, 3) := by decide +kernel
theorem dX4_print_42 : decode cX4_print 42 = .ok (.iconst 5, 1) := by decide +kernel
theorem dX4_print_43 : decode cX4_print 43 = .ok (.iload_n 1, 1) := by decide +kernel
theorem dX4_print_44 : decode cX4_print 44 = .ok (.iadd, 1) := by decide +kernel
theorem dX4_print_45 : decode cX4_print 45 = .ok (.iaload, 1) := by decide +kernel
theorem dX4_print_46 : decode cX4_print 46 = .ok (.istore 4, 2) := by decide +kernel
theorem dX4_print_48 : decode cX4_print 48 = .ok (.aload_n 0, 1) := by decide +kernel
theorem dX4_print_49 : decode cX4_print 49 = .ok (.iload_n 1, 1) := by decide +kernel
theorem dX4_print_50 : decode cX4_print 50 = .ok (.iload_n 2, 1) := by decide +kernel
theorem dX4_print_51 : decode cX4_print 51 = .ok (.iload_n 3, 1) := by decide +kernel
theorem dX4_print_52 : decode cX4_print 52 = .ok (.iload_n 2, 1) := by decide +kernel
theorem dX4_print_53 : decode cX4_print 53 = .ok (.ifCond .ge 7, 3) := by decide +kernel
theorem dX4_print_56 : decode cX4_print 56 = .ok (.iconst 0, 1) := by decide +kernel
theorem dX4_print_57 : decode cX4_print 57 = .ok (.goto 9, 3) := by decide +kernel
theorem dX4_print_60 : decode cX4_print 60 = .ok (.aload_n 0, 1) := by decide +kernel
theorem dX4_print_61 : decode cX4_print 61 = .ok (.iload_n 2, 1) := by decide +kernel
theorem dX4_print_62 : decode cX4_print 62 = .ok (.iconst 2, 1) := by decide +kernel
theorem dX4_print_63 : decode cX4_print 63 = .ok (.invokevirtual 54, 3) := by decide +kernel
theorem dX4_print_66 : decode cX4_print 66 = .ok (.invokevirtual 87, 3) := by decide +kernel
theorem dX4_print_69 : decode cX4_print 69 = .ok (.iload 4, 2) := by decide +kernel
theorem dX4_print_71 : decode cX4_print 71 = .ok (.ireturn, 1) := by decide +kernel
theorem dX4_reach_0 : decode cX4_reach 0 = .ok (.iload_n 1, 1) := by decide +kernel
theorem dX4_reach_1 : decode cX4_reach 1 = .ok (.i2l, 1) := by decide +kernel
theorem dX4_reach_2 : decode cX4_reach 2 = .ok (.lconst 0, 1) := by decide +kernel
theorem dX4_reach_3 : decode cX4_reach 3 = .ok (.ldc2_w 91, 3) := by decide +kernel
theorem dX4_reach_6 : decode cX4_reach 6 = .ok (.invokestatic 42, 3) := by decide +kernel
theorem dX4_reach_9 : decode cX4_reach 9 = .ok (.ifCond .eq 12, 3) := by decide +kernel
theorem dX4_reach_12 : decode cX4_reach 12 = .ok (.aload_n 0, 1) := by decide +kernel
theorem dX4_reach_13 : decode cX4_reach 13 = .ok (.iconst 3, 1) := by decide +kernel
theorem dX4_reach_14 : decode cX4_reach 14 = .ok (.iload_n 1, 1) := by decide +kernel
theorem dX4_reach_15 : decode cX4_reach 15 = .ok (.invokevirtual 93, 3) := by decide +kernel
theorem dX4_reach_18 : decode cX4_reach 18 = .ok (.goto 8, 3) := by decide +kernel
theorem dX4_reach_21 : decode cX4_reach 21 = .ok (.aload_n 0, 1) := by decide +kernel
theorem dX4_reach_22 : decode cX4_reach 22 = .ok (.iconst 0, 1) := by decide +kernel
theorem dX4_reach_23 : decode cX4_reach 23 = .ok (.invokevirtual 76, 3) := by decide +kernel
theorem dX4_reach_26 : decode cX4_reach 26 = .ok (.ireturn, 1) := by decide +kernel
theorem dX4_theTide_0 : decode cX4_theTide 0 = .ok (.iconst 0, 1) := by decide +kernel
theorem dX4_theTide_1 : decode cX4_theTide 1 = .ok (.istore_n 1, 1) := by decide +kernel
theorem dX4_theTide_2 : decode cX4_theTide 2 = .ok (.iconst 0, 1) := by decide +kernel
theorem dX4_theTide_3 : decode cX4_theTide 3 = .ok (.istore_n 2, 1) := by decide +kernel
theorem dX4_theTide_4 : decode cX4_theTide 4 = .ok (.iload_n 2, 1) := by decide +kernel
theorem dX4_theTide_5 : decode cX4_theTide 5 = .ok (.aload_n 0, 1) := by decide +kernel
theorem dX4_theTide_6 : decode cX4_theTide 6 = .ok (.getfield 9, 3) := by decide +kernel
theorem dX4_theTide_9 : decode cX4_theTide 9 = .ok (.iconst 3, 1) := by decide +kernel
theorem dX4_theTide_10 : decode cX4_theTide 10 = .ok (.iaload, 1) := by decide +kernel
theorem dX4_theTide_11 : decode cX4_theTide 11 = .ok (.if_icmp .ge 61, 3) := by decide +kernel
theorem dX4_theTide_14 : decode cX4_theTide 14 = .ok (.aload_n 0, 1) := by decide +kernel
theorem dX4_theTide_15 : decode cX4_theTide 15 = .ok (.getfield 9, 3) := by decide +kernel
theorem dX4_theTide_18 : decode cX4_theTide 18 = .ok (.iconst 5, 1) := by decide +kernel
theorem dX4_theTide_19 : decode cX4_theTide 19 = .ok (.iload_n 2, 1) := by decide +kernel
theorem dX4_theTide_20 : decode cX4_theTide 20 = .ok (.iadd, 1) := by decide +kernel
theorem dX4_theTide_21 : decode cX4_theTide 21 = .ok (.iaload, 1) := by decide +kernel
theorem dX4_theTide_22 : decode cX4_theTide 22 = .ok (.ifCond .lt 44, 3) := by decide +kernel
theorem dX4_theTide_25 : decode cX4_theTide 25 = .ok (.aload_n 0, 1) := by decide +kernel
theorem dX4_theTide_26 : decode cX4_theTide 26 = .ok (.getfield 9, 3) := by decide +kernel
theorem dX4_theTide_29 : decode cX4_theTide 29 = .ok (.bipush 29, 2) := by decide +kernel
theorem dX4_theTide_31 : decode cX4_theTide 31 = .ok (.iload_n 2, 1) := by decide +kernel
theorem dX4_theTide_32 : decode cX4_theTide 32 = .ok (.iadd, 1) := by decide +kernel
theorem dX4_theTide_33 : decode cX4_theTide 33 = .ok (.iaload, 1) := by decide +kernel
theorem dX4_theTide_34 : decode cX4_theTide 34 = .ok (.bipush 8, 2) := by decide +kernel
theorem dX4_theTide_36 : decode cX4_theTide 36 = .ok (.if_icmp .lt 19, 3) := by decide +kernel
theorem dX4_theTide_39 : decode cX4_theTide 39 = .ok (.aload_n 0, 1) := by decide +kernel
theorem dX4_theTide_40 : decode cX4_theTide 40 = .ok (.getfield 9, 3) := by decide +kernel
theorem dX4_theTide_43 : decode cX4_theTide 43 = .ok (.bipush 29, 2) := by decide +kernel
theorem dX4_theTide_45 : decode cX4_theTide 45 = .ok (.iload_n 2, 1) := by decide +kernel
theorem dX4_theTide_46 : decode cX4_theTide 46 = .ok (.iadd, 1) := by decide +kernel
theorem dX4_theTide_47 : decode cX4_theTide 47 = .ok (.dup2, 1) := by decide +kernel
theorem dX4_theTide_48 : decode cX4_theTide 48 = .ok (.iaload, 1) := by decide +kernel
theorem dX4_theTide_49 : decode cX4_theTide 49 = .ok (.iconst 1, 1) := by decide +kernel
theorem dX4_theTide_50 : decode cX4_theTide 50 = .ok (.isub, 1) := by decide +kernel
theorem dX4_theTide_51 : decode cX4_theTide 51 = .ok (.iastore, 1) := by decide +kernel
theorem dX4_theTide_52 : decode cX4_theTide 52 = .ok (.goto 14, 3) := by decide +kernel
theorem dX4_theTide_55 : decode cX4_theTide 55 = .ok (.aload_n 0, 1) := by decide +kernel
theorem dX4_theTide_56 : decode cX4_theTide 56 = .ok (.iload_n 2, 1) := by decide +kernel
theorem dX4_theTide_57 : decode cX4_theTide 57 = .ok (.iconst (-1), 1) := by decide +kernel
theorem dX4_theTide_58 : decode cX4_theTide 58 = .ok (.iconst 0, 1) := by decide +kernel
theorem dX4_theTide_59 : decode cX4_theTide 59 = .ok (.iconst 0, 1) := by decide +kernel
theorem dX4_theTide_60 : decode cX4_theTide 60 = .ok (.invokevirtual 87, 3) := by decide +kernel
theorem dX4_theTide_63 : decode cX4_theTide 63 = .ok (.iinc 1 1, 3) := by decide +kernel
theorem dX4_theTide_66 : decode cX4_theTide 66 = .ok (.iinc 2 1, 3) := by decide +kernel
theorem dX4_theTide_69 : decode cX4_theTide 69 = .ok (.goto (-65), 3) := by decide +kernel
theorem dX4_theTide_72 : decode cX4_theTide 72 = .ok (.iload_n 1, 1) := by decide +kernel
theorem dX4_theTide_73 : decode cX4_theTide 73 = .ok (.ireturn, 1) := by decide +kernel
theorem dX4_tide_0 : decode cX4_tide 0 = .ok (.aload_n 0, 1) := by decide +kernel
theorem dX4_tide_1 : decode cX4_tide 1 = .ok (.invokevirtual 96, 3) := by decide +kernel
theorem dX4_tide_4 : decode cX4_tide 4 = .ok (.ireturn, 1) := by decide +kernel
theorem dX4_walker_0 : decode cX4_walker 0 = .ok (.iload_n 1, 1) := by decide +kernel
theorem dX4_walker_1 : decode cX4_walker 1 = .ok (.invokestatic 100, 3) := by decide +kernel
theorem dX4_walker_4 : decode cX4_walker 4 = .ok (.ifCond .eq 10, 3) := by decide +kernel
theorem dX4_walker_7 : decode cX4_walker 7 = .ok (.iload_n 2, 1) := by decide +kernel
theorem dX4_walker_8 : decode cX4_walker 8 = .ok (.invokestatic 70, 3) := by decide +kernel
theorem dX4_walker_11 : decode cX4_walker 11 = .ok (.ifCond .ne 9, 3) := by decide +kernel
theorem dX4_walker_14 : decode cX4_walker 14 = .ok (.aload_n 0, 1) := by decide +kernel
theorem dX4_walker_15 : decode cX4_walker 15 = .ok (.iconst 0, 1) := by decide +kernel
theorem dX4_walker_16 : decode cX4_walker 16 = .ok (.invokevirtual 76, 3) := by decide +kernel
theorem dX4_walker_19 : decode cX4_walker 19 = .ok (.ireturn, 1) := by decide +kernel
theorem dX4_walker_20 : decode cX4_walker 20 = .ok (.aload_n 0, 1) := by decide +kernel
theorem dX4_walker_21 : decode cX4_walker 21 = .ok (.getfield 9, 3) := by decide +kernel
theorem dX4_walker_24 : decode cX4_walker 24 = .ok (.iconst 2, 1) := by decide +kernel
theorem dX4_walker_25 : decode cX4_walker 25 = .ok (.iaload, 1) := by decide +kernel
theorem dX4_walker_26 : decode cX4_walker 26 = .ok (.bipush 8, 2) := by decide +kernel
theorem dX4_walker_28 : decode cX4_walker 28 = .ok (.if_icmp .ne 11, 3) := by decide +kernel
theorem dX4_walker_31 : decode cX4_walker 31 = .ok (.aload_n 0, 1) := by decide +kernel
theorem dX4_walker_32 : decode cX4_walker 32 = .ok (.iconst 1, 1) := by decide +kernel
theorem dX4_walker_33 : decode cX4_walker 33 = .ok (.invokevirtual 76, 3) := by decide +kernel
theorem dX4_walker_36 : decode cX4_walker 36 = .ok (.goto 9, 3) := by decide +kernel
theorem dX4_walker_39 : decode cX4_walker 39 = .ok (.aload_n 0, 1) := by decide +kernel
theorem dX4_walker_40 : decode cX4_walker 40 = .ok (.iload_n 1, 1) := by decide +kernel
theorem dX4_walker_41 : decode cX4_walker 41 = .ok (.iload_n 2, 1) := by decide +kernel
theorem dX4_walker_42 : decode cX4_walker 42 = .ok (.invokevirtual 103, 3) := by decide +kernel
theorem dX4_walker_45 : decode cX4_walker 45 = .ok (.ireturn, 1) := by decide +kernel
theorem dX4_of_0 : decode cX4_of 0 = .ok (.aload_n 0, 1) := by decide +kernel
theorem dX4_of_1 : decode cX4_of 1 = .ok (.iload_n 1, 1) := by decide +kernel
theorem dX4_of_2 : decode cX4_of 2 = .ok (.invokevirtual 82, 3) := by decide +kernel
theorem dX4_of_5 : decode cX4_of 5 = .ok (.ifCond .eq 15, 3) := by decide +kernel
theorem dX4_of_8 : decode cX4_of 8 = .ok (.iload_n 2, 1) := by decide +kernel
theorem dX4_of_9 : decode cX4_of 9 = .ok (.i2l, 1) := by decide +kernel
theorem dX4_of_10 : decode cX4_of 10 = .ok (.lconst 0, 1) := by decide +kernel
theorem dX4_of_11 : decode cX4_of 11 = .ok (.ldc2_w 85, 3) := by decide +kernel
theorem dX4_of_14 : decode cX4_of 14 = .ok (.invokestatic 42, 3) := by decide +kernel
theorem dX4_of_17 : decode cX4_of 17 = .ok (.ifCond .ne 9, 3) := by decide +kernel
theorem dX4_of_20 : decode cX4_of 20 = .ok (.aload_n 0, 1) := by decide +kernel
theorem dX4_of_21 : decode cX4_of 21 = .ok (.iconst 0, 1) := by decide +kernel
theorem dX4_of_22 : decode cX4_of 22 = .ok (.invokevirtual 76, 3) := by decide +kernel
theorem dX4_of_25 : decode cX4_of 25 = .ok (.ireturn, 1) := by decide +kernel
theorem dX4_of_26 : decode cX4_of 26 = .ok (.iload_n 2, 1) := by decide +kernel
theorem dX4_of_27 : decode cX4_of 27 = .ok (.tableswitch 53 6 9 #[29, 35, 41, 47], 29) := by decide +kernel
theorem dX4_of_56 : decode cX4_of 56 = .ok (.aload_n 0, 1) := by decide +kernel
theorem dX4_of_57 : decode cX4_of 57 = .ok (.iload_n 1, 1) := by decide +kernel
theorem dX4_of_58 : decode cX4_of 58 = .ok (.invokevirtual 106, 3) := by decide +kernel
theorem dX4_of_61 : decode cX4_of 61 = .ok (.ireturn, 1) := by decide +kernel
theorem dX4_of_62 : decode cX4_of 62 = .ok (.aload_n 0, 1) := by decide +kernel
theorem dX4_of_63 : decode cX4_of 63 = .ok (.iload_n 1, 1) := by decide +kernel
theorem dX4_of_64 : decode cX4_of 64 = .ok (.invokevirtual 109, 3) := by decide +kernel
theorem dX4_of_67 : decode cX4_of 67 = .ok (.ireturn, 1) := by decide +kernel
theorem dX4_of_68 : decode cX4_of 68 = .ok (.aload_n 0, 1) := by decide +kernel
theorem dX4_of_69 : decode cX4_of 69 = .ok (.iload_n 1, 1) := by decide +kernel
theorem dX4_of_70 : decode cX4_of 70 = .ok (.invokevirtual 112, 3) := by decide +kernel
theorem dX4_of_73 : decode cX4_of 73 = .ok (.ireturn, 1) := by decide +kernel
theorem dX4_of_74 : decode cX4_of 74 = .ok (.aload_n 0, 1) := by decide +kernel
theorem dX4_of_75 : decode cX4_of 75 = .ok (.iload_n 1, 1) := by decide +kernel
theorem dX4_of_76 : decode cX4_of 76 = .ok (.invokevirtual 115, 3) := by decide +kernel
theorem dX4_of_79 : decode cX4_of 79 = .ok (.ireturn, 1) := by decide +kernel
theorem dX4_of_80 : decode cX4_of 80 = .ok (.aload_n 0, 1) := by decide +kernel
theorem dX4_of_81 : decode cX4_of 81 = .ok (.iload_n 1, 1) := by decide +kernel
theorem dX4_of_82 : decode cX4_of 82 = .ok (.iload_n 2, 1) := by decide +kernel
theorem dX4_of_83 : decode cX4_of 83 = .ok (.invokevirtual 54, 3) := by decide +kernel
theorem dX4_of_86 : decode cX4_of 86 = .ok (.ireturn, 1) := by decide +kernel
theorem dX4_mayBe_0 : decode cX4_mayBe 0 = .ok (.iload_n 0, 1) := by decide +kernel
theorem dX4_mayBe_1 : decode cX4_mayBe 1 = .ok (.tableswitch 73 0 4 #[35, 40, 45, 53, 63], 35) := by decide +kernel
theorem dX4_mayBe_36 : decode cX4_mayBe 36 = .ok (.iload_n 1, 1) := by decide +kernel
theorem dX4_mayBe_37 : decode cX4_mayBe 37 = .ok (.invokestatic 100, 3) := by decide +kernel
theorem dX4_mayBe_40 : decode cX4_mayBe 40 = .ok (.ireturn, 1) := by decide +kernel
theorem dX4_mayBe_41 : decode cX4_mayBe 41 = .ok (.iload_n 1, 1) := by decide +kernel
theorem dX4_mayBe_42 : decode cX4_mayBe 42 = .ok (.invokestatic 70, 3) := by decide +kernel
theorem dX4_mayBe_45 : decode cX4_mayBe 45 = .ok (.ireturn, 1) := by decide +kernel
theorem dX4_mayBe_46 : decode cX4_mayBe 46 = .ok (.iload_n 1, 1) := by decide +kernel
theorem dX4_mayBe_47 : decode cX4_mayBe 47 = .ok (.i2l, 1) := by decide +kernel
theorem dX4_mayBe_48 : decode cX4_mayBe 48 = .ok (.lconst 0, 1) := by decide +kernel
theorem dX4_mayBe_49 : decode cX4_mayBe 49 = .ok (.lconst 1, 1) := by decide +kernel
theorem dX4_mayBe_50 : decode cX4_mayBe 50 = .ok (.invokestatic 42, 3) := by decide +kernel
theorem dX4_mayBe_53 : decode cX4_mayBe 53 = .ok (.ireturn, 1) := by decide +kernel
theorem dX4_mayBe_54 : decode cX4_mayBe 54 = .ok (.iload_n 1, 1) := by decide +kernel
theorem dX4_mayBe_55 : decode cX4_mayBe 55 = .ok (.i2l, 1) := by decide +kernel
theorem dX4_mayBe_56 : decode cX4_mayBe 56 = .ok (.lconst 1, 1) := by decide +kernel
theorem dX4_mayBe_57 : decode cX4_mayBe 57 = .ok (.ldc2_w 52, 3) := by decide +kernel
theorem dX4_mayBe_60 : decode cX4_mayBe 60 = .ok (.invokestatic 42, 3) := by decide +kernel
theorem dX4_mayBe_63 : decode cX4_mayBe 63 = .ok (.ireturn, 1) := by decide +kernel
theorem dX4_mayBe_64 : decode cX4_mayBe 64 = .ok (.iload_n 1, 1) := by decide +kernel
theorem dX4_mayBe_65 : decode cX4_mayBe 65 = .ok (.i2l, 1) := by decide +kernel
theorem dX4_mayBe_66 : decode cX4_mayBe 66 = .ok (.lconst 1, 1) := by decide +kernel
theorem dX4_mayBe_67 : decode cX4_mayBe 67 = .ok (.ldc2_w 85, 3) := by decide +kernel
theorem dX4_mayBe_70 : decode cX4_mayBe 70 = .ok (.invokestatic 42, 3) := by decide +kernel
theorem dX4_mayBe_73 : decode cX4_mayBe 73 = .ok (.ireturn, 1) := by decide +kernel
theorem dX4_mayBe_74 : decode cX4_mayBe 74 = .ok (.iload_n 0, 1) := by decide +kernel
theorem dX4_mayBe_75 : decode cX4_mayBe 75 = .ok (.iconst 5, 1) := by decide +kernel
theorem dX4_mayBe_76 : decode cX4_mayBe 76 = .ok (.if_icmp .ne 19, 3) := by decide +kernel
theorem dX4_mayBe_79 : decode cX4_mayBe 79 = .ok (.iload_n 1, 1) := by decide +kernel
theorem dX4_mayBe_80 : decode cX4_mayBe 80 = .ok (.i2l, 1) := by decide +kernel
theorem dX4_mayBe_81 : decode cX4_mayBe 81 = .ok (.lconst 0, 1) := by decide +kernel
theorem dX4_mayBe_82 : decode cX4_mayBe 82 = .ok (.ldc2_w 118, 3) := by decide +kernel
theorem dX4_mayBe_85 : decode cX4_mayBe 85 = .ok (.invokestatic 42, 3) := by decide +kernel
theorem dX4_mayBe_88 : decode cX4_mayBe 88 = .ok (.ifCond .eq 7, 3) := by decide +kernel
theorem dX4_mayBe_91 : decode cX4_mayBe 91 = .ok (.iconst 1, 1) := by decide +kernel
theorem dX4_mayBe_92 : decode cX4_mayBe 92 = .ok (.goto 4, 3) := by decide +kernel
theorem dX4_mayBe_95 : decode cX4_mayBe 95 = .ok (.iconst 0, 1) := by decide +kernel
theorem dX4_mayBe_96 : decode cX4_mayBe 96 = .ok (.ireturn, 1) := by decide +kernel
theorem dX4_change_0 : decode cX4_change 0 = .ok (.aload_n 0, 1) := by decide +kernel
theorem dX4_change_1 : decode cX4_change 1 = .ok (.iload_n 1, 1) := by decide +kernel
theorem dX4_change_2 : decode cX4_change 2 = .ok (.invokevirtual 82, 3) := by decide +kernel
theorem dX4_change_5 : decode cX4_change 5 = .ok (.ifCond .eq 28, 3) := by decide +kernel
theorem dX4_change_8 : decode cX4_change 8 = .ok (.iload_n 2, 1) := by decide +kernel
theorem dX4_change_9 : decode cX4_change 9 = .ok (.iload_n 3, 1) := by decide +kernel
theorem dX4_change_10 : decode cX4_change 10 = .ok (.invokestatic 120, 3) := by decide +kernel
theorem dX4_change_13 : decode cX4_change 13 = .ok (.ifCond .eq 20, 3) := by decide +kernel
theorem dX4_change_16 : decode cX4_change 16 = .ok (.aload_n 0, 1) := by decide +kernel
theorem dX4_change_17 : decode cX4_change 17 = .ok (.bipush 77, 2) := by decide +kernel
theorem dX4_change_19 : decode cX4_change 19 = .ok (.bipush 6, 2) := by decide +kernel
theorem dX4_change_21 : decode cX4_change 21 = .ok (.iload_n 1, 1) := by decide +kernel
theorem dX4_change_22 : decode cX4_change 22 = .ok (.imul, 1) := by decide +kernel
theorem dX4_change_23 : decode cX4_change 23 = .ok (.iadd, 1) := by decide +kernel
theorem dX4_change_24 : decode cX4_change 24 = .ok (.iload_n 2, 1) := by decide +kernel
theorem dX4_change_25 : decode cX4_change 25 = .ok (.iadd, 1) := by decide +kernel
theorem dX4_change_26 : decode cX4_change 26 = .ok (.iload_n 3, 1) := by decide +kernel
theorem dX4_change_27 : decode cX4_change 27 = .ok (.invokevirtual 93, 3) := by decide +kernel
theorem dX4_change_30 : decode cX4_change 30 = .ok (.goto 8, 3) := by decide +kernel
theorem dX4_change_33 : decode cX4_change 33 = .ok (.aload_n 0, 1) := by decide +kernel
theorem dX4_change_34 : decode cX4_change 34 = .ok (.iconst 0, 1) := by decide +kernel
theorem dX4_change_35 : decode cX4_change 35 = .ok (.invokevirtual 76, 3) := by decide +kernel
theorem dX4_change_38 : decode cX4_change 38 = .ok (.ireturn, 1) := by decide +kernel
theorem dX4_goes_0 : decode cX4_goes 0 = .ok (.aload_n 0, 1) := by decide +kernel
theorem dX4_goes_1 : decode cX4_goes 1 = .ok (.iload_n 1, 1) := by decide +kernel
theorem dX4_goes_2 : decode cX4_goes 2 = .ok (.invokevirtual 106, 3) := by decide +kernel
theorem dX4_goes_5 : decode cX4_goes 5 = .ok (.aload_n 0, 1) := by decide +kernel
theorem dX4_goes_6 : decode cX4_goes 6 = .ok (.iload_n 1, 1) := by decide +kernel
theorem dX4_goes_7 : decode cX4_goes 7 = .ok (.iconst 2, 1) := by decide +kernel
theorem dX4_goes_8 : decode cX4_goes 8 = .ok (.invokevirtual 54, 3) := by decide +kernel
theorem dX4_goes_11 : decode cX4_goes 11 = .ok (.iconst 1, 1) := by decide +kernel
theorem dX4_goes_12 : decode cX4_goes 12 = .ok (.if_icmp .ne 7, 3) := by decide +kernel
theorem dX4_goes_15 : decode cX4_goes 15 = .ok (.iconst 1, 1) := by decide +kernel
theorem dX4_goes_16 : decode cX4_goes 16 = .ok (.goto 4, 3) := by decide +kernel
theorem dX4_goes_19 : decode cX4_goes 19 = .ok (.iconst (-1), 1) := by decide +kernel
theorem dX4_goes_20 : decode cX4_goes 20 = .ok (.imul, 1) := by decide +kernel
theorem dX4_goes_21 : decode cX4_goes 21 = .ok (.istore_n 2, 1) := by decide +kernel
theorem dX4_goes_22 : decode cX4_goes 22 = .ok (.iconst 0, 1) := by decide +kernel
theorem dX4_goes_23 : decode cX4_goes 23 = .ok (.bipush 23, 2) := by decide +kernel
theorem dX4_goes_25 : decode cX4_goes 25 = .ok (.aload_n 0, 1) := by decide +kernel
theorem dX4_goes_26 : decode cX4_goes 26 = .ok (.iload_n 1, 1) := by decide +kernel
theorem dX4_goes_27 : decode cX4_goes 27 = .ok (.iconst 1, 1) := by decide +kernel
theorem dX4_goes_28 : decode cX4_goes 28 = .ok (.invokevirtual 54, 3) := by decide +kernel
theorem dX4_goes_31 : decode cX4_goes 31 = .ok (.iload_n 2, 1) := by decide +kernel
theorem dX4_goes_32 : decode cX4_goes 32 = .ok (.iadd, 1) := by decide +kernel
theorem dX4_goes_33 : decode cX4_goes 33 = .ok (.invokestatic 63, 3) := by decide +kernel
theorem dX4_goes_36 : decode cX4_goes 36 = .ok (.invokestatic 58, 3) := by decide +kernel
theorem dX4_goes_39 : decode cX4_goes 39 = .ok (.istore_n 3, 1) := by decide +kernel
theorem dX4_goes_40 : decode cX4_goes 40 = .ok (.aload_n 0, 1) := by decide +kernel
theorem dX4_goes_41 : decode cX4_goes 41 = .ok (.getfield 9, 3) := by decide +kernel
theorem dX4_goes_44 : decode cX4_goes 44 = .ok (.iconst 5, 1) := by decide +kernel
theorem dX4_goes_45 : decode cX4_goes 45 = .ok (.iload_n 3, 1) := by decide +kernel
theorem dX4_goes_46 : decode cX4_goes 46 = .ok (.iadd, 1) := by decide +kernel
theorem dX4_goes_47 : decode cX4_goes 47 = .ok (.iaload, 1) := by decide +kernel
theorem dX4_goes_48 : decode cX4_goes 48 = .ok (.istore 4, 2) := by decide +kernel
theorem dX4_goes_50 : decode cX4_goes 50 = .ok (.iload 4, 2) := by decide +kernel
theorem dX4_goes_52 : decode cX4_goes 52 = .ok (.ifCond .lt 28, 3) := by decide +kernel
theorem dX4_goes_55 : decode cX4_goes 55 = .ok (.iload 4, 2) := by decide +kernel
theorem dX4_goes_57 : decode cX4_goes 57 = .ok (.iload_n 1, 1) := by decide +kernel
theorem dX4_goes_58 : decode cX4_goes 58 = .ok (.if_icmp .eq 22, 3) := by decide +kernel
theorem dX4_goes_61 : decode cX4_goes 61 = .ok (.aload_n 0, 1) := by decide +kernel
theorem dX4_goes_62 : decode cX4_goes 62 = .ok (.getfield 9, 3) := by decide +kernel
theorem dX4_goes_65 : decode cX4_goes 65 = .ok (.iconst 4, 1) := by decide +kernel
theorem dX4_goes_66 : decode cX4_goes 66 = .ok (.ldc 124, 2) := by decide +kernel
theorem dX4_goes_68 : decode cX4_goes 68 = .ok (.aload_n 0, 1) := by decide +kernel
theorem dX4_goes_69 : decode cX4_goes 69 = .ok (.getfield 9, 3) := by decide +kernel
theorem dX4_goes_72 : decode cX4_goes 72 = .ok (.iconst 4, 1) := by decide +kernel
theorem dX4_goes_73 : decode cX4_goes 73 = .ok (.iaload, 1) := by decide +kernel
theorem dX4_goes_74 : decode cX4_goes 74 = .ok (.iconst 1, 1) := by decide +kernel
theorem dX4_goes_75 : decode cX4_goes 75 = .ok (.iadd, 1) := by decide +kernel
theorem dX4_goes_76 : decode cX4_goes 76 = .ok (.invokestatic 63, 3) := by decide +kernel
theorem dX4_goes_79 : decode cX4_goes 79 = .ok (.iastore, 1) := by decide +kernel
theorem dX4_goes_80 : decode cX4_goes 80 = .ok (.aload_n 0, 1) := by decide +kernel
theorem dX4_goes_81 : decode cX4_goes 81 = .ok (.iload_n 3, 1) := by decide +kernel
theorem dX4_goes_82 : decode cX4_goes 82 = .ok (.iload_n 1, 1) := by decide +kernel
theorem dX4_goes_83 : decode cX4_goes 83 = .ok (.aload_n 0, 1) := by decide +kernel
theorem dX4_goes_84 : decode cX4_goes 84 = .ok (.iload_n 1, 1) := by decide +kernel
theorem dX4_goes_85 : decode cX4_goes 85 = .ok (.invokevirtual 109, 3) := by decide +kernel
theorem dX4_goes_88 : decode cX4_goes 88 = .ok (.aload_n 0, 1) := by decide +kernel
theorem dX4_goes_89 : decode cX4_goes 89 = .ok (.iload_n 1, 1) := by decide +kernel
theorem dX4_goes_90 : decode cX4_goes 90 = .ok (.invokevirtual 112, 3) := by decide +kernel
theorem dX4_goes_93 : decode cX4_goes 93 = .ok (.invokevirtual 87, 3) := by decide +kernel
theorem dX4_goes_96 : decode cX4_goes 96 = .ok (.iload_n 3, 1) := by decide +kernel
theorem dX4_goes_97 : decode cX4_goes 97 = .ok (.aload_n 0, 1) := by decide +kernel
theorem dX4_goes_98 : decode cX4_goes 98 = .ok (.iload_n 1, 1) := by decide +kernel
theorem dX4_goes_99 : decode cX4_goes 99 = .ok (.iconst 1, 1) := by decide +kernel
theorem dX4_goes_100 : decode cX4_goes 100 = .ok (.invokevirtual 54, 3) := by decide +kernel
theorem dX4_goes_103 : decode cX4_goes 103 = .ok (.iload_n 2, 1) := by decide +kernel
theorem dX4_goes_104 : decode cX4_goes 104 = .ok (.iadd, 1) := by decide +kernel
theorem dX4_goes_105 : decode cX4_goes 105 = .ok (.if_icmp .eq 17, 3) := by decide +kernel
theorem dX4_goes_108 : decode cX4_goes 108 = .ok (.aload_n 0, 1) := by decide +kernel
theorem dX4_goes_109 : decode cX4_goes 109 = .ok (.iload_n 1, 1) := by decide +kernel
theorem dX4_goes_110 : decode cX4_goes 110 = .ok (.iconst 2, 1) := by decide +kernel
theorem dX4_goes_111 : decode cX4_goes 111 = .ok (.iconst 1, 1) := by decide +kernel
theorem dX4_goes_112 : decode cX4_goes 112 = .ok (.aload_n 0, 1) := by decide +kernel
theorem dX4_goes_113 : decode cX4_goes 113 = .ok (.iload_n 1, 1) := by decide +kernel
theorem dX4_goes_114 : decode cX4_goes 114 = .ok (.iconst 2, 1) := by decide +kernel
theorem dX4_goes_115 : decode cX4_goes 115 = .ok (.invokevirtual 54, 3) := by decide +kernel
theorem dX4_goes_118 : decode cX4_goes 118 = .ok (.isub, 1) := by decide +kernel
theorem dX4_goes_119 : decode cX4_goes 119 = .ok (.invokevirtual 66, 3) := by decide +kernel
theorem dX4_goes_122 : decode cX4_goes 122 = .ok (.aload_n 0, 1) := by decide +kernel
theorem dX4_goes_123 : decode cX4_goes 123 = .ok (.iload_n 1, 1) := by decide +kernel
theorem dX4_goes_124 : decode cX4_goes 124 = .ok (.iconst 1, 1) := by decide +kernel
theorem dX4_goes_125 : decode cX4_goes 125 = .ok (.iload_n 3, 1) := by decide +kernel
theorem dX4_goes_126 : decode cX4_goes 126 = .ok (.invokevirtual 66, 3) := by decide +kernel
theorem dX4_goes_129 : decode cX4_goes 129 = .ok (.aload_n 0, 1) := by decide +kernel
theorem dX4_goes_130 : decode cX4_goes 130 = .ok (.iload_n 1, 1) := by decide +kernel
theorem dX4_goes_131 : decode cX4_goes 131 = .ok (.iconst 5, 1) := by decide +kernel
theorem dX4_goes_132 : decode cX4_goes 132 = .ok (.ldc 124, 2) := by decide +kernel
theorem dX4_goes_134 : decode cX4_goes 134 = .ok (.aload_n 0, 1) := by decide +kernel
theorem dX4_goes_135 : decode cX4_goes 135 = .ok (.iload_n 1, 1) := by decide +kernel
theorem dX4_goes_136 : decode cX4_goes 136 = .ok (.iconst 5, 1) := by decide +kernel
theorem dX4_goes_137 : decode cX4_goes 137 = .ok (.invokevirtual 54, 3) := by decide +kernel
theorem dX4_goes_140 : decode cX4_goes 140 = .ok (.iconst 1, 1) := by decide +kernel
theorem dX4_goes_141 : decode cX4_goes 141 = .ok (.iadd, 1) := by decide +kernel
theorem dX4_goes_142 : decode cX4_goes 142 = .ok (.invokestatic 63, 3) := by decide +kernel
theorem dX4_goes_145 : decode cX4_goes 145 = .ok (.invokevirtual 66, 3) := by decide +kernel
theorem dX4_goes_148 : decode cX4_goes 148 = .ok (.return_, 1) := by decide +kernel
theorem dX4_anHour_0 : decode cX4_anHour 0 = .ok (.iconst 0, 1) := by decide +kernel
theorem dX4_anHour_1 : decode cX4_anHour 1 = .ok (.istore_n 1, 1) := by decide +kernel
theorem dX4_anHour_2 : decode cX4_anHour 2 = .ok (.iload_n 1, 1) := by decide +kernel
theorem dX4_anHour_3 : decode cX4_anHour 3 = .ok (.aload_n 0, 1) := by decide +kernel
theorem dX4_anHour_4 : decode cX4_anHour 4 = .ok (.getfield 9, 3) := by decide +kernel
theorem dX4_anHour_7 : decode cX4_anHour 7 = .ok (.iconst 2, 1) := by decide +kernel
theorem dX4_anHour_8 : decode cX4_anHour 8 = .ok (.iaload, 1) := by decide +kernel
theorem dX4_anHour_9 : decode cX4_anHour 9 = .ok (.if_icmp .ge 25, 3) := by decide +kernel
theorem dX4_anHour_12 : decode cX4_anHour 12 = .ok (.aload_n 0, 1) := by decide +kernel
theorem dX4_anHour_13 : decode cX4_anHour 13 = .ok (.getfield 125, 3) := by decide +kernel
theorem dX4_anHour_16 : decode cX4_anHour 16 = .ok (.iload_n 1, 1) := by decide +kernel
theorem dX4_anHour_17 : decode cX4_anHour 17 = .ok (.ishr, 1) := by decide +kernel
theorem dX4_anHour_18 : decode cX4_anHour 18 = .ok (.iconst 1, 1) := by decide +kernel
theorem dX4_anHour_19 : decode cX4_anHour 19 = .ok (.iand, 1) := by decide +kernel
theorem dX4_anHour_20 : decode cX4_anHour 20 = .ok (.ifCond .ne 8, 3) := by decide +kernel
theorem dX4_anHour_23 : decode cX4_anHour 23 = .ok (.aload_n 0, 1) := by decide +kernel
theorem dX4_anHour_24 : decode cX4_anHour 24 = .ok (.iload_n 1, 1) := by decide +kernel
theorem dX4_anHour_25 : decode cX4_anHour 25 = .ok (.invokevirtual 129, 3) := by decide +kernel
theorem dX4_anHour_28 : decode cX4_anHour 28 = .ok (.iinc 1 1, 3) := by decide +kernel
theorem dX4_anHour_31 : decode cX4_anHour 31 = .ok (.goto (-29), 3) := by decide +kernel
theorem dX4_anHour_34 : decode cX4_anHour 34 = .ok (.aload_n 0, 1) := by decide +kernel
theorem dX4_anHour_35 : decode cX4_anHour 35 = .ok (.getfield 9, 3) := by decide +kernel
theorem dX4_anHour_38 : decode cX4_anHour 38 = .ok (.iconst 0, 1) := by decide +kernel
theorem dX4_anHour_39 : decode cX4_anHour 39 = .ok (.dup2, 1) := by decide +kernel
theorem dX4_anHour_40 : decode cX4_anHour 40 = .ok (.iaload, 1) := by decide +kernel
theorem dX4_anHour_41 : decode cX4_anHour 41 = .ok (.iconst 1, 1) := by decide +kernel
theorem dX4_anHour_42 : decode cX4_anHour 42 = .ok (.iadd, 1) := by decide +kernel
theorem dX4_anHour_43 : decode cX4_anHour 43 = .ok (.iastore, 1) := by decide +kernel
theorem dX4_anHour_44 : decode cX4_anHour 44 = .ok (.aload_n 0, 1) := by decide +kernel
theorem dX4_anHour_45 : decode cX4_anHour 45 = .ok (.getfield 9, 3) := by decide +kernel
theorem dX4_anHour_48 : decode cX4_anHour 48 = .ok (.iconst 0, 1) := by decide +kernel
theorem dX4_anHour_49 : decode cX4_anHour 49 = .ok (.iaload, 1) := by decide +kernel
theorem dX4_anHour_50 : decode cX4_anHour 50 = .ok (.bipush 6, 2) := by decide +kernel
theorem dX4_anHour_52 : decode cX4_anHour 52 = .ok (.irem, 1) := by decide +kernel
theorem dX4_anHour_53 : decode cX4_anHour 53 = .ok (.ifCond .ne 8, 3) := by decide +kernel
theorem dX4_anHour_56 : decode cX4_anHour 56 = .ok (.aload_n 0, 1) := by decide +kernel
theorem dX4_anHour_57 : decode cX4_anHour 57 = .ok (.invokevirtual 96, 3) := by decide +kernel
theorem dX4_anHour_60 : decode cX4_anHour 60 = .ok (.istore_n 1, 1) := by decide +kernel
theorem dX4_anHour_61 : decode cX4_anHour 61 = .ok (.return_, 1) := by decide +kernel
theorem dX4_hours_0 : decode cX4_hours 0 = .ok (.iconst 0, 1) := by decide +kernel
theorem dX4_hours_1 : decode cX4_hours 1 = .ok (.istore_n 2, 1) := by decide +kernel
theorem dX4_hours_2 : decode cX4_hours 2 = .ok (.iload_n 2, 1) := by decide +kernel
theorem dX4_hours_3 : decode cX4_hours 3 = .ok (.iload_n 1, 1) := by decide +kernel
theorem dX4_hours_4 : decode cX4_hours 4 = .ok (.if_icmp .ge 13, 3) := by decide +kernel
theorem dX4_hours_7 : decode cX4_hours 7 = .ok (.aload_n 0, 1) := by decide +kernel
theorem dX4_hours_8 : decode cX4_hours 8 = .ok (.invokevirtual 133, 3) := by decide +kernel
theorem dX4_hours_11 : decode cX4_hours 11 = .ok (.iinc 2 1, 3) := by decide +kernel
theorem dX4_hours_14 : decode cX4_hours 14 = .ok (.goto (-12), 3) := by decide +kernel
theorem dX4_hours_17 : decode cX4_hours 17 = .ok (.return_, 1) := by decide +kernel
theorem dX4_printed_0 : decode cX4_printed 0 = .ok (.iconst 0, 1) := by decide +kernel
theorem dX4_printed_1 : decode cX4_printed 1 = .ok (.istore_n 1, 1) := by decide +kernel
theorem dX4_printed_2 : decode cX4_printed 2 = .ok (.iconst 0, 1) := by decide +kernel
theorem dX4_printed_3 : decode cX4_printed 3 = .ok (.istore_n 2, 1) := by decide +kernel
theorem dX4_printed_4 : decode cX4_printed 4 = .ok (.iload_n 2, 1) := by decide +kernel
theorem dX4_printed_5 : decode cX4_printed 5 = .ok (.bipush 24, 2) := by decide +kernel
theorem dX4_printed_7 : decode cX4_printed 7 = .ok (.if_icmp .ge 30, 3) := by decide +kernel
theorem dX4_printed_10 : decode cX4_printed 10 = .ok (.iload_n 1, 1) := by decide +kernel
theorem dX4_printed_11 : decode cX4_printed 11 = .ok (.aload_n 0, 1) := by decide +kernel
theorem dX4_printed_12 : decode cX4_printed 12 = .ok (.getfield 9, 3) := by decide +kernel
theorem dX4_printed_15 : decode cX4_printed 15 = .ok (.iconst 5, 1) := by decide +kernel
theorem dX4_printed_16 : decode cX4_printed 16 = .ok (.iload_n 2, 1) := by decide +kernel
theorem dX4_printed_17 : decode cX4_printed 17 = .ok (.iadd, 1) := by decide +kernel
theorem dX4_printed_18 : decode cX4_printed 18 = .ok (.iaload, 1) := by decide +kernel
theorem dX4_printed_19 : decode cX4_printed 19 = .ok (.ifCond .lt 9, 3) := by decide +kernel
theorem dX4_printed_22 : decode cX4_printed 22 = .ok (.iconst 1, 1) := by decide +kernel
theorem dX4_printed_23 : decode cX4_printed 23 = .ok (.iload_n 2, 1) := by decide +kernel
theorem dX4_printed_24 : decode cX4_printed 24 = .ok (.ishl, 1) := by decide +kernel
theorem dX4_printed_25 : decode cX4_printed 25 = .ok (.goto 4, 3) := by decide +kernel
theorem dX4_printed_28 : decode cX4_printed 28 = .ok (.iconst 0, 1) := by decide +kernel
theorem dX4_printed_29 : decode cX4_printed 29 = .ok (.ior, 1) := by decide +kernel
theorem dX4_printed_30 : decode cX4_printed 30 = .ok (.istore_n 1, 1) := by decide +kernel
theorem dX4_printed_31 : decode cX4_printed 31 = .ok (.iinc 2 1, 3) := by decide +kernel
theorem dX4_printed_34 : decode cX4_printed 34 = .ok (.goto (-30), 3) := by decide +kernel
theorem dX4_printed_37 : decode cX4_printed 37 = .ok (.iload_n 1, 1) := by decide +kernel
theorem dX4_printed_38 : decode cX4_printed 38 = .ok (.ireturn, 1) := by decide +kernel
theorem dX4_go_0 : decode cX4_go 0 = .ok (.iload_n 1, 1) := by decide +kernel
theorem dX4_go_1 : decode cX4_go 1 = .ok (.i2l, 1) := by decide +kernel
theorem dX4_go_2 : decode cX4_go 2 = .ok (.lconst 1, 1) := by decide +kernel
theorem dX4_go_3 : decode cX4_go 3 = .ok (.ldc2_w 136, 3) := by decide +kernel
theorem dX4_go_6 : decode cX4_go 6 = .ok (.invokestatic 42, 3) := by decide +kernel
theorem dX4_go_9 : decode cX4_go 9 = .ok (.ifCond .ne 9, 3) := by decide +kernel
theorem dX4_go_12 : decode cX4_go 12 = .ok (.aload_n 0, 1) := by decide +kernel
theorem dX4_go_13 : decode cX4_go 13 = .ok (.iconst 0, 1) := by decide +kernel
theorem dX4_go_14 : decode cX4_go 14 = .ok (.invokevirtual 76, 3) := by decide +kernel
theorem dX4_go_17 : decode cX4_go 17 = .ok (.ireturn, 1) := by decide +kernel
theorem dX4_go_18 : decode cX4_go 18 = .ok (.aload_n 0, 1) := by decide +kernel
theorem dX4_go_19 : decode cX4_go 19 = .ok (.getfield 9, 3) := by decide +kernel
theorem dX4_go_22 : decode cX4_go 22 = .ok (.iconst 0, 1) := by decide +kernel
theorem dX4_go_23 : decode cX4_go 23 = .ok (.iaload, 1) := by decide +kernel
theorem dX4_go_24 : decode cX4_go 24 = .ok (.iload_n 1, 1) := by decide +kernel
theorem dX4_go_25 : decode cX4_go 25 = .ok (.iadd, 1) := by decide +kernel
theorem dX4_go_26 : decode cX4_go 26 = .ok (.ldc 124, 2) := by decide +kernel
theorem dX4_go_28 : decode cX4_go 28 = .ok (.if_icmp .le 9, 3) := by decide +kernel
theorem dX4_go_31 : decode cX4_go 31 = .ok (.aload_n 0, 1) := by decide +kernel
theorem dX4_go_32 : decode cX4_go 32 = .ok (.iconst 4, 1) := by decide +kernel
theorem dX4_go_33 : decode cX4_go 33 = .ok (.invokevirtual 76, 3) := by decide +kernel
theorem dX4_go_36 : decode cX4_go 36 = .ok (.ireturn, 1) := by decide +kernel
theorem dX4_go_37 : decode cX4_go 37 = .ok (.aload_n 0, 1) := by decide +kernel
theorem dX4_go_38 : decode cX4_go 38 = .ok (.iload_n 1, 1) := by decide +kernel
theorem dX4_go_39 : decode cX4_go 39 = .ok (.invokevirtual 138, 3) := by decide +kernel
theorem dX4_go_42 : decode cX4_go 42 = .ok (.aload_n 0, 1) := by decide +kernel
theorem dX4_go_43 : decode cX4_go 43 = .ok (.invokevirtual 141, 3) := by decide +kernel
theorem dX4_go_46 : decode cX4_go 46 = .ok (.invokestatic 144, 3) := by decide +kernel
theorem dX4_go_49 : decode cX4_go 49 = .ok (.ireturn, 1) := by decide +kernel
theorem dX4_depths_0 : decode cX4_depths 0 = .ok (.iconst 0, 1) := by decide +kernel
theorem dX4_depths_1 : decode cX4_depths 1 = .ok (.istore_n 1, 1) := by decide +kernel
theorem dX4_depths_2 : decode cX4_depths 2 = .ok (.iconst 0, 1) := by decide +kernel
theorem dX4_depths_3 : decode cX4_depths 3 = .ok (.istore_n 2, 1) := by decide +kernel
theorem dX4_depths_4 : decode cX4_depths 4 = .ok (.iload_n 2, 1) := by decide +kernel
theorem dX4_depths_5 : decode cX4_depths 5 = .ok (.bipush 24, 2) := by decide +kernel
theorem dX4_depths_7 : decode cX4_depths 7 = .ok (.if_icmp .ge 21, 3) := by decide +kernel
theorem dX4_depths_10 : decode cX4_depths 10 = .ok (.iload_n 1, 1) := by decide +kernel
theorem dX4_depths_11 : decode cX4_depths 11 = .ok (.aload_n 0, 1) := by decide +kernel
theorem dX4_depths_12 : decode cX4_depths 12 = .ok (.getfield 9, 3) := by decide +kernel
theorem dX4_depths_15 : decode cX4_depths 15 = .ok (.bipush 29, 2) := by decide +kernel
theorem dX4_depths_17 : decode cX4_depths 17 = .ok (.iload_n 2, 1) := by decide +kernel
theorem dX4_depths_18 : decode cX4_depths 18 = .ok (.iadd, 1) := by decide +kernel
theorem dX4_depths_19 : decode cX4_depths 19 = .ok (.iaload, 1) := by decide +kernel
theorem dX4_depths_20 : decode cX4_depths 20 = .ok (.iadd, 1) := by decide +kernel
theorem dX4_depths_21 : decode cX4_depths 21 = .ok (.istore_n 1, 1) := by decide +kernel
theorem dX4_depths_22 : decode cX4_depths 22 = .ok (.iinc 2 1, 3) := by decide +kernel
theorem dX4_depths_25 : decode cX4_depths 25 = .ok (.goto (-21), 3) := by decide +kernel
theorem dX4_depths_28 : decode cX4_depths 28 = .ok (.iload_n 1, 1) := by decide +kernel
theorem dX4_depths_29 : decode cX4_depths 29 = .ok (.ireturn, 1) := by decide +kernel
theorem dX4_greatest_0 : decode cX4_greatest 0 = .ok (.iconst (-1), 1) := by decide +kernel
theorem dX4_greatest_1 : decode cX4_greatest 1 = .ok (.istore_n 1, 1) := by decide +kernel
theorem dX4_greatest_2 : decode cX4_greatest 2 = .ok (.iconst 0, 1) := by decide +kernel
theorem dX4_greatest_3 : decode cX4_greatest 3 = .ok (.istore_n 2, 1) := by decide +kernel
theorem dX4_greatest_4 : decode cX4_greatest 4 = .ok (.iload_n 2, 1) := by decide +kernel
theorem dX4_greatest_5 : decode cX4_greatest 5 = .ok (.aload_n 0, 1) := by decide +kernel
theorem dX4_greatest_6 : decode cX4_greatest 6 = .ok (.getfield 9, 3) := by decide +kernel
theorem dX4_greatest_9 : decode cX4_greatest 9 = .ok (.iconst 2, 1) := by decide +kernel
theorem dX4_greatest_10 : decode cX4_greatest 10 = .ok (.iaload, 1) := by decide +kernel
theorem dX4_greatest_11 : decode cX4_greatest 11 = .ok (.if_icmp .ge 38, 3) := by decide +kernel
theorem dX4_greatest_14 : decode cX4_greatest 14 = .ok (.iload_n 1, 1) := by decide +kernel
theorem dX4_greatest_15 : decode cX4_greatest 15 = .ok (.ifCond .lt 22, 3) := by decide +kernel
theorem dX4_greatest_18 : decode cX4_greatest 18 = .ok (.aload_n 0, 1) := by decide +kernel
theorem dX4_greatest_19 : decode cX4_greatest 19 = .ok (.iload_n 2, 1) := by decide +kernel
theorem dX4_greatest_20 : decode cX4_greatest 20 = .ok (.invokevirtual 115, 3) := by decide +kernel
theorem dX4_greatest_23 : decode cX4_greatest 23 = .ok (.invokestatic 144, 3) := by decide +kernel
theorem dX4_greatest_26 : decode cX4_greatest 26 = .ok (.aload_n 0, 1) := by decide +kernel
theorem dX4_greatest_27 : decode cX4_greatest 27 = .ok (.iload_n 1, 1) := by decide +kernel
theorem dX4_greatest_28 : decode cX4_greatest 28 = .ok (.invokevirtual 115, 3) := by decide +kernel
theorem dX4_greatest_31 : decode cX4_greatest 31 = .ok (.invokestatic 144, 3) := by decide +kernel
theorem dX4_greatest_34 : decode cX4_greatest 34 = .ok (.if_icmp .le 7, 3) := by decide +kernel
theorem dX4_greatest_37 : decode cX4_greatest 37 = .ok (.iload_n 2, 1) := by decide +kernel
theorem dX4_greatest_38 : decode cX4_greatest 38 = .ok (.goto 4, 3) := by decide +kernel
theorem dX4_greatest_41 : decode cX4_greatest 41 = .ok (.iload_n 1, 1) := by decide +kernel
theorem dX4_greatest_42 : decode cX4_greatest 42 = .ok (.istore_n 1, 1) := by decide +kernel
theorem dX4_greatest_43 : decode cX4_greatest 43 = .ok (.iinc 2 1, 3) := by decide +kernel
theorem dX4_greatest_46 : decode cX4_greatest 46 = .ok (.goto (-42), 3) := by decide +kernel
theorem dX4_greatest_49 : decode cX4_greatest 49 = .ok (.iload_n 1, 1) := by decide +kernel
theorem dX4_greatest_50 : decode cX4_greatest 50 = .ok (.ireturn, 1) := by decide +kernel
theorem dX4_allSteps_0 : decode cX4_allSteps 0 = .ok (.iconst 0, 1) := by decide +kernel
theorem dX4_allSteps_1 : decode cX4_allSteps 1 = .ok (.istore_n 1, 1) := by decide +kernel
theorem dX4_allSteps_2 : decode cX4_allSteps 2 = .ok (.iconst 0, 1) := by decide +kernel
theorem dX4_allSteps_3 : decode cX4_allSteps 3 = .ok (.istore_n 2, 1) := by decide +kernel
theorem dX4_allSteps_4 : decode cX4_allSteps 4 = .ok (.iload_n 2, 1) := by decide +kernel
theorem dX4_allSteps_5 : decode cX4_allSteps 5 = .ok (.aload_n 0, 1) := by decide +kernel
theorem dX4_allSteps_6 : decode cX4_allSteps 6 = .ok (.getfield 9, 3) := by decide +kernel
theorem dX4_allSteps_9 : decode cX4_allSteps 9 = .ok (.iconst 2, 1) := by decide +kernel
theorem dX4_allSteps_10 : decode cX4_allSteps 10 = .ok (.iaload, 1) := by decide +kernel
theorem dX4_allSteps_11 : decode cX4_allSteps 11 = .ok (.if_icmp .ge 18, 3) := by decide +kernel
theorem dX4_allSteps_14 : decode cX4_allSteps 14 = .ok (.iload_n 1, 1) := by decide +kernel
theorem dX4_allSteps_15 : decode cX4_allSteps 15 = .ok (.aload_n 0, 1) := by decide +kernel
theorem dX4_allSteps_16 : decode cX4_allSteps 16 = .ok (.iload_n 2, 1) := by decide +kernel
theorem dX4_allSteps_17 : decode cX4_allSteps 17 = .ok (.iconst 5, 1) := by decide +kernel
theorem dX4_allSteps_18 : decode cX4_allSteps 18 = .ok (.invokevirtual 54, 3) := by decide +kernel
theorem dX4_allSteps_21 : decode cX4_allSteps 21 = .ok (.iadd, 1) := by decide +kernel
theorem dX4_allSteps_22 : decode cX4_allSteps 22 = .ok (.istore_n 1, 1) := by decide +kernel
theorem dX4_allSteps_23 : decode cX4_allSteps 23 = .ok (.iinc 2 1, 3) := by decide +kernel
theorem dX4_allSteps_26 : decode cX4_allSteps 26 = .ok (.goto (-22), 3) := by decide +kernel
theorem dX4_allSteps_29 : decode cX4_allSteps 29 = .ok (.iload_n 1, 1) := by decide +kernel
theorem dX4_allSteps_30 : decode cX4_allSteps 30 = .ok (.ireturn, 1) := by decide +kernel
theorem dX4_now_0 : decode cX4_now 0 = .ok (.iload_n 1, 1) := by decide +kernel
theorem dX4_now_1 : decode cX4_now 1 = .ok (.tableswitch 85 0 6 #[43, 50, 58, 65, 70, 75, 80], 43) := by decide +kernel
theorem dX4_now_44 : decode cX4_now 44 = .ok (.aload_n 0, 1) := by decide +kernel
theorem dX4_now_45 : decode cX4_now 45 = .ok (.getfield 9, 3) := by decide +kernel
theorem dX4_now_48 : decode cX4_now 48 = .ok (.iconst 0, 1) := by decide +kernel
theorem dX4_now_49 : decode cX4_now 49 = .ok (.iaload, 1) := by decide +kernel
theorem dX4_now_50 : decode cX4_now 50 = .ok (.ireturn, 1) := by decide +kernel
theorem dX4_now_51 : decode cX4_now 51 = .ok (.aload_n 0, 1) := by decide +kernel
theorem dX4_now_52 : decode cX4_now 52 = .ok (.invokevirtual 141, 3) := by decide +kernel
theorem dX4_now_55 : decode cX4_now 55 = .ok (.invokestatic 144, 3) := by decide +kernel
theorem dX4_now_58 : decode cX4_now 58 = .ok (.ireturn, 1) := by decide +kernel
theorem dX4_now_59 : decode cX4_now 59 = .ok (.aload_n 0, 1) := by decide +kernel
theorem dX4_now_60 : decode cX4_now 60 = .ok (.getfield 9, 3) := by decide +kernel
theorem dX4_now_63 : decode cX4_now 63 = .ok (.iconst 4, 1) := by decide +kernel
theorem dX4_now_64 : decode cX4_now 64 = .ok (.iaload, 1) := by decide +kernel
theorem dX4_now_65 : decode cX4_now 65 = .ok (.ireturn, 1) := by decide +kernel
theorem dX4_now_66 : decode cX4_now 66 = .ok (.aload_n 0, 1) := by decide +kernel
theorem dX4_now_67 : decode cX4_now 67 = .ok (.invokevirtual 141, 3) := by decide +kernel
theorem dX4_now_70 : decode cX4_now 70 = .ok (.ireturn, 1) := by decide +kernel
theorem dX4_now_71 : decode cX4_now 71 = .ok (.aload_n 0, 1) := by decide +kernel
theorem dX4_now_72 : decode cX4_now 72 = .ok (.invokevirtual 147, 3) := by decide +kernel
theorem dX4_now_75 : decode cX4_now 75 = .ok (.ireturn, 1) := by decide +kernel
theorem dX4_now_76 : decode cX4_now 76 = .ok (.aload_n 0, 1) := by decide +kernel
theorem dX4_now_77 : decode cX4_now 77 = .ok (.invokevirtual 150, 3) := by decide +kernel
theorem dX4_now_80 : decode cX4_now 80 = .ok (.ireturn, 1) := by decide +kernel
theorem dX4_now_81 : decode cX4_now 81 = .ok (.aload_n 0, 1) := by decide +kernel
theorem dX4_now_82 : decode cX4_now 82 = .ok (.invokevirtual 153, 3) := by decide +kernel
theorem dX4_now_85 : decode cX4_now 85 = .ok (.ireturn, 1) := by decide +kernel
theorem dX4_now_86 : decode cX4_now 86 = .ok (.aload_n 0, 1) := by decide +kernel
theorem dX4_now_87 : decode cX4_now 87 = .ok (.iconst 0, 1) := by decide +kernel
theorem dX4_now_88 : decode cX4_now 88 = .ok (.invokevirtual 76, 3) := by decide +kernel
theorem dX4_now_91 : decode cX4_now 91 = .ok (.ireturn, 1) := by decide +kernel
theorem dX4_line_0 : decode cX4_line 0 = .ok (.aload_n 0, 1) := by decide +kernel
theorem dX4_line_1 : decode cX4_line 1 = .ok (.iload_n 1, 1) := by decide +kernel
theorem dX4_line_2 : decode cX4_line 2 = .ok (.invokevirtual 82, 3) := by decide +kernel
theorem dX4_line_5 : decode cX4_line 5 = .ok (.ifCond .ne 9, 3) := by decide +kernel
theorem dX4_line_8 : decode cX4_line 8 = .ok (.aload_n 0, 1) := by decide +kernel
theorem dX4_line_9 : decode cX4_line 9 = .ok (.iconst 0, 1) := by decide +kernel
theorem dX4_line_10 : decode cX4_line 10 = .ok (.invokevirtual 76, 3) := by decide +kernel
theorem dX4_line_13 : decode cX4_line 13 = .ok (.ireturn, 1) := by decide +kernel
theorem dX4_line_14 : decode cX4_line 14 = .ok (.iconst 0, 1) := by decide +kernel
theorem dX4_line_15 : decode cX4_line 15 = .ok (.istore_n 2, 1) := by decide +kernel
theorem dX4_line_16 : decode cX4_line 16 = .ok (.iconst 0, 1) := by decide +kernel
theorem dX4_line_17 : decode cX4_line 17 = .ok (.istore_n 3, 1) := by decide +kernel
theorem dX4_line_18 : decode cX4_line 18 = .ok (.iconst 0, 1) := by decide +kernel
theorem dX4_line_19 : decode cX4_line 19 = .ok (.istore 4, 2) := by decide +kernel
theorem dX4_line_21 : decode cX4_line 21 = .ok (.iload 4, 2) := by decide +kernel
theorem dX4_line_23 : decode cX4_line 23 = .ok (.bipush 24, 2) := by decide +kernel
theorem dX4_line_25 : decode cX4_line 25 = .ok (.if_icmp .ge 36, 3) := by decide +kernel
theorem dX4_line_28 : decode cX4_line 28 = .ok (.aload_n 0, 1) := by decide +kernel
theorem dX4_line_29 : decode cX4_line 29 = .ok (.getfield 9, 3) := by decide +kernel
theorem dX4_line_32 : decode cX4_line 32 = .ok (.iconst 5, 1) := by decide +kernel
theorem dX4_line_33 : decode cX4_line 33 = .ok (.iload 4, 2) := by decide +kernel
theorem dX4_line_35 : decode cX4_line 35 = .ok (.iadd, 1) := by decide +kernel
theorem dX4_line_36 : decode cX4_line 36 = .ok (.iaload, 1) := by decide +kernel
theorem dX4_line_37 : decode cX4_line 37 = .ok (.iload_n 1, 1) := by decide +kernel
theorem dX4_line_38 : decode cX4_line 38 = .ok (.if_icmp .ne 9, 3) := by decide +kernel
theorem dX4_line_41 : decode cX4_line 41 = .ok (.iload_n 3, 1) := by decide +kernel
theorem dX4_line_42 : decode cX4_line 42 = .ok (.iconst 1, 1) := by decide +kernel
theorem dX4_line_43 : decode cX4_line 43 = .ok (.iadd, 1) := by decide +kernel
theorem dX4_line_44 : decode cX4_line 44 = .ok (.goto 4, 3) := by decide +kernel
theorem dX4_line_47 : decode cX4_line 47 = .ok (.iconst 0, 1) := by decide +kernel
theorem dX4_line_48 : decode cX4_line 48 = .ok (.istore_n 3, 1) := by decide +kernel
theorem dX4_line_49 : decode cX4_line 49 = .ok (.iload_n 2, 1) := by decide +kernel
theorem dX4_line_50 : decode cX4_line 50 = .ok (.iload_n 3, 1) := by decide +kernel
theorem dX4_line_51 : decode cX4_line 51 = .ok (.invokestatic 58, 3) := by decide +kernel
theorem dX4_line_54 : decode cX4_line 54 = .ok (.istore_n 2, 1) := by decide +kernel
theorem dX4_line_55 : decode cX4_line 55 = .ok (.iinc 4 1, 3) := by decide +kernel
theorem dX4_line_58 : decode cX4_line 58 = .ok (.goto (-37), 3) := by decide +kernel
theorem dX4_line_61 : decode cX4_line 61 = .ok (.iload_n 2, 1) := by decide +kernel
theorem dX4_line_62 : decode cX4_line 62 = .ok (.ireturn, 1) := by decide +kernel
theorem dX4_isAhead_0 : decode cX4_isAhead 0 = .ok (.iload_n 0, 1) := by decide +kernel
theorem dX4_isAhead_1 : decode cX4_isAhead 1 = .ok (.i2l, 1) := by decide +kernel
theorem dX4_isAhead_2 : decode cX4_isAhead 2 = .ok (.lconst 0, 1) := by decide +kernel
theorem dX4_isAhead_3 : decode cX4_isAhead 3 = .ok (.ldc2_w 156, 3) := by decide +kernel
theorem dX4_isAhead_6 : decode cX4_isAhead 6 = .ok (.invokestatic 42, 3) := by decide +kernel
theorem dX4_isAhead_9 : decode cX4_isAhead 9 = .ok (.ireturn, 1) := by decide +kernel
theorem dX4_isSoon_0 : decode cX4_isSoon 0 = .ok (.iload_n 0, 1) := by decide +kernel
theorem dX4_isSoon_1 : decode cX4_isSoon 1 = .ok (.i2l, 1) := by decide +kernel
theorem dX4_isSoon_2 : decode cX4_isSoon 2 = .ok (.lconst 0, 1) := by decide +kernel
theorem dX4_isSoon_3 : decode cX4_isSoon 3 = .ok (.ldc2_w 158, 3) := by decide +kernel
theorem dX4_isSoon_6 : decode cX4_isSoon 6 = .ok (.invokestatic 42, 3) := by decide +kernel
theorem dX4_isSoon_9 : decode cX4_isSoon 9 = .ok (.ireturn, 1) := by decide +kernel
theorem dX4_orNone_0 : decode cX4_orNone 0 = .ok (.aload_n 0, 1) := by decide +kernel
theorem dX4_orNone_1 : decode cX4_orNone 1 = .ok (.invokevirtual 160, 3) := by decide +kernel
theorem dX4_orNone_4 : decode cX4_orNone 4 = .ok (.iload_n 1, 1) := by decide +kernel
theorem dX4_orNone_5 : decode cX4_orNone 5 = .ok (.iload_n 2, 1) := by decide +kernel
theorem dX4_orNone_6 : decode cX4_orNone 6 = .ok (.if_icmp .gt 7, 3) := by decide +kernel
theorem dX4_orNone_9 : decode cX4_orNone 9 = .ok (.iload_n 1, 1) := by decide +kernel
theorem dX4_orNone_10 : decode cX4_orNone 10 = .ok (.goto 8, 3) := by decide +kernel
theorem dX4_orNone_13 : decode cX4_orNone 13 = .ok (.aload_n 0, 1) := by decide +kernel
theorem dX4_orNone_14 : decode cX4_orNone 14 = .ok (.iconst 3, 1) := by decide +kernel
theorem dX4_orNone_15 : decode cX4_orNone 15 = .ok (.invokevirtual 76, 3) := by decide +kernel
theorem dX4_orNone_18 : decode cX4_orNone 18 = .ok (.ireturn, 1) := by decide +kernel
theorem dX4_ahead_0 : decode cX4_ahead 0 = .ok (.iload_n 1, 1) := by decide +kernel
theorem dX4_ahead_1 : decode cX4_ahead 1 = .ok (.invokestatic 70, 3) := by decide +kernel
theorem dX4_ahead_4 : decode cX4_ahead 4 = .ok (.ifCond .eq 22, 3) := by decide +kernel
theorem dX4_ahead_7 : decode cX4_ahead 7 = .ok (.iload_n 2, 1) := by decide +kernel
theorem dX4_ahead_8 : decode cX4_ahead 8 = .ok (.i2l, 1) := by decide +kernel
theorem dX4_ahead_9 : decode cX4_ahead 9 = .ok (.lconst 0, 1) := by decide +kernel
theorem dX4_ahead_10 : decode cX4_ahead 10 = .ok (.ldc2_w 163, 3) := by decide +kernel
theorem dX4_ahead_13 : decode cX4_ahead 13 = .ok (.invokestatic 42, 3) := by decide +kernel
theorem dX4_ahead_16 : decode cX4_ahead 16 = .ok (.ifCond .eq 10, 3) := by decide +kernel
theorem dX4_ahead_19 : decode cX4_ahead 19 = .ok (.iload_n 3, 1) := by decide +kernel
theorem dX4_ahead_20 : decode cX4_ahead 20 = .ok (.invokestatic 165, 3) := by decide +kernel
theorem dX4_ahead_23 : decode cX4_ahead 23 = .ok (.ifCond .ne 9, 3) := by decide +kernel
theorem dX4_ahead_26 : decode cX4_ahead 26 = .ok (.aload_n 0, 1) := by decide +kernel
theorem dX4_ahead_27 : decode cX4_ahead 27 = .ok (.iconst 0, 1) := by decide +kernel
theorem dX4_ahead_28 : decode cX4_ahead 28 = .ok (.invokevirtual 76, 3) := by decide +kernel
theorem dX4_ahead_31 : decode cX4_ahead 31 = .ok (.ireturn, 1) := by decide +kernel
theorem dX4_ahead_32 : decode cX4_ahead 32 = .ok (.aload_n 0, 1) := by decide +kernel
theorem dX4_ahead_33 : decode cX4_ahead 33 = .ok (.invokevirtual 168, 3) := by decide +kernel
theorem dX4_ahead_36 : decode cX4_ahead 36 = .ok (.aload_n 0, 1) := by decide +kernel
theorem dX4_ahead_37 : decode cX4_ahead 37 = .ok (.iload_n 3, 1) := by decide +kernel
theorem dX4_ahead_38 : decode cX4_ahead 38 = .ok (.invokevirtual 138, 3) := by decide +kernel
theorem dX4_ahead_41 : decode cX4_ahead 41 = .ok (.aload_n 0, 1) := by decide +kernel
theorem dX4_ahead_42 : decode cX4_ahead 42 = .ok (.getfield 9, 3) := by decide +kernel
theorem dX4_ahead_45 : decode cX4_ahead 45 = .ok (.iconst 5, 1) := by decide +kernel
theorem dX4_ahead_46 : decode cX4_ahead 46 = .ok (.bipush 24, 2) := by decide +kernel
theorem dX4_ahead_48 : decode cX4_ahead 48 = .ok (.iload_n 2, 1) := by decide +kernel
theorem dX4_ahead_49 : decode cX4_ahead 49 = .ok (.imul, 1) := by decide +kernel
theorem dX4_ahead_50 : decode cX4_ahead 50 = .ok (.iadd, 1) := by decide +kernel
theorem dX4_ahead_51 : decode cX4_ahead 51 = .ok (.iload_n 1, 1) := by decide +kernel
theorem dX4_ahead_52 : decode cX4_ahead 52 = .ok (.iadd, 1) := by decide +kernel
theorem dX4_ahead_53 : decode cX4_ahead 53 = .ok (.iaload, 1) := by decide +kernel
theorem dX4_ahead_54 : decode cX4_ahead 54 = .ok (.istore 4, 2) := by decide +kernel
theorem dX4_ahead_56 : decode cX4_ahead 56 = .ok (.aload_n 0, 1) := by decide +kernel
theorem dX4_ahead_57 : decode cX4_ahead 57 = .ok (.invokevirtual 160, 3) := by decide +kernel
theorem dX4_ahead_60 : decode cX4_ahead 60 = .ok (.iload 4, 2) := by decide +kernel
theorem dX4_ahead_62 : decode cX4_ahead 62 = .ok (.ireturn, 1) := by decide +kernel
theorem dX4_workIn_0 : decode cX4_workIn 0 = .ok (.aload_n 0, 1) := by decide +kernel
theorem dX4_workIn_1 : decode cX4_workIn 1 = .ok (.iload_n 2, 1) := by decide +kernel
theorem dX4_workIn_2 : decode cX4_workIn 2 = .ok (.invokevirtual 138, 3) := by decide +kernel
theorem dX4_workIn_5 : decode cX4_workIn 5 = .ok (.aload_n 0, 1) := by decide +kernel
theorem dX4_workIn_6 : decode cX4_workIn 6 = .ok (.iload_n 1, 1) := by decide +kernel
theorem dX4_workIn_7 : decode cX4_workIn 7 = .ok (.invokevirtual 115, 3) := by decide +kernel
theorem dX4_workIn_10 : decode cX4_workIn 10 = .ok (.invokestatic 144, 3) := by decide +kernel
theorem dX4_workIn_13 : decode cX4_workIn 13 = .ok (.istore_n 3, 1) := by decide +kernel
theorem dX4_workIn_14 : decode cX4_workIn 14 = .ok (.aload_n 0, 1) := by decide +kernel
theorem dX4_workIn_15 : decode cX4_workIn 15 = .ok (.invokevirtual 160, 3) := by decide +kernel
theorem dX4_workIn_18 : decode cX4_workIn 18 = .ok (.iload_n 3, 1) := by decide +kernel
theorem dX4_workIn_19 : decode cX4_workIn 19 = .ok (.ireturn, 1) := by decide +kernel
theorem dX4_work_0 : decode cX4_work 0 = .ok (.aload_n 0, 1) := by decide +kernel
theorem dX4_work_1 : decode cX4_work 1 = .ok (.iload_n 1, 1) := by decide +kernel
theorem dX4_work_2 : decode cX4_work 2 = .ok (.invokevirtual 82, 3) := by decide +kernel
theorem dX4_work_5 : decode cX4_work 5 = .ok (.ifCond .eq 10, 3) := by decide +kernel
theorem dX4_work_8 : decode cX4_work 8 = .ok (.iload_n 2, 1) := by decide +kernel
theorem dX4_work_9 : decode cX4_work 9 = .ok (.invokestatic 165, 3) := by decide +kernel
theorem dX4_work_12 : decode cX4_work 12 = .ok (.ifCond .ne 9, 3) := by decide +kernel
theorem dX4_work_15 : decode cX4_work 15 = .ok (.aload_n 0, 1) := by decide +kernel
theorem dX4_work_16 : decode cX4_work 16 = .ok (.iconst 0, 1) := by decide +kernel
theorem dX4_work_17 : decode cX4_work 17 = .ok (.invokevirtual 76, 3) := by decide +kernel
theorem dX4_work_20 : decode cX4_work 20 = .ok (.ireturn, 1) := by decide +kernel
theorem dX4_work_21 : decode cX4_work 21 = .ok (.aload_n 0, 1) := by decide +kernel
theorem dX4_work_22 : decode cX4_work 22 = .ok (.invokevirtual 168, 3) := by decide +kernel
theorem dX4_work_25 : decode cX4_work 25 = .ok (.aload_n 0, 1) := by decide +kernel
theorem dX4_work_26 : decode cX4_work 26 = .ok (.iload_n 1, 1) := by decide +kernel
theorem dX4_work_27 : decode cX4_work 27 = .ok (.iload_n 2, 1) := by decide +kernel
theorem dX4_work_28 : decode cX4_work 28 = .ok (.invokevirtual 171, 3) := by decide +kernel
theorem dX4_work_31 : decode cX4_work 31 = .ok (.ireturn, 1) := by decide +kernel
theorem dX4_when_0 : decode cX4_when 0 = .ok (.aload_n 0, 1) := by decide +kernel
theorem dX4_when_1 : decode cX4_when 1 = .ok (.iload_n 1, 1) := by decide +kernel
theorem dX4_when_2 : decode cX4_when 2 = .ok (.invokevirtual 82, 3) := by decide +kernel
theorem dX4_when_5 : decode cX4_when 5 = .ok (.ifCond .eq 10, 3) := by decide +kernel
theorem dX4_when_8 : decode cX4_when 8 = .ok (.iload_n 2, 1) := by decide +kernel
theorem dX4_when_9 : decode cX4_when 9 = .ok (.invokestatic 70, 3) := by decide +kernel
theorem dX4_when_12 : decode cX4_when 12 = .ok (.ifCond .ne 9, 3) := by decide +kernel
theorem dX4_when_15 : decode cX4_when 15 = .ok (.aload_n 0, 1) := by decide +kernel
theorem dX4_when_16 : decode cX4_when 16 = .ok (.iconst 0, 1) := by decide +kernel
theorem dX4_when_17 : decode cX4_when 17 = .ok (.invokevirtual 76, 3) := by decide +kernel
theorem dX4_when_20 : decode cX4_when 20 = .ok (.ireturn, 1) := by decide +kernel
theorem dX4_when_21 : decode cX4_when 21 = .ok (.aload_n 0, 1) := by decide +kernel
theorem dX4_when_22 : decode cX4_when 22 = .ok (.invokevirtual 168, 3) := by decide +kernel
theorem dX4_when_25 : decode cX4_when 25 = .ok (.iconst 0, 1) := by decide +kernel
theorem dX4_when_26 : decode cX4_when 26 = .ok (.istore_n 3, 1) := by decide +kernel
theorem dX4_when_27 : decode cX4_when 27 = .ok (.iload_n 3, 1) := by decide +kernel
theorem dX4_when_28 : decode cX4_when 28 = .ok (.sipush 200, 3) := by decide +kernel
theorem dX4_when_31 : decode cX4_when 31 = .ok (.if_icmp .gt 25, 3) := by decide +kernel
theorem dX4_when_34 : decode cX4_when 34 = .ok (.aload_n 0, 1) := by decide +kernel
theorem dX4_when_35 : decode cX4_when 35 = .ok (.getfield 9, 3) := by decide +kernel
theorem dX4_when_38 : decode cX4_when 38 = .ok (.iconst 5, 1) := by decide +kernel
theorem dX4_when_39 : decode cX4_when 39 = .ok (.iload_n 2, 1) := by decide +kernel
theorem dX4_when_40 : decode cX4_when 40 = .ok (.iadd, 1) := by decide +kernel
theorem dX4_when_41 : decode cX4_when 41 = .ok (.iaload, 1) := by decide +kernel
theorem dX4_when_42 : decode cX4_when 42 = .ok (.iload_n 1, 1) := by decide +kernel
theorem dX4_when_43 : decode cX4_when 43 = .ok (.if_icmp .eq 13, 3) := by decide +kernel
theorem dX4_when_46 : decode cX4_when 46 = .ok (.aload_n 0, 1) := by decide +kernel
theorem dX4_when_47 : decode cX4_when 47 = .ok (.invokevirtual 133, 3) := by decide +kernel
theorem dX4_when_50 : decode cX4_when 50 = .ok (.iinc 3 1, 3) := by decide +kernel
theorem dX4_when_53 : decode cX4_when 53 = .ok (.goto (-26), 3) := by decide +kernel
theorem dX4_when_56 : decode cX4_when 56 = .ok (.aload_n 0, 1) := by decide +kernel
theorem dX4_when_57 : decode cX4_when 57 = .ok (.iload_n 3, 1) := by decide +kernel
theorem dX4_when_58 : decode cX4_when 58 = .ok (.sipush 200, 3) := by decide +kernel
theorem dX4_when_61 : decode cX4_when 61 = .ok (.invokevirtual 174, 3) := by decide +kernel
theorem dX4_when_64 : decode cX4_when 64 = .ok (.ireturn, 1) := by decide +kernel
theorem dX4_gone_0 : decode cX4_gone 0 = .ok (.iload_n 1, 1) := by decide +kernel
theorem dX4_gone_1 : decode cX4_gone 1 = .ok (.invokestatic 70, 3) := by decide +kernel
theorem dX4_gone_4 : decode cX4_gone 4 = .ok (.ifCond .ne 9, 3) := by decide +kernel
theorem dX4_gone_7 : decode cX4_gone 7 = .ok (.aload_n 0, 1) := by decide +kernel
theorem dX4_gone_8 : decode cX4_gone 8 = .ok (.iconst 0, 1) := by decide +kernel
theorem dX4_gone_9 : decode cX4_gone 9 = .ok (.invokevirtual 76, 3) := by decide +kernel
theorem dX4_gone_12 : decode cX4_gone 12 = .ok (.ireturn, 1) := by decide +kernel
theorem dX4_gone_13 : decode cX4_gone 13 = .ok (.aload_n 0, 1) := by decide +kernel
theorem dX4_gone_14 : decode cX4_gone 14 = .ok (.invokevirtual 168, 3) := by decide +kernel
theorem dX4_gone_17 : decode cX4_gone 17 = .ok (.iconst 0, 1) := by decide +kernel
theorem dX4_gone_18 : decode cX4_gone 18 = .ok (.istore_n 2, 1) := by decide +kernel
theorem dX4_gone_19 : decode cX4_gone 19 = .ok (.iload_n 2, 1) := by decide +kernel
theorem dX4_gone_20 : decode cX4_gone 20 = .ok (.sipush 200, 3) := by decide +kernel
theorem dX4_gone_23 : decode cX4_gone 23 = .ok (.if_icmp .gt 24, 3) := by decide +kernel
theorem dX4_gone_26 : decode cX4_gone 26 = .ok (.aload_n 0, 1) := by decide +kernel
theorem dX4_gone_27 : decode cX4_gone 27 = .ok (.getfield 9, 3) := by decide +kernel
theorem dX4_gone_30 : decode cX4_gone 30 = .ok (.iconst 5, 1) := by decide +kernel
theorem dX4_gone_31 : decode cX4_gone 31 = .ok (.iload_n 1, 1) := by decide +kernel
theorem dX4_gone_32 : decode cX4_gone 32 = .ok (.iadd, 1) := by decide +kernel
theorem dX4_gone_33 : decode cX4_gone 33 = .ok (.iaload, 1) := by decide +kernel
theorem dX4_gone_34 : decode cX4_gone 34 = .ok (.ifCond .lt 13, 3) := by decide +kernel
theorem dX4_gone_37 : decode cX4_gone 37 = .ok (.aload_n 0, 1) := by decide +kernel
theorem dX4_gone_38 : decode cX4_gone 38 = .ok (.invokevirtual 133, 3) := by decide +kernel
theorem dX4_gone_41 : decode cX4_gone 41 = .ok (.iinc 2 1, 3) := by decide +kernel
theorem dX4_gone_44 : decode cX4_gone 44 = .ok (.goto (-25), 3) := by decide +kernel
theorem dX4_gone_47 : decode cX4_gone 47 = .ok (.aload_n 0, 1) := by decide +kernel
theorem dX4_gone_48 : decode cX4_gone 48 = .ok (.iload_n 2, 1) := by decide +kernel
theorem dX4_gone_49 : decode cX4_gone 49 = .ok (.sipush 200, 3) := by decide +kernel
theorem dX4_gone_52 : decode cX4_gone 52 = .ok (.invokevirtual 174, 3) := by decide +kernel
theorem dX4_gone_55 : decode cX4_gone 55 = .ok (.ireturn, 1) := by decide +kernel
theorem dX4_meet_0 : decode cX4_meet 0 = .ok (.aload_n 0, 1) := by decide +kernel
theorem dX4_meet_1 : decode cX4_meet 1 = .ok (.iload_n 1, 1) := by decide +kernel
theorem dX4_meet_2 : decode cX4_meet 2 = .ok (.invokevirtual 82, 3) := by decide +kernel
theorem dX4_meet_5 : decode cX4_meet 5 = .ok (.ifCond .eq 16, 3) := by decide +kernel
theorem dX4_meet_8 : decode cX4_meet 8 = .ok (.aload_n 0, 1) := by decide +kernel
theorem dX4_meet_9 : decode cX4_meet 9 = .ok (.iload_n 2, 1) := by decide +kernel
theorem dX4_meet_10 : decode cX4_meet 10 = .ok (.invokevirtual 82, 3) := by decide +kernel
theorem dX4_meet_13 : decode cX4_meet 13 = .ok (.ifCond .eq 8, 3) := by decide +kernel
theorem dX4_meet_16 : decode cX4_meet 16 = .ok (.iload_n 1, 1) := by decide +kernel
theorem dX4_meet_17 : decode cX4_meet 17 = .ok (.iload_n 2, 1) := by decide +kernel
theorem dX4_meet_18 : decode cX4_meet 18 = .ok (.if_icmp .ne 9, 3) := by decide +kernel
theorem dX4_meet_21 : decode cX4_meet 21 = .ok (.aload_n 0, 1) := by decide +kernel
theorem dX4_meet_22 : decode cX4_meet 22 = .ok (.iconst 0, 1) := by decide +kernel
theorem dX4_meet_23 : decode cX4_meet 23 = .ok (.invokevirtual 76, 3) := by decide +kernel
theorem dX4_meet_26 : decode cX4_meet 26 = .ok (.ireturn, 1) := by decide +kernel
theorem dX4_meet_27 : decode cX4_meet 27 = .ok (.aload_n 0, 1) := by decide +kernel
theorem dX4_meet_28 : decode cX4_meet 28 = .ok (.invokevirtual 168, 3) := by decide +kernel
theorem dX4_meet_31 : decode cX4_meet 31 = .ok (.iconst 0, 1) := by decide +kernel
theorem dX4_meet_32 : decode cX4_meet 32 = .ok (.istore_n 3, 1) := by decide +kernel
theorem dX4_meet_33 : decode cX4_meet 33 = .ok (.iload_n 3, 1) := by decide +kernel
theorem dX4_meet_34 : decode cX4_meet 34 = .ok (.sipush 200, 3) := by decide +kernel
theorem dX4_meet_37 : decode cX4_meet 37 = .ok (.if_icmp .gt 28, 3) := by decide +kernel
theorem dX4_meet_40 : decode cX4_meet 40 = .ok (.aload_n 0, 1) := by decide +kernel
theorem dX4_meet_41 : decode cX4_meet 41 = .ok (.iload_n 1, 1) := by decide +kernel
theorem dX4_meet_42 : decode cX4_meet 42 = .ok (.iconst 1, 1) := by decide +kernel
theorem dX4_meet_43 : decode cX4_meet 43 = .ok (.invokevirtual 54, 3) := by decide +kernel
theorem dX4_meet_46 : decode cX4_meet 46 = .ok (.aload_n 0, 1) := by decide +kernel
theorem dX4_meet_47 : decode cX4_meet 47 = .ok (.iload_n 2, 1) := by decide +kernel
theorem dX4_meet_48 : decode cX4_meet 48 = .ok (.iconst 1, 1) := by decide +kernel
theorem dX4_meet_49 : decode cX4_meet 49 = .ok (.invokevirtual 54, 3) := by decide +kernel
theorem dX4_meet_52 : decode cX4_meet 52 = .ok (.if_icmp .eq 13, 3) := by decide +kernel
theorem dX4_meet_55 : decode cX4_meet 55 = .ok (.aload_n 0, 1) := by decide +kernel
theorem dX4_meet_56 : decode cX4_meet 56 = .ok (.invokevirtual 133, 3) := by decide +kernel
theorem dX4_meet_59 : decode cX4_meet 59 = .ok (.iinc 3 1, 3) := by decide +kernel
theorem dX4_meet_62 : decode cX4_meet 62 = .ok (.goto (-29), 3) := by decide +kernel
theorem dX4_meet_65 : decode cX4_meet 65 = .ok (.aload_n 0, 1) := by decide +kernel
theorem dX4_meet_66 : decode cX4_meet 66 = .ok (.iload_n 3, 1) := by decide +kernel
theorem dX4_meet_67 : decode cX4_meet 67 = .ok (.sipush 200, 3) := by decide +kernel
theorem dX4_meet_70 : decode cX4_meet 70 = .ok (.invokevirtual 174, 3) := by decide +kernel
theorem dX4_meet_73 : decode cX4_meet 73 = .ok (.ireturn, 1) := by decide +kernel
theorem dX4_bestBy_0 : decode cX4_bestBy 0 = .ok (.iconst (-1), 1) := by decide +kernel
theorem dX4_bestBy_1 : decode cX4_bestBy 1 = .ok (.istore 6, 2) := by decide +kernel
theorem dX4_bestBy_3 : decode cX4_bestBy 3 = .ok (.iconst (-1), 1) := by decide +kernel
theorem dX4_bestBy_4 : decode cX4_bestBy 4 = .ok (.istore 7, 2) := by decide +kernel
theorem dX4_bestBy_6 : decode cX4_bestBy 6 = .ok (.iload_n 3, 1) := by decide +kernel
theorem dX4_bestBy_7 : decode cX4_bestBy 7 = .ok (.istore 8, 2) := by decide +kernel
theorem dX4_bestBy_9 : decode cX4_bestBy 9 = .ok (.iload 8, 2) := by decide +kernel
theorem dX4_bestBy_11 : decode cX4_bestBy 11 = .ok (.iload 4, 2) := by decide +kernel
theorem dX4_bestBy_13 : decode cX4_bestBy 13 = .ok (.if_icmp .gt 55, 3) := by decide +kernel
theorem dX4_bestBy_16 : decode cX4_bestBy 16 = .ok (.aload_n 0, 1) := by decide +kernel
theorem dX4_bestBy_17 : decode cX4_bestBy 17 = .ok (.invokevirtual 168, 3) := by decide +kernel
theorem dX4_bestBy_20 : decode cX4_bestBy 20 = .ok (.aload_n 0, 1) := by decide +kernel
theorem dX4_bestBy_21 : decode cX4_bestBy 21 = .ok (.iload_n 1, 1) := by decide +kernel
theorem dX4_bestBy_22 : decode cX4_bestBy 22 = .ok (.iload_n 2, 1) := by decide +kernel
theorem dX4_bestBy_23 : decode cX4_bestBy 23 = .ok (.iload 8, 2) := by decide +kernel
theorem dX4_bestBy_25 : decode cX4_bestBy 25 = .ok (.invokevirtual 66, 3) := by decide +kernel
theorem dX4_bestBy_28 : decode cX4_bestBy 28 = .ok (.aload_n 0, 1) := by decide +kernel
theorem dX4_bestBy_29 : decode cX4_bestBy 29 = .ok (.iload_n 1, 1) := by decide +kernel
theorem dX4_bestBy_30 : decode cX4_bestBy 30 = .ok (.iload 5, 2) := by decide +kernel
theorem dX4_bestBy_32 : decode cX4_bestBy 32 = .ok (.invokevirtual 171, 3) := by decide +kernel
theorem dX4_bestBy_35 : decode cX4_bestBy 35 = .ok (.istore 9, 2) := by decide +kernel
theorem dX4_bestBy_37 : decode cX4_bestBy 37 = .ok (.iload 9, 2) := by decide +kernel
theorem dX4_bestBy_39 : decode cX4_bestBy 39 = .ok (.iload 7, 2) := by decide +kernel
theorem dX4_bestBy_41 : decode cX4_bestBy 41 = .ok (.if_icmp .le 8, 3) := by decide +kernel
theorem dX4_bestBy_44 : decode cX4_bestBy 44 = .ok (.iload 8, 2) := by decide +kernel
theorem dX4_bestBy_46 : decode cX4_bestBy 46 = .ok (.goto 5, 3) := by decide +kernel
theorem dX4_bestBy_49 : decode cX4_bestBy 49 = .ok (.iload 6, 2) := by decide +kernel
theorem dX4_bestBy_51 : decode cX4_bestBy 51 = .ok (.istore 6, 2) := by decide +kernel
theorem dX4_bestBy_53 : decode cX4_bestBy 53 = .ok (.iload 7, 2) := by decide +kernel
theorem dX4_bestBy_55 : decode cX4_bestBy 55 = .ok (.iload 9, 2) := by decide +kernel
theorem dX4_bestBy_57 : decode cX4_bestBy 57 = .ok (.invokestatic 58, 3) := by decide +kernel
theorem dX4_bestBy_60 : decode cX4_bestBy 60 = .ok (.istore 7, 2) := by decide +kernel
theorem dX4_bestBy_62 : decode cX4_bestBy 62 = .ok (.iinc 8 1, 3) := by decide +kernel
theorem dX4_bestBy_65 : decode cX4_bestBy 65 = .ok (.goto (-56), 3) := by decide +kernel
theorem dX4_bestBy_68 : decode cX4_bestBy 68 = .ok (.iload 6, 2) := by decide +kernel
theorem dX4_bestBy_70 : decode cX4_bestBy 70 = .ok (.ireturn, 1) := by decide +kernel
theorem dX4_isAsked_0 : decode cX4_isAsked 0 = .ok (.aload_n 0, 1) := by decide +kernel
theorem dX4_isAsked_1 : decode cX4_isAsked 1 = .ok (.iload_n 1, 1) := by decide +kernel
theorem dX4_isAsked_2 : decode cX4_isAsked 2 = .ok (.invokevirtual 82, 3) := by decide +kernel
theorem dX4_isAsked_5 : decode cX4_isAsked 5 = .ok (.ifCond .eq 14, 3) := by decide +kernel
theorem dX4_isAsked_8 : decode cX4_isAsked 8 = .ok (.iload_n 2, 1) := by decide +kernel
theorem dX4_isAsked_9 : decode cX4_isAsked 9 = .ok (.invokestatic 177, 3) := by decide +kernel
theorem dX4_isAsked_12 : decode cX4_isAsked 12 = .ok (.ifCond .eq 7, 3) := by decide +kernel
theorem dX4_isAsked_15 : decode cX4_isAsked 15 = .ok (.iconst 1, 1) := by decide +kernel
theorem dX4_isAsked_16 : decode cX4_isAsked 16 = .ok (.goto 4, 3) := by decide +kernel
theorem dX4_isAsked_19 : decode cX4_isAsked 19 = .ok (.iconst 0, 1) := by decide +kernel
theorem dX4_isAsked_20 : decode cX4_isAsked 20 = .ok (.ireturn, 1) := by decide +kernel
theorem dX4_strideFor_0 : decode cX4_strideFor 0 = .ok (.aload_n 0, 1) := by decide +kernel
theorem dX4_strideFor_1 : decode cX4_strideFor 1 = .ok (.iload_n 1, 1) := by decide +kernel
theorem dX4_strideFor_2 : decode cX4_strideFor 2 = .ok (.iload_n 2, 1) := by decide +kernel
theorem dX4_strideFor_3 : decode cX4_strideFor 3 = .ok (.invokevirtual 180, 3) := by decide +kernel
theorem dX4_strideFor_6 : decode cX4_strideFor 6 = .ok (.ifCond .eq 16, 3) := by decide +kernel
theorem dX4_strideFor_9 : decode cX4_strideFor 9 = .ok (.aload_n 0, 1) := by decide +kernel
theorem dX4_strideFor_10 : decode cX4_strideFor 10 = .ok (.iload_n 1, 1) := by decide +kernel
theorem dX4_strideFor_11 : decode cX4_strideFor 11 = .ok (.iconst 3, 1) := by decide +kernel
theorem dX4_strideFor_12 : decode cX4_strideFor 12 = .ok (.iconst 1, 1) := by decide +kernel
theorem dX4_strideFor_13 : decode cX4_strideFor 13 = .ok (.bipush 6, 2) := by decide +kernel
theorem dX4_strideFor_15 : decode cX4_strideFor 15 = .ok (.iload_n 2, 1) := by decide +kernel
theorem dX4_strideFor_16 : decode cX4_strideFor 16 = .ok (.invokevirtual 183, 3) := by decide +kernel
theorem dX4_strideFor_19 : decode cX4_strideFor 19 = .ok (.goto 8, 3) := by decide +kernel
theorem dX4_strideFor_22 : decode cX4_strideFor 22 = .ok (.aload_n 0, 1) := by decide +kernel
theorem dX4_strideFor_23 : decode cX4_strideFor 23 = .ok (.iconst 0, 1) := by decide +kernel
theorem dX4_strideFor_24 : decode cX4_strideFor 24 = .ok (.invokevirtual 76, 3) := by decide +kernel
theorem dX4_strideFor_27 : decode cX4_strideFor 27 = .ok (.ireturn, 1) := by decide +kernel
theorem dX4_start_0 : decode cX4_start 0 = .ok (.aload_n 0, 1) := by decide +kernel
theorem dX4_start_1 : decode cX4_start 1 = .ok (.iload_n 1, 1) := by decide +kernel
theorem dX4_start_2 : decode cX4_start 2 = .ok (.iload_n 2, 1) := by decide +kernel
theorem dX4_start_3 : decode cX4_start 3 = .ok (.invokevirtual 180, 3) := by decide +kernel
theorem dX4_start_6 : decode cX4_start 6 = .ok (.ifCond .eq 16, 3) := by decide +kernel
theorem dX4_start_9 : decode cX4_start 9 = .ok (.aload_n 0, 1) := by decide +kernel
theorem dX4_start_10 : decode cX4_start 10 = .ok (.iload_n 1, 1) := by decide +kernel
theorem dX4_start_11 : decode cX4_start 11 = .ok (.iconst 1, 1) := by decide +kernel
theorem dX4_start_12 : decode cX4_start 12 = .ok (.iconst 0, 1) := by decide +kernel
theorem dX4_start_13 : decode cX4_start 13 = .ok (.bipush 23, 2) := by decide +kernel
theorem dX4_start_15 : decode cX4_start 15 = .ok (.iload_n 2, 1) := by decide +kernel
theorem dX4_start_16 : decode cX4_start 16 = .ok (.invokevirtual 183, 3) := by decide +kernel
theorem dX4_start_19 : decode cX4_start 19 = .ok (.goto 8, 3) := by decide +kernel
theorem dX4_start_22 : decode cX4_start 22 = .ok (.aload_n 0, 1) := by decide +kernel
theorem dX4_start_23 : decode cX4_start 23 = .ok (.iconst 0, 1) := by decide +kernel
theorem dX4_start_24 : decode cX4_start 24 = .ok (.invokevirtual 76, 3) := by decide +kernel
theorem dX4_start_27 : decode cX4_start 27 = .ok (.ireturn, 1) := by decide +kernel
theorem dX4_kindFor_0 : decode cX4_kindFor 0 = .ok (.aload_n 0, 1) := by decide +kernel
theorem dX4_kindFor_1 : decode cX4_kindFor 1 = .ok (.iload_n 1, 1) := by decide +kernel
theorem dX4_kindFor_2 : decode cX4_kindFor 2 = .ok (.iload_n 2, 1) := by decide +kernel
theorem dX4_kindFor_3 : decode cX4_kindFor 3 = .ok (.invokevirtual 180, 3) := by decide +kernel
theorem dX4_kindFor_6 : decode cX4_kindFor 6 = .ok (.ifCond .eq 16, 3) := by decide +kernel
theorem dX4_kindFor_9 : decode cX4_kindFor 9 = .ok (.aload_n 0, 1) := by decide +kernel
theorem dX4_kindFor_10 : decode cX4_kindFor 10 = .ok (.iload_n 1, 1) := by decide +kernel
theorem dX4_kindFor_11 : decode cX4_kindFor 11 = .ok (.iconst 0, 1) := by decide +kernel
theorem dX4_kindFor_12 : decode cX4_kindFor 12 = .ok (.iconst 0, 1) := by decide +kernel
theorem dX4_kindFor_13 : decode cX4_kindFor 13 = .ok (.bipush 6, 2) := by decide +kernel
theorem dX4_kindFor_15 : decode cX4_kindFor 15 = .ok (.iload_n 2, 1) := by decide +kernel
theorem dX4_kindFor_16 : decode cX4_kindFor 16 = .ok (.invokevirtual 183, 3) := by decide +kernel
theorem dX4_kindFor_19 : decode cX4_kindFor 19 = .ok (.goto 8, 3) := by decide +kernel
theorem dX4_kindFor_22 : decode cX4_kindFor 22 = .ok (.aload_n 0, 1) := by decide +kernel
theorem dX4_kindFor_23 : decode cX4_kindFor 23 = .ok (.iconst 0, 1) := by decide +kernel
theorem dX4_kindFor_24 : decode cX4_kindFor 24 = .ok (.invokevirtual 76, 3) := by decide +kernel
theorem dX4_kindFor_27 : decode cX4_kindFor 27 = .ok (.ireturn, 1) := by decide +kernel
theorem dX4_whoseIn_0 : decode cX4_whoseIn 0 = .ok (.aload_n 0, 1) := by decide +kernel
theorem dX4_whoseIn_1 : decode cX4_whoseIn 1 = .ok (.iload_n 2, 1) := by decide +kernel
theorem dX4_whoseIn_2 : decode cX4_whoseIn 2 = .ok (.invokevirtual 138, 3) := by decide +kernel
theorem dX4_whoseIn_5 : decode cX4_whoseIn 5 = .ok (.aload_n 0, 1) := by decide +kernel
theorem dX4_whoseIn_6 : decode cX4_whoseIn 6 = .ok (.getfield 9, 3) := by decide +kernel
theorem dX4_whoseIn_9 : decode cX4_whoseIn 9 = .ok (.iconst 5, 1) := by decide +kernel
theorem dX4_whoseIn_10 : decode cX4_whoseIn 10 = .ok (.iload_n 1, 1) := by decide +kernel
theorem dX4_whoseIn_11 : decode cX4_whoseIn 11 = .ok (.iadd, 1) := by decide +kernel
theorem dX4_whoseIn_12 : decode cX4_whoseIn 12 = .ok (.iaload, 1) := by decide +kernel
theorem dX4_whoseIn_13 : decode cX4_whoseIn 13 = .ok (.istore_n 3, 1) := by decide +kernel
theorem dX4_whoseIn_14 : decode cX4_whoseIn 14 = .ok (.aload_n 0, 1) := by decide +kernel
theorem dX4_whoseIn_15 : decode cX4_whoseIn 15 = .ok (.invokevirtual 160, 3) := by decide +kernel
theorem dX4_whoseIn_18 : decode cX4_whoseIn 18 = .ok (.iload_n 3, 1) := by decide +kernel
theorem dX4_whoseIn_19 : decode cX4_whoseIn 19 = .ok (.ireturn, 1) := by decide +kernel
theorem dX4_reachFor_0 : decode cX4_reachFor 0 = .ok (.iload_n 1, 1) := by decide +kernel
theorem dX4_reachFor_1 : decode cX4_reachFor 1 = .ok (.invokestatic 70, 3) := by decide +kernel
theorem dX4_reachFor_4 : decode cX4_reachFor 4 = .ok (.ifCond .eq 10, 3) := by decide +kernel
theorem dX4_reachFor_7 : decode cX4_reachFor 7 = .ok (.iload_n 2, 1) := by decide +kernel
theorem dX4_reachFor_8 : decode cX4_reachFor 8 = .ok (.invokestatic 177, 3) := by decide +kernel
theorem dX4_reachFor_11 : decode cX4_reachFor 11 = .ok (.ifCond .ne 9, 3) := by decide +kernel
theorem dX4_reachFor_14 : decode cX4_reachFor 14 = .ok (.aload_n 0, 1) := by decide +kernel
theorem dX4_reachFor_15 : decode cX4_reachFor 15 = .ok (.iconst 0, 1) := by decide +kernel
theorem dX4_reachFor_16 : decode cX4_reachFor 16 = .ok (.invokevirtual 76, 3) := by decide +kernel
theorem dX4_reachFor_19 : decode cX4_reachFor 19 = .ok (.ireturn, 1) := by decide +kernel
theorem dX4_reachFor_20 : decode cX4_reachFor 20 = .ok (.iconst (-1), 1) := by decide +kernel
theorem dX4_reachFor_21 : decode cX4_reachFor 21 = .ok (.istore_n 3, 1) := by decide +kernel
theorem dX4_reachFor_22 : decode cX4_reachFor 22 = .ok (.iconst 0, 1) := by decide +kernel
theorem dX4_reachFor_23 : decode cX4_reachFor 23 = .ok (.istore 4, 2) := by decide +kernel
theorem dX4_reachFor_25 : decode cX4_reachFor 25 = .ok (.iload 4, 2) := by decide +kernel
theorem dX4_reachFor_27 : decode cX4_reachFor 27 = .ok (.bipush 24, 2) := by decide +kernel
theorem dX4_reachFor_29 : decode cX4_reachFor 29 = .ok (.if_icmp .gt 37, 3) := by decide +kernel
theorem dX4_reachFor_32 : decode cX4_reachFor 32 = .ok (.aload_n 0, 1) := by decide +kernel
theorem dX4_reachFor_33 : decode cX4_reachFor 33 = .ok (.invokevirtual 168, 3) := by decide +kernel
theorem dX4_reachFor_36 : decode cX4_reachFor 36 = .ok (.aload_n 0, 1) := by decide +kernel
theorem dX4_reachFor_37 : decode cX4_reachFor 37 = .ok (.getfield 9, 3) := by decide +kernel
theorem dX4_reachFor_40 : decode cX4_reachFor 40 = .ok (.iconst 3, 1) := by decide +kernel
theorem dX4_reachFor_41 : decode cX4_reachFor 41 = .ok (.iload 4, 2) := by decide +kernel
theorem dX4_reachFor_43 : decode cX4_reachFor 43 = .ok (.iastore, 1) := by decide +kernel
theorem dX4_reachFor_44 : decode cX4_reachFor 44 = .ok (.aload_n 0, 1) := by decide +kernel
theorem dX4_reachFor_45 : decode cX4_reachFor 45 = .ok (.iload_n 1, 1) := by decide +kernel
theorem dX4_reachFor_46 : decode cX4_reachFor 46 = .ok (.iload_n 2, 1) := by decide +kernel
theorem dX4_reachFor_47 : decode cX4_reachFor 47 = .ok (.invokevirtual 187, 3) := by decide +kernel
theorem dX4_reachFor_50 : decode cX4_reachFor 50 = .ok (.ifCond .lt 8, 3) := by decide +kernel
theorem dX4_reachFor_53 : decode cX4_reachFor 53 = .ok (.iload 4, 2) := by decide +kernel
theorem dX4_reachFor_55 : decode cX4_reachFor 55 = .ok (.goto 4, 3) := by decide +kernel
theorem dX4_reachFor_58 : decode cX4_reachFor 58 = .ok (.iload_n 3, 1) := by decide +kernel
theorem dX4_reachFor_59 : decode cX4_reachFor 59 = .ok (.istore_n 3, 1) := by decide +kernel
theorem dX4_reachFor_60 : decode cX4_reachFor 60 = .ok (.iinc 4 1, 3) := by decide +kernel
theorem dX4_reachFor_63 : decode cX4_reachFor 63 = .ok (.goto (-38), 3) := by decide +kernel
theorem dX4_reachFor_66 : decode cX4_reachFor 66 = .ok (.iload_n 3, 1) := by decide +kernel
theorem dX4_reachFor_67 : decode cX4_reachFor 67 = .ok (.ifCond .ge 11, 3) := by decide +kernel
theorem dX4_reachFor_70 : decode cX4_reachFor 70 = .ok (.aload_n 0, 1) := by decide +kernel
theorem dX4_reachFor_71 : decode cX4_reachFor 71 = .ok (.iconst 3, 1) := by decide +kernel
theorem dX4_reachFor_72 : decode cX4_reachFor 72 = .ok (.invokevirtual 76, 3) := by decide +kernel
theorem dX4_reachFor_75 : decode cX4_reachFor 75 = .ok (.goto 4, 3) := by decide +kernel
theorem dX4_reachFor_78 : decode cX4_reachFor 78 = .ok (.iload_n 3, 1) := by decide +kernel
theorem dX4_reachFor_79 : decode cX4_reachFor 79 = .ok (.ireturn, 1) := by decide +kernel
theorem dX4_weightFor_0 : decode cX4_weightFor 0 = .ok (.aload_n 0, 1) := by decide +kernel
theorem dX4_weightFor_1 : decode cX4_weightFor 1 = .ok (.iload_n 1, 1) := by decide +kernel
theorem dX4_weightFor_2 : decode cX4_weightFor 2 = .ok (.invokevirtual 82, 3) := by decide +kernel
theorem dX4_weightFor_5 : decode cX4_weightFor 5 = .ok (.ifCond .eq 17, 3) := by decide +kernel
theorem dX4_weightFor_8 : decode cX4_weightFor 8 = .ok (.iload_n 2, 1) := by decide +kernel
theorem dX4_weightFor_9 : decode cX4_weightFor 9 = .ok (.invokestatic 70, 3) := by decide +kernel
theorem dX4_weightFor_12 : decode cX4_weightFor 12 = .ok (.ifCond .eq 10, 3) := by decide +kernel
theorem dX4_weightFor_15 : decode cX4_weightFor 15 = .ok (.iload_n 3, 1) := by decide +kernel
theorem dX4_weightFor_16 : decode cX4_weightFor 16 = .ok (.invokestatic 177, 3) := by decide +kernel
theorem dX4_weightFor_19 : decode cX4_weightFor 19 = .ok (.ifCond .ne 9, 3) := by decide +kernel
theorem dX4_weightFor_22 : decode cX4_weightFor 22 = .ok (.aload_n 0, 1) := by decide +kernel
theorem dX4_weightFor_23 : decode cX4_weightFor 23 = .ok (.iconst 0, 1) := by decide +kernel
theorem dX4_weightFor_24 : decode cX4_weightFor 24 = .ok (.invokevirtual 76, 3) := by decide +kernel
theorem dX4_weightFor_27 : decode cX4_weightFor 27 = .ok (.ireturn, 1) := by decide +kernel
theorem dX4_weightFor_28 : decode cX4_weightFor 28 = .ok (.iconst (-1), 1) := by decide +kernel
theorem dX4_weightFor_29 : decode cX4_weightFor 29 = .ok (.istore 4, 2) := by decide +kernel
theorem dX4_weightFor_31 : decode cX4_weightFor 31 = .ok (.bipush 9, 2) := by decide +kernel
theorem dX4_weightFor_33 : decode cX4_weightFor 33 = .ok (.istore 5, 2) := by decide +kernel
theorem dX4_weightFor_35 : decode cX4_weightFor 35 = .ok (.iload 5, 2) := by decide +kernel
theorem dX4_weightFor_37 : decode cX4_weightFor 37 = .ok (.iconst 1, 1) := by decide +kernel
theorem dX4_weightFor_38 : decode cX4_weightFor 38 = .ok (.if_icmp .lt 40, 3) := by decide +kernel
theorem dX4_weightFor_41 : decode cX4_weightFor 41 = .ok (.aload_n 0, 1) := by decide +kernel
theorem dX4_weightFor_42 : decode cX4_weightFor 42 = .ok (.invokevirtual 168, 3) := by decide +kernel
theorem dX4_weightFor_45 : decode cX4_weightFor 45 = .ok (.aload_n 0, 1) := by decide +kernel
theorem dX4_weightFor_46 : decode cX4_weightFor 46 = .ok (.iload_n 1, 1) := by decide +kernel
theorem dX4_weightFor_47 : decode cX4_weightFor 47 = .ok (.iconst 4, 1) := by decide +kernel
theorem dX4_weightFor_48 : decode cX4_weightFor 48 = .ok (.iload 5, 2) := by decide +kernel
theorem dX4_weightFor_50 : decode cX4_weightFor 50 = .ok (.invokevirtual 66, 3) := by decide +kernel
theorem dX4_weightFor_53 : decode cX4_weightFor 53 = .ok (.aload_n 0, 1) := by decide +kernel
theorem dX4_weightFor_54 : decode cX4_weightFor 54 = .ok (.iload_n 2, 1) := by decide +kernel
theorem dX4_weightFor_55 : decode cX4_weightFor 55 = .ok (.iload_n 3, 1) := by decide +kernel
theorem dX4_weightFor_56 : decode cX4_weightFor 56 = .ok (.invokevirtual 187, 3) := by decide +kernel
theorem dX4_weightFor_59 : decode cX4_weightFor 59 = .ok (.iload_n 1, 1) := by decide +kernel
theorem dX4_weightFor_60 : decode cX4_weightFor 60 = .ok (.if_icmp .ne 8, 3) := by decide +kernel
theorem dX4_weightFor_63 : decode cX4_weightFor 63 = .ok (.iload 5, 2) := by decide +kernel
theorem dX4_weightFor_65 : decode cX4_weightFor 65 = .ok (.goto 5, 3) := by decide +kernel
theorem dX4_weightFor_68 : decode cX4_weightFor 68 = .ok (.iload 4, 2) := by decide +kernel
theorem dX4_weightFor_70 : decode cX4_weightFor 70 = .ok (.istore 4, 2) := by decide +kernel
theorem dX4_weightFor_72 : decode cX4_weightFor 72 = .ok (.iinc 5 (-1), 3) := by decide +kernel
theorem dX4_weightFor_75 : decode cX4_weightFor 75 = .ok (.goto (-40), 3) := by decide +kernel
theorem dX4_weightFor_78 : decode cX4_weightFor 78 = .ok (.iload 4, 2) := by decide +kernel
theorem dX4_weightFor_80 : decode cX4_weightFor 80 = .ok (.ifCond .ge 11, 3) := by decide +kernel
theorem dX4_weightFor_83 : decode cX4_weightFor 83 = .ok (.aload_n 0, 1) := by decide +kernel
theorem dX4_weightFor_84 : decode cX4_weightFor 84 = .ok (.iconst 3, 1) := by decide +kernel
theorem dX4_weightFor_85 : decode cX4_weightFor 85 = .ok (.invokevirtual 76, 3) := by decide +kernel
theorem dX4_weightFor_88 : decode cX4_weightFor 88 = .ok (.goto 5, 3) := by decide +kernel
theorem dX4_weightFor_91 : decode cX4_weightFor 91 = .ok (.iload 4, 2) := by decide +kernel
theorem dX4_weightFor_93 : decode cX4_weightFor 93 = .ok (.ireturn, 1) := by decide +kernel
theorem dX4_away_0 : decode cX4_away 0 = .ok (.iload_n 1, 1) := by decide +kernel
theorem dX4_away_1 : decode cX4_away 1 = .ok (.invokestatic 70, 3) := by decide +kernel
theorem dX4_away_4 : decode cX4_away 4 = .ok (.ifCond .eq 15, 3) := by decide +kernel
theorem dX4_away_7 : decode cX4_away 7 = .ok (.iload_n 2, 1) := by decide +kernel
theorem dX4_away_8 : decode cX4_away 8 = .ok (.i2l, 1) := by decide +kernel
theorem dX4_away_9 : decode cX4_away 9 = .ok (.lconst 0, 1) := by decide +kernel
theorem dX4_away_10 : decode cX4_away 10 = .ok (.ldc2_w 190, 3) := by decide +kernel
theorem dX4_away_13 : decode cX4_away 13 = .ok (.invokestatic 42, 3) := by decide +kernel
theorem dX4_away_16 : decode cX4_away 16 = .ok (.ifCond .ne 9, 3) := by decide +kernel
theorem dX4_away_19 : decode cX4_away 19 = .ok (.aload_n 0, 1) := by decide +kernel
theorem dX4_away_20 : decode cX4_away 20 = .ok (.iconst 0, 1) := by decide +kernel
theorem dX4_away_21 : decode cX4_away 21 = .ok (.invokevirtual 76, 3) := by decide +kernel
theorem dX4_away_24 : decode cX4_away 24 = .ok (.ireturn, 1) := by decide +kernel
theorem dX4_away_25 : decode cX4_away 25 = .ok (.iconst (-1), 1) := by decide +kernel
theorem dX4_away_26 : decode cX4_away 26 = .ok (.istore_n 3, 1) := by decide +kernel
theorem dX4_away_27 : decode cX4_away 27 = .ok (.iconst 0, 1) := by decide +kernel
