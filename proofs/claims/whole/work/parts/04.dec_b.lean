theorem dX3_init_0 : decode cX3_init 0 = .ok (.aload_n 0, 1) := by decide +kernel
theorem dX3_init_1 : decode cX3_init 1 = .ok (.invokespecial 3, 3) := by decide +kernel
theorem dX3_init_4 : decode cX3_init 4 = .ok (.aload_n 0, 1) := by decide +kernel
theorem dX3_init_5 : decode cX3_init 5 = .ok (.new 9, 3) := by decide +kernel
theorem dX3_init_8 : decode cX3_init 8 = .ok (.dup, 1) := by decide +kernel
theorem dX3_init_9 : decode cX3_init 9 = .ok (.invokespecial 11, 3) := by decide +kernel
theorem dX3_init_12 : decode cX3_init 12 = .ok (.putfield 12, 3) := by decide +kernel
theorem dX3_init_15 : decode cX3_init 15 = .ok (.aload_n 0, 1) := by decide +kernel
theorem dX3_init_16 : decode cX3_init 16 = .ok (.new 9, 3) := by decide +kernel
theorem dX3_init_19 : decode cX3_init 19 = .ok (.dup, 1) := by decide +kernel
theorem dX3_init_20 : decode cX3_init 20 = .ok (.invokespecial 11, 3) := by decide +kernel
theorem dX3_init_23 : decode cX3_init 23 = .ok (.putfield 16, 3) := by decide +kernel
theorem dX3_init_26 : decode cX3_init 26 = .ok (.aload_n 0, 1) := by decide +kernel
theorem dX3_init_27 : decode cX3_init 27 = .ok (.new 9, 3) := by decide +kernel
theorem dX3_init_30 : decode cX3_init 30 = .ok (.dup, 1) := by decide +kernel
theorem dX3_init_31 : decode cX3_init 31 = .ok (.invokespecial 11, 3) := by decide +kernel
theorem dX3_init_34 : decode cX3_init 34 = .ok (.putfield 19, 3) := by decide +kernel
theorem dX3_init_37 : decode cX3_init 37 = .ok (.aload_n 0, 1) := by decide +kernel
theorem dX3_init_38 : decode cX3_init 38 = .ok (.new 22, 3) := by decide +kernel
theorem dX3_init_41 : decode cX3_init 41 = .ok (.dup, 1) := by decide +kernel
theorem dX3_init_42 : decode cX3_init 42 = .ok (.invokespecial 24, 3) := by decide +kernel
theorem dX3_init_45 : decode cX3_init 45 = .ok (.putfield 25, 3) := by decide +kernel
theorem dX3_init_48 : decode cX3_init 48 = .ok (.aload_n 0, 1) := by decide +kernel
theorem dX3_init_49 : decode cX3_init 49 = .ok (.new 29, 3) := by decide +kernel
theorem dX3_init_52 : decode cX3_init 52 = .ok (.dup, 1) := by decide +kernel
theorem dX3_init_53 : decode cX3_init 53 = .ok (.invokespecial 31, 3) := by decide +kernel
theorem dX3_init_56 : decode cX3_init 56 = .ok (.putfield 32, 3) := by decide +kernel
theorem dX3_init_59 : decode cX3_init 59 = .ok (.aload_n 0, 1) := by decide +kernel
theorem dX3_init_60 : decode cX3_init 60 = .ok (.bipush 7, 2) := by decide +kernel
theorem dX3_init_62 : decode cX3_init 62 = .ok (.newarray .int, 2) := by decide +kernel
theorem dX3_init_64 : decode cX3_init 64 = .ok (.putfield 36, 3) := by decide +kernel
theorem dX3_init_67 : decode cX3_init 67 = .ok (.return_, 1) := by decide +kernel
theorem dX3_cell_0 : decode cX3_cell 0 = .ok (.iload_n 1, 1) := by decide +kernel
theorem dX3_cell_1 : decode cX3_cell 1 = .ok (.invokestatic 40, 3) := by decide +kernel
theorem dX3_cell_4 : decode cX3_cell 4 = .ok (.ifCond .eq 12, 3) := by decide +kernel
theorem dX3_cell_7 : decode cX3_cell 7 = .ok (.iload_n 2, 1) := by decide +kernel
theorem dX3_cell_8 : decode cX3_cell 8 = .ok (.iconst 0, 1) := by decide +kernel
theorem dX3_cell_9 : decode cX3_cell 9 = .ok (.iconst 3, 1) := by decide +kernel
theorem dX3_cell_10 : decode cX3_cell 10 = .ok (.invokestatic 44, 3) := by decide +kernel
theorem dX3_cell_13 : decode cX3_cell 13 = .ok (.ifCond .ne 10, 3) := by decide +kernel
theorem dX3_cell_16 : decode cX3_cell 16 = .ok (.aload_n 0, 1) := by decide +kernel
theorem dX3_cell_17 : decode cX3_cell 17 = .ok (.ldc 48, 2) := by decide +kernel
theorem dX3_cell_19 : decode cX3_cell 19 = .ok (.invokevirtual 49, 3) := by decide +kernel
theorem dX3_cell_22 : decode cX3_cell 22 = .ok (.ireturn, 1) := by decide +kernel
theorem dX3_cell_23 : decode cX3_cell 23 = .ok (.iload_n 2, 1) := by decide +kernel
theorem dX3_cell_24 : decode cX3_cell 24 = .ok (.iconst 3, 1) := by decide +kernel
theorem dX3_cell_25 : decode cX3_cell 25 = .ok (.if_icmp .ge 15, 3) := by decide +kernel
theorem dX3_cell_28 : decode cX3_cell 28 = .ok (.aload_n 0, 1) := by decide +kernel
theorem dX3_cell_29 : decode cX3_cell 29 = .ok (.getfield 12, 3) := by decide +kernel
theorem dX3_cell_32 : decode cX3_cell 32 = .ok (.getfield 53, 3) := by decide +kernel
theorem dX3_cell_35 : decode cX3_cell 35 = .ok (.iload_n 2, 1) := by decide +kernel
theorem dX3_cell_36 : decode cX3_cell 36 = .ok (.aaload, 1) := by decide +kernel
theorem dX3_cell_37 : decode cX3_cell 37 = .ok (.iload_n 1, 1) := by decide +kernel
theorem dX3_cell_38 : decode cX3_cell 38 = .ok (.iaload, 1) := by decide +kernel
theorem dX3_cell_39 : decode cX3_cell 39 = .ok (.ireturn, 1) := by decide +kernel
theorem dX3_cell_40 : decode cX3_cell 40 = .ok (.aload_n 0, 1) := by decide +kernel
theorem dX3_cell_41 : decode cX3_cell 41 = .ok (.getfield 12, 3) := by decide +kernel
theorem dX3_cell_44 : decode cX3_cell 44 = .ok (.iload_n 1, 1) := by decide +kernel
theorem dX3_cell_45 : decode cX3_cell 45 = .ok (.invokevirtual 57, 3) := by decide +kernel
theorem dX3_cell_48 : decode cX3_cell 48 = .ok (.ireturn, 1) := by decide +kernel
theorem dX3_print_0 : decode cX3_print 0 = .ok (.iload_n 1, 1) := by decide +kernel
theorem dX3_print_1 : decode cX3_print 1 = .ok (.invokestatic 40, 3) := by decide +kernel
theorem dX3_print_4 : decode cX3_print 4 = .ok (.ifCond .eq 24, 3) := by decide +kernel
theorem dX3_print_7 : decode cX3_print 7 = .ok (.aload_n 0, 1) := by decide +kernel
theorem dX3_print_8 : decode cX3_print 8 = .ok (.getfield 12, 3) := by decide +kernel
theorem dX3_print_11 : decode cX3_print 11 = .ok (.iload_n 2, 1) := by decide +kernel
theorem dX3_print_12 : decode cX3_print 12 = .ok (.invokevirtual 60, 3) := by decide +kernel
theorem dX3_print_15 : decode cX3_print 15 = .ok (.ifCond .eq 13, 3) := by decide +kernel
theorem dX3_print_18 : decode cX3_print 18 = .ok (.iload_n 3, 1) := by decide +kernel
theorem dX3_print_19 : decode cX3_print 19 = .ok (.iconst 0, 1) := by decide +kernel
theorem dX3_print_20 : decode cX3_print 20 = .ok (.bipush 9, 2) := by decide +kernel
theorem dX3_print_22 : decode cX3_print 22 = .ok (.invokestatic 44, 3) := by decide +kernel
theorem dX3_print_25 : decode cX3_print 25 = .ok (.ifCond .ne 10, 3) := by decide +kernel
theorem dX3_print_28 : decode cX3_print 28 = .ok (.aload_n 0, 1) := by decide +kernel
theorem dX3_print_29 : decode cX3_print 29 = .ok (.ldc 48, 2) := by decide +kernel
theorem dX3_print_31 : decode cX3_print 31 = .ok (.invokevirtual 49, 3) := by decide +kernel
theorem dX3_print_34 : decode cX3_print 34 = .ok (.ireturn, 1) := by decide +kernel
theorem dX3_print_35 : decode cX3_print 35 = .ok (.aload_n 0, 1) := by decide +kernel
theorem dX3_print_36 : decode cX3_print 36 = .ok (.getfield 12, 3) := by decide +kernel
theorem dX3_print_39 : decode cX3_print 39 = .ok (.getfield 53, 3) := by decide +kernel
theorem dX3_print_42 : decode cX3_print 42 = .ok (.iconst 0, 1) := by decide +kernel
theorem dX3_print_43 : decode cX3_print 43 = .ok (.aaload, 1) := by decide +kernel
theorem dX3_print_44 : decode cX3_print 44 = .ok (.iload_n 1, 1) := by decide +kernel
theorem dX3_print_45 : decode cX3_print 45 = .ok (.iaload, 1) := by decide +kernel
theorem dX3_print_46 : decode cX3_print 46 = .ok (.istore 4, 2) := by decide +kernel
theorem dX3_print_48 : decode cX3_print 48 = .ok (.iload_n 2, 1) := by decide +kernel
theorem dX3_print_49 : decode cX3_print 49 = .ok (.iconst (-1), 1) := by decide +kernel
theorem dX3_print_50 : decode cX3_print 50 = .ok (.if_icmp .ne 14, 3) := by decide +kernel
theorem dX3_print_53 : decode cX3_print 53 = .ok (.aload_n 0, 1) := by decide +kernel
theorem dX3_print_54 : decode cX3_print 54 = .ok (.getfield 12, 3) := by decide +kernel
theorem dX3_print_57 : decode cX3_print 57 = .ok (.iload_n 1, 1) := by decide +kernel
theorem dX3_print_58 : decode cX3_print 58 = .ok (.invokevirtual 63, 3) := by decide +kernel
theorem dX3_print_61 : decode cX3_print 61 = .ok (.goto 24, 3) := by decide +kernel
theorem dX3_print_64 : decode cX3_print 64 = .ok (.aload_n 0, 1) := by decide +kernel
theorem dX3_print_65 : decode cX3_print 65 = .ok (.getfield 12, 3) := by decide +kernel
theorem dX3_print_68 : decode cX3_print 68 = .ok (.iload_n 1, 1) := by decide +kernel
theorem dX3_print_69 : decode cX3_print 69 = .ok (.iload_n 2, 1) := by decide +kernel
theorem dX3_print_70 : decode cX3_print 70 = .ok (.iload_n 3, 1) := by decide +kernel
theorem dX3_print_71 : decode cX3_print 71 = .ok (.aload_n 0, 1) := by decide +kernel
theorem dX3_print_72 : decode cX3_print 72 = .ok (.getfield 12, 3) := by decide +kernel
theorem dX3_print_75 : decode cX3_print 75 = .ok (.getfield 67, 3) := by decide +kernel
theorem dX3_print_78 : decode cX3_print 78 = .ok (.iconst 2, 1) := by decide +kernel
theorem dX3_print_79 : decode cX3_print 79 = .ok (.aaload, 1) := by decide +kernel
theorem dX3_print_80 : decode cX3_print 80 = .ok (.iload_n 2, 1) := by decide +kernel
theorem dX3_print_81 : decode cX3_print 81 = .ok (.iaload, 1) := by decide +kernel
theorem dX3_print_82 : decode cX3_print 82 = .ok (.invokevirtual 70, 3) := by decide +kernel
theorem dX3_print_85 : decode cX3_print 85 = .ok (.iload 4, 2) := by decide +kernel
theorem dX3_print_87 : decode cX3_print 87 = .ok (.ireturn, 1) := by decide +kernel
theorem dX3_reach_0 : decode cX3_reach 0 = .ok (.iload_n 1, 1) := by decide +kernel
theorem dX3_reach_1 : decode cX3_reach 1 = .ok (.iconst 0, 1) := by decide +kernel
theorem dX3_reach_2 : decode cX3_reach 2 = .ok (.bipush 24, 2) := by decide +kernel
theorem dX3_reach_4 : decode cX3_reach 4 = .ok (.invokestatic 44, 3) := by decide +kernel
theorem dX3_reach_7 : decode cX3_reach 7 = .ok (.ifCond .ne 10, 3) := by decide +kernel
theorem dX3_reach_10 : decode cX3_reach 10 = .ok (.aload_n 0, 1) := by decide +kernel
theorem dX3_reach_11 : decode cX3_reach 11 = .ok (.ldc 48, 2) := by decide +kernel
theorem dX3_reach_13 : decode cX3_reach 13 = .ok (.invokevirtual 49, 3) := by decide +kernel
theorem dX3_reach_16 : decode cX3_reach 16 = .ok (.ireturn, 1) := by decide +kernel
theorem dX3_reach_17 : decode cX3_reach 17 = .ok (.aload_n 0, 1) := by decide +kernel
theorem dX3_reach_18 : decode cX3_reach 18 = .ok (.getfield 12, 3) := by decide +kernel
theorem dX3_reach_21 : decode cX3_reach 21 = .ok (.getfield 74, 3) := by decide +kernel
theorem dX3_reach_24 : decode cX3_reach 24 = .ok (.istore_n 2, 1) := by decide +kernel
theorem dX3_reach_25 : decode cX3_reach 25 = .ok (.aload_n 0, 1) := by decide +kernel
theorem dX3_reach_26 : decode cX3_reach 26 = .ok (.getfield 12, 3) := by decide +kernel
theorem dX3_reach_29 : decode cX3_reach 29 = .ok (.iload_n 1, 1) := by decide +kernel
theorem dX3_reach_30 : decode cX3_reach 30 = .ok (.putfield 74, 3) := by decide +kernel
theorem dX3_reach_33 : decode cX3_reach 33 = .ok (.iload_n 2, 1) := by decide +kernel
theorem dX3_reach_34 : decode cX3_reach 34 = .ok (.ireturn, 1) := by decide +kernel
theorem dX3_tide_0 : decode cX3_tide 0 = .ok (.aload_n 0, 1) := by decide +kernel
theorem dX3_tide_1 : decode cX3_tide 1 = .ok (.getfield 12, 3) := by decide +kernel
theorem dX3_tide_4 : decode cX3_tide 4 = .ok (.invokevirtual 78, 3) := by decide +kernel
theorem dX3_tide_7 : decode cX3_tide 7 = .ok (.ireturn, 1) := by decide +kernel
theorem dX3_walker_0 : decode cX3_walker 0 = .ok (.iload_n 1, 1) := by decide +kernel
theorem dX3_walker_1 : decode cX3_walker 1 = .ok (.iconst 0, 1) := by decide +kernel
theorem dX3_walker_2 : decode cX3_walker 2 = .ok (.bipush 6, 2) := by decide +kernel
theorem dX3_walker_4 : decode cX3_walker 4 = .ok (.invokestatic 44, 3) := by decide +kernel
theorem dX3_walker_7 : decode cX3_walker 7 = .ok (.ifCond .eq 10, 3) := by decide +kernel
theorem dX3_walker_10 : decode cX3_walker 10 = .ok (.iload_n 2, 1) := by decide +kernel
theorem dX3_walker_11 : decode cX3_walker 11 = .ok (.invokestatic 40, 3) := by decide +kernel
theorem dX3_walker_14 : decode cX3_walker 14 = .ok (.ifCond .ne 10, 3) := by decide +kernel
theorem dX3_walker_17 : decode cX3_walker 17 = .ok (.aload_n 0, 1) := by decide +kernel
theorem dX3_walker_18 : decode cX3_walker 18 = .ok (.ldc 48, 2) := by decide +kernel
theorem dX3_walker_20 : decode cX3_walker 20 = .ok (.invokevirtual 49, 3) := by decide +kernel
theorem dX3_walker_23 : decode cX3_walker 23 = .ok (.ireturn, 1) := by decide +kernel
theorem dX3_walker_24 : decode cX3_walker 24 = .ok (.aload_n 0, 1) := by decide +kernel
theorem dX3_walker_25 : decode cX3_walker 25 = .ok (.getfield 12, 3) := by decide +kernel
theorem dX3_walker_28 : decode cX3_walker 28 = .ok (.invokevirtual 82, 3) := by decide +kernel
theorem dX3_walker_31 : decode cX3_walker 31 = .ok (.ifCond .ne 10, 3) := by decide +kernel
theorem dX3_walker_34 : decode cX3_walker 34 = .ok (.aload_n 0, 1) := by decide +kernel
theorem dX3_walker_35 : decode cX3_walker 35 = .ok (.ldc 86, 2) := by decide +kernel
theorem dX3_walker_37 : decode cX3_walker 37 = .ok (.invokevirtual 49, 3) := by decide +kernel
theorem dX3_walker_40 : decode cX3_walker 40 = .ok (.ireturn, 1) := by decide +kernel
theorem dX3_walker_41 : decode cX3_walker 41 = .ok (.aload_n 0, 1) := by decide +kernel
theorem dX3_walker_42 : decode cX3_walker 42 = .ok (.getfield 12, 3) := by decide +kernel
theorem dX3_walker_45 : decode cX3_walker 45 = .ok (.iload_n 1, 1) := by decide +kernel
theorem dX3_walker_46 : decode cX3_walker 46 = .ok (.iload_n 2, 1) := by decide +kernel
theorem dX3_walker_47 : decode cX3_walker 47 = .ok (.invokevirtual 87, 3) := by decide +kernel
theorem dX3_walker_50 : decode cX3_walker 50 = .ok (.ireturn, 1) := by decide +kernel
theorem dX3_of_0 : decode cX3_of 0 = .ok (.aload_n 0, 1) := by decide +kernel
theorem dX3_of_1 : decode cX3_of 1 = .ok (.getfield 12, 3) := by decide +kernel
theorem dX3_of_4 : decode cX3_of 4 = .ok (.iload_n 1, 1) := by decide +kernel
theorem dX3_of_5 : decode cX3_of 5 = .ok (.invokevirtual 91, 3) := by decide +kernel
theorem dX3_of_8 : decode cX3_of 8 = .ok (.ifCond .eq 13, 3) := by decide +kernel
theorem dX3_of_11 : decode cX3_of 11 = .ok (.iload_n 2, 1) := by decide +kernel
theorem dX3_of_12 : decode cX3_of 12 = .ok (.iconst 0, 1) := by decide +kernel
theorem dX3_of_13 : decode cX3_of 13 = .ok (.bipush 9, 2) := by decide +kernel
theorem dX3_of_15 : decode cX3_of 15 = .ok (.invokestatic 44, 3) := by decide +kernel
theorem dX3_of_18 : decode cX3_of 18 = .ok (.ifCond .ne 10, 3) := by decide +kernel
theorem dX3_of_21 : decode cX3_of 21 = .ok (.aload_n 0, 1) := by decide +kernel
theorem dX3_of_22 : decode cX3_of 22 = .ok (.ldc 48, 2) := by decide +kernel
theorem dX3_of_24 : decode cX3_of 24 = .ok (.invokevirtual 49, 3) := by decide +kernel
theorem dX3_of_27 : decode cX3_of 27 = .ok (.ireturn, 1) := by decide +kernel
theorem dX3_of_28 : decode cX3_of 28 = .ok (.iload_n 2, 1) := by decide +kernel
theorem dX3_of_29 : decode cX3_of 29 = .ok (.tableswitch 67 6 9 #[31, 40, 49, 58], 31) := by decide +kernel
theorem dX3_of_60 : decode cX3_of 60 = .ok (.aload_n 0, 1) := by decide +kernel
theorem dX3_of_61 : decode cX3_of 61 = .ok (.getfield 12, 3) := by decide +kernel
theorem dX3_of_64 : decode cX3_of 64 = .ok (.iload_n 1, 1) := by decide +kernel
theorem dX3_of_65 : decode cX3_of 65 = .ok (.invokevirtual 94, 3) := by decide +kernel
theorem dX3_of_68 : decode cX3_of 68 = .ok (.ireturn, 1) := by decide +kernel
theorem dX3_of_69 : decode cX3_of 69 = .ok (.aload_n 0, 1) := by decide +kernel
theorem dX3_of_70 : decode cX3_of 70 = .ok (.getfield 12, 3) := by decide +kernel
theorem dX3_of_73 : decode cX3_of 73 = .ok (.iload_n 1, 1) := by decide +kernel
theorem dX3_of_74 : decode cX3_of 74 = .ok (.invokevirtual 97, 3) := by decide +kernel
theorem dX3_of_77 : decode cX3_of 77 = .ok (.ireturn, 1) := by decide +kernel
theorem dX3_of_78 : decode cX3_of 78 = .ok (.aload_n 0, 1) := by decide +kernel
theorem dX3_of_79 : decode cX3_of 79 = .ok (.getfield 12, 3) := by decide +kernel
theorem dX3_of_82 : decode cX3_of 82 = .ok (.iload_n 1, 1) := by decide +kernel
theorem dX3_of_83 : decode cX3_of 83 = .ok (.invokevirtual 100, 3) := by decide +kernel
theorem dX3_of_86 : decode cX3_of 86 = .ok (.ireturn, 1) := by decide +kernel
theorem dX3_of_87 : decode cX3_of 87 = .ok (.aload_n 0, 1) := by decide +kernel
theorem dX3_of_88 : decode cX3_of 88 = .ok (.getfield 12, 3) := by decide +kernel
theorem dX3_of_91 : decode cX3_of 91 = .ok (.iload_n 1, 1) := by decide +kernel
theorem dX3_of_92 : decode cX3_of 92 = .ok (.invokevirtual 103, 3) := by decide +kernel
theorem dX3_of_95 : decode cX3_of 95 = .ok (.ireturn, 1) := by decide +kernel
theorem dX3_of_96 : decode cX3_of 96 = .ok (.aload_n 0, 1) := by decide +kernel
theorem dX3_of_97 : decode cX3_of 97 = .ok (.getfield 12, 3) := by decide +kernel
theorem dX3_of_100 : decode cX3_of 100 = .ok (.getfield 67, 3) := by decide +kernel
theorem dX3_of_103 : decode cX3_of 103 = .ok (.iload_n 2, 1) := by decide +kernel
theorem dX3_of_104 : decode cX3_of 104 = .ok (.aaload, 1) := by decide +kernel
theorem dX3_of_105 : decode cX3_of 105 = .ok (.iload_n 1, 1) := by decide +kernel
theorem dX3_of_106 : decode cX3_of 106 = .ok (.iaload, 1) := by decide +kernel
theorem dX3_of_107 : decode cX3_of 107 = .ok (.ireturn, 1) := by decide +kernel
theorem dX3_change_0 : decode cX3_change 0 = .ok (.aload_n 0, 1) := by decide +kernel
theorem dX3_change_1 : decode cX3_change 1 = .ok (.getfield 12, 3) := by decide +kernel
theorem dX3_change_4 : decode cX3_change 4 = .ok (.iload_n 1, 1) := by decide +kernel
theorem dX3_change_5 : decode cX3_change 5 = .ok (.invokevirtual 91, 3) := by decide +kernel
theorem dX3_change_8 : decode cX3_change 8 = .ok (.ifCond .eq 29, 3) := by decide +kernel
theorem dX3_change_11 : decode cX3_change 11 = .ok (.iload_n 2, 1) := by decide +kernel
theorem dX3_change_12 : decode cX3_change 12 = .ok (.iconst 0, 1) := by decide +kernel
theorem dX3_change_13 : decode cX3_change 13 = .ok (.iconst 5, 1) := by decide +kernel
theorem dX3_change_14 : decode cX3_change 14 = .ok (.invokestatic 44, 3) := by decide +kernel
theorem dX3_change_17 : decode cX3_change 17 = .ok (.ifCond .eq 20, 3) := by decide +kernel
theorem dX3_change_20 : decode cX3_change 20 = .ok (.iload_n 3, 1) := by decide +kernel
theorem dX3_change_21 : decode cX3_change 21 = .ok (.getstatic 106, 3) := by decide +kernel
theorem dX3_change_24 : decode cX3_change 24 = .ok (.iload_n 2, 1) := by decide +kernel
theorem dX3_change_25 : decode cX3_change 25 = .ok (.iaload, 1) := by decide +kernel
theorem dX3_change_26 : decode cX3_change 26 = .ok (.getstatic 109, 3) := by decide +kernel
theorem dX3_change_29 : decode cX3_change 29 = .ok (.iload_n 2, 1) := by decide +kernel
theorem dX3_change_30 : decode cX3_change 30 = .ok (.iaload, 1) := by decide +kernel
theorem dX3_change_31 : decode cX3_change 31 = .ok (.invokestatic 44, 3) := by decide +kernel
theorem dX3_change_34 : decode cX3_change 34 = .ok (.ifCond .ne 10, 3) := by decide +kernel
theorem dX3_change_37 : decode cX3_change 37 = .ok (.aload_n 0, 1) := by decide +kernel
theorem dX3_change_38 : decode cX3_change 38 = .ok (.ldc 48, 2) := by decide +kernel
theorem dX3_change_40 : decode cX3_change 40 = .ok (.invokevirtual 49, 3) := by decide +kernel
theorem dX3_change_43 : decode cX3_change 43 = .ok (.ireturn, 1) := by decide +kernel
theorem dX3_change_44 : decode cX3_change 44 = .ok (.aload_n 0, 1) := by decide +kernel
theorem dX3_change_45 : decode cX3_change 45 = .ok (.getfield 12, 3) := by decide +kernel
theorem dX3_change_48 : decode cX3_change 48 = .ok (.getfield 67, 3) := by decide +kernel
theorem dX3_change_51 : decode cX3_change 51 = .ok (.iload_n 2, 1) := by decide +kernel
theorem dX3_change_52 : decode cX3_change 52 = .ok (.aaload, 1) := by decide +kernel
theorem dX3_change_53 : decode cX3_change 53 = .ok (.iload_n 1, 1) := by decide +kernel
theorem dX3_change_54 : decode cX3_change 54 = .ok (.iaload, 1) := by decide +kernel
theorem dX3_change_55 : decode cX3_change 55 = .ok (.istore 4, 2) := by decide +kernel
theorem dX3_change_57 : decode cX3_change 57 = .ok (.aload_n 0, 1) := by decide +kernel
theorem dX3_change_58 : decode cX3_change 58 = .ok (.getfield 12, 3) := by decide +kernel
theorem dX3_change_61 : decode cX3_change 61 = .ok (.getfield 67, 3) := by decide +kernel
theorem dX3_change_64 : decode cX3_change 64 = .ok (.iload_n 2, 1) := by decide +kernel
theorem dX3_change_65 : decode cX3_change 65 = .ok (.aaload, 1) := by decide +kernel
theorem dX3_change_66 : decode cX3_change 66 = .ok (.iload_n 1, 1) := by decide +kernel
theorem dX3_change_67 : decode cX3_change 67 = .ok (.iload_n 3, 1) := by decide +kernel
theorem dX3_change_68 : decode cX3_change 68 = .ok (.iastore, 1) := by decide +kernel
theorem dX3_change_69 : decode cX3_change 69 = .ok (.iload 4, 2) := by decide +kernel
theorem dX3_change_71 : decode cX3_change 71 = .ok (.ireturn, 1) := by decide +kernel
theorem dX3_go_0 : decode cX3_go 0 = .ok (.iload_n 1, 1) := by decide +kernel
theorem dX3_go_1 : decode cX3_go 1 = .ok (.iconst 1, 1) := by decide +kernel
theorem dX3_go_2 : decode cX3_go 2 = .ok (.bipush 60, 2) := by decide +kernel
theorem dX3_go_4 : decode cX3_go 4 = .ok (.invokestatic 44, 3) := by decide +kernel
theorem dX3_go_7 : decode cX3_go 7 = .ok (.ifCond .ne 10, 3) := by decide +kernel
theorem dX3_go_10 : decode cX3_go 10 = .ok (.aload_n 0, 1) := by decide +kernel
theorem dX3_go_11 : decode cX3_go 11 = .ok (.ldc 48, 2) := by decide +kernel
theorem dX3_go_13 : decode cX3_go 13 = .ok (.invokevirtual 49, 3) := by decide +kernel
theorem dX3_go_16 : decode cX3_go 16 = .ok (.ireturn, 1) := by decide +kernel
theorem dX3_go_17 : decode cX3_go 17 = .ok (.aload_n 0, 1) := by decide +kernel
theorem dX3_go_18 : decode cX3_go 18 = .ok (.getfield 12, 3) := by decide +kernel
theorem dX3_go_21 : decode cX3_go 21 = .ok (.getfield 112, 3) := by decide +kernel
theorem dX3_go_24 : decode cX3_go 24 = .ok (.iload_n 1, 1) := by decide +kernel
theorem dX3_go_25 : decode cX3_go 25 = .ok (.iadd, 1) := by decide +kernel
theorem dX3_go_26 : decode cX3_go 26 = .ok (.ldc 115, 2) := by decide +kernel
theorem dX3_go_28 : decode cX3_go 28 = .ok (.if_icmp .le 10, 3) := by decide +kernel
theorem dX3_go_31 : decode cX3_go 31 = .ok (.aload_n 0, 1) := by decide +kernel
theorem dX3_go_32 : decode cX3_go 32 = .ok (.ldc 116, 2) := by decide +kernel
theorem dX3_go_34 : decode cX3_go 34 = .ok (.invokevirtual 49, 3) := by decide +kernel
theorem dX3_go_37 : decode cX3_go 37 = .ok (.ireturn, 1) := by decide +kernel
theorem dX3_go_38 : decode cX3_go 38 = .ok (.aload_n 0, 1) := by decide +kernel
theorem dX3_go_39 : decode cX3_go 39 = .ok (.getfield 12, 3) := by decide +kernel
theorem dX3_go_42 : decode cX3_go 42 = .ok (.iload_n 1, 1) := by decide +kernel
theorem dX3_go_43 : decode cX3_go 43 = .ok (.iconst 0, 1) := by decide +kernel
theorem dX3_go_44 : decode cX3_go 44 = .ok (.invokevirtual 117, 3) := by decide +kernel
theorem dX3_go_47 : decode cX3_go 47 = .ok (.aload_n 0, 1) := by decide +kernel
theorem dX3_go_48 : decode cX3_go 48 = .ok (.getfield 12, 3) := by decide +kernel
theorem dX3_go_51 : decode cX3_go 51 = .ok (.invokevirtual 121, 3) := by decide +kernel
theorem dX3_go_54 : decode cX3_go 54 = .ok (.ireturn, 1) := by decide +kernel
theorem dX3_now_0 : decode cX3_now 0 = .ok (.iload_n 1, 1) := by decide +kernel
theorem dX3_now_1 : decode cX3_now 1 = .ok (.tableswitch 99 0 6 #[43, 51, 59, 67, 75, 83, 91], 43) := by decide +kernel
theorem dX3_now_44 : decode cX3_now 44 = .ok (.aload_n 0, 1) := by decide +kernel
theorem dX3_now_45 : decode cX3_now 45 = .ok (.getfield 12, 3) := by decide +kernel
theorem dX3_now_48 : decode cX3_now 48 = .ok (.getfield 112, 3) := by decide +kernel
theorem dX3_now_51 : decode cX3_now 51 = .ok (.ireturn, 1) := by decide +kernel
theorem dX3_now_52 : decode cX3_now 52 = .ok (.aload_n 0, 1) := by decide +kernel
theorem dX3_now_53 : decode cX3_now 53 = .ok (.getfield 12, 3) := by decide +kernel
theorem dX3_now_56 : decode cX3_now 56 = .ok (.invokevirtual 121, 3) := by decide +kernel
theorem dX3_now_59 : decode cX3_now 59 = .ok (.ireturn, 1) := by decide +kernel
theorem dX3_now_60 : decode cX3_now 60 = .ok (.aload_n 0, 1) := by decide +kernel
theorem dX3_now_61 : decode cX3_now 61 = .ok (.getfield 12, 3) := by decide +kernel
theorem dX3_now_64 : decode cX3_now 64 = .ok (.getfield 124, 3) := by decide +kernel
theorem dX3_now_67 : decode cX3_now 67 = .ok (.ireturn, 1) := by decide +kernel
theorem dX3_now_68 : decode cX3_now 68 = .ok (.aload_n 0, 1) := by decide +kernel
theorem dX3_now_69 : decode cX3_now 69 = .ok (.getfield 12, 3) := by decide +kernel
theorem dX3_now_72 : decode cX3_now 72 = .ok (.invokevirtual 127, 3) := by decide +kernel
theorem dX3_now_75 : decode cX3_now 75 = .ok (.ireturn, 1) := by decide +kernel
theorem dX3_now_76 : decode cX3_now 76 = .ok (.aload_n 0, 1) := by decide +kernel
theorem dX3_now_77 : decode cX3_now 77 = .ok (.getfield 12, 3) := by decide +kernel
theorem dX3_now_80 : decode cX3_now 80 = .ok (.invokevirtual 130, 3) := by decide +kernel
theorem dX3_now_83 : decode cX3_now 83 = .ok (.ireturn, 1) := by decide +kernel
theorem dX3_now_84 : decode cX3_now 84 = .ok (.aload_n 0, 1) := by decide +kernel
theorem dX3_now_85 : decode cX3_now 85 = .ok (.getfield 12, 3) := by decide +kernel
theorem dX3_now_88 : decode cX3_now 88 = .ok (.invokevirtual 133, 3) := by decide +kernel
theorem dX3_now_91 : decode cX3_now 91 = .ok (.ireturn, 1) := by decide +kernel
theorem dX3_now_92 : decode cX3_now 92 = .ok (.aload_n 0, 1) := by decide +kernel
theorem dX3_now_93 : decode cX3_now 93 = .ok (.getfield 12, 3) := by decide +kernel
theorem dX3_now_96 : decode cX3_now 96 = .ok (.invokevirtual 136, 3) := by decide +kernel
theorem dX3_now_99 : decode cX3_now 99 = .ok (.ireturn, 1) := by decide +kernel
theorem dX3_now_100 : decode cX3_now 100 = .ok (.aload_n 0, 1) := by decide +kernel
theorem dX3_now_101 : decode cX3_now 101 = .ok (.ldc 48, 2) := by decide +kernel
theorem dX3_now_103 : decode cX3_now 103 = .ok (.invokevirtual 49, 3) := by decide +kernel
theorem dX3_now_106 : decode cX3_now 106 = .ok (.ireturn, 1) := by decide +kernel
theorem dX3_line_0 : decode cX3_line 0 = .ok (.aload_n 0, 1) := by decide +kernel
theorem dX3_line_1 : decode cX3_line 1 = .ok (.getfield 12, 3) := by decide +kernel
theorem dX3_line_4 : decode cX3_line 4 = .ok (.iload_n 1, 1) := by decide +kernel
theorem dX3_line_5 : decode cX3_line 5 = .ok (.invokevirtual 91, 3) := by decide +kernel
theorem dX3_line_8 : decode cX3_line 8 = .ok (.ifCond .ne 10, 3) := by decide +kernel
theorem dX3_line_11 : decode cX3_line 11 = .ok (.aload_n 0, 1) := by decide +kernel
theorem dX3_line_12 : decode cX3_line 12 = .ok (.ldc 48, 2) := by decide +kernel
theorem dX3_line_14 : decode cX3_line 14 = .ok (.invokevirtual 49, 3) := by decide +kernel
theorem dX3_line_17 : decode cX3_line 17 = .ok (.ireturn, 1) := by decide +kernel
theorem dX3_line_18 : decode cX3_line 18 = .ok (.aload_n 0, 1) := by decide +kernel
theorem dX3_line_19 : decode cX3_line 19 = .ok (.getfield 12, 3) := by decide +kernel
theorem dX3_line_22 : decode cX3_line 22 = .ok (.iload_n 1, 1) := by decide +kernel
theorem dX3_line_23 : decode cX3_line 23 = .ok (.invokevirtual 139, 3) := by decide +kernel
theorem dX3_line_26 : decode cX3_line 26 = .ok (.ireturn, 1) := by decide +kernel
theorem dX3_ahead_0 : decode cX3_ahead 0 = .ok (.iload_n 1, 1) := by decide +kernel
theorem dX3_ahead_1 : decode cX3_ahead 1 = .ok (.invokestatic 40, 3) := by decide +kernel
theorem dX3_ahead_4 : decode cX3_ahead 4 = .ok (.ifCond .eq 22, 3) := by decide +kernel
theorem dX3_ahead_7 : decode cX3_ahead 7 = .ok (.iload_n 2, 1) := by decide +kernel
theorem dX3_ahead_8 : decode cX3_ahead 8 = .ok (.iconst 0, 1) := by decide +kernel
theorem dX3_ahead_9 : decode cX3_ahead 9 = .ok (.iconst 2, 1) := by decide +kernel
theorem dX3_ahead_10 : decode cX3_ahead 10 = .ok (.invokestatic 44, 3) := by decide +kernel
theorem dX3_ahead_13 : decode cX3_ahead 13 = .ok (.ifCond .eq 13, 3) := by decide +kernel
theorem dX3_ahead_16 : decode cX3_ahead 16 = .ok (.iload_n 3, 1) := by decide +kernel
theorem dX3_ahead_17 : decode cX3_ahead 17 = .ok (.iconst 0, 1) := by decide +kernel
theorem dX3_ahead_18 : decode cX3_ahead 18 = .ok (.bipush 100, 2) := by decide +kernel
theorem dX3_ahead_20 : decode cX3_ahead 20 = .ok (.invokestatic 44, 3) := by decide +kernel
theorem dX3_ahead_23 : decode cX3_ahead 23 = .ok (.ifCond .ne 10, 3) := by decide +kernel
theorem dX3_ahead_26 : decode cX3_ahead 26 = .ok (.aload_n 0, 1) := by decide +kernel
theorem dX3_ahead_27 : decode cX3_ahead 27 = .ok (.ldc 48, 2) := by decide +kernel
theorem dX3_ahead_29 : decode cX3_ahead 29 = .ok (.invokevirtual 49, 3) := by decide +kernel
theorem dX3_ahead_32 : decode cX3_ahead 32 = .ok (.ireturn, 1) := by decide +kernel
theorem dX3_ahead_33 : decode cX3_ahead 33 = .ok (.aload_n 0, 1) := by decide +kernel
theorem dX3_ahead_34 : decode cX3_ahead 34 = .ok (.getfield 16, 3) := by decide +kernel
theorem dX3_ahead_37 : decode cX3_ahead 37 = .ok (.aload_n 0, 1) := by decide +kernel
theorem dX3_ahead_38 : decode cX3_ahead 38 = .ok (.getfield 12, 3) := by decide +kernel
theorem dX3_ahead_41 : decode cX3_ahead 41 = .ok (.invokevirtual 142, 3) := by decide +kernel
theorem dX3_ahead_44 : decode cX3_ahead 44 = .ok (.aload_n 0, 1) := by decide +kernel
theorem dX3_ahead_45 : decode cX3_ahead 45 = .ok (.getfield 16, 3) := by decide +kernel
theorem dX3_ahead_48 : decode cX3_ahead 48 = .ok (.iload_n 3, 1) := by decide +kernel
theorem dX3_ahead_49 : decode cX3_ahead 49 = .ok (.iconst 0, 1) := by decide +kernel
theorem dX3_ahead_50 : decode cX3_ahead 50 = .ok (.invokevirtual 117, 3) := by decide +kernel
theorem dX3_ahead_53 : decode cX3_ahead 53 = .ok (.aload_n 0, 1) := by decide +kernel
theorem dX3_ahead_54 : decode cX3_ahead 54 = .ok (.getfield 16, 3) := by decide +kernel
theorem dX3_ahead_57 : decode cX3_ahead 57 = .ok (.getfield 53, 3) := by decide +kernel
theorem dX3_ahead_60 : decode cX3_ahead 60 = .ok (.iload_n 2, 1) := by decide +kernel
theorem dX3_ahead_61 : decode cX3_ahead 61 = .ok (.aaload, 1) := by decide +kernel
theorem dX3_ahead_62 : decode cX3_ahead 62 = .ok (.iload_n 1, 1) := by decide +kernel
theorem dX3_ahead_63 : decode cX3_ahead 63 = .ok (.iaload, 1) := by decide +kernel
theorem dX3_ahead_64 : decode cX3_ahead 64 = .ok (.ireturn, 1) := by decide +kernel
theorem dX3_work_0 : decode cX3_work 0 = .ok (.aload_n 0, 1) := by decide +kernel
theorem dX3_work_1 : decode cX3_work 1 = .ok (.getfield 12, 3) := by decide +kernel
theorem dX3_work_4 : decode cX3_work 4 = .ok (.iload_n 1, 1) := by decide +kernel
theorem dX3_work_5 : decode cX3_work 5 = .ok (.invokevirtual 91, 3) := by decide +kernel
theorem dX3_work_8 : decode cX3_work 8 = .ok (.ifCond .eq 13, 3) := by decide +kernel
theorem dX3_work_11 : decode cX3_work 11 = .ok (.iload_n 2, 1) := by decide +kernel
theorem dX3_work_12 : decode cX3_work 12 = .ok (.iconst 0, 1) := by decide +kernel
theorem dX3_work_13 : decode cX3_work 13 = .ok (.bipush 100, 2) := by decide +kernel
theorem dX3_work_15 : decode cX3_work 15 = .ok (.invokestatic 44, 3) := by decide +kernel
theorem dX3_work_18 : decode cX3_work 18 = .ok (.ifCond .ne 10, 3) := by decide +kernel
theorem dX3_work_21 : decode cX3_work 21 = .ok (.aload_n 0, 1) := by decide +kernel
theorem dX3_work_22 : decode cX3_work 22 = .ok (.ldc 48, 2) := by decide +kernel
theorem dX3_work_24 : decode cX3_work 24 = .ok (.invokevirtual 49, 3) := by decide +kernel
theorem dX3_work_27 : decode cX3_work 27 = .ok (.ireturn, 1) := by decide +kernel
theorem dX3_work_28 : decode cX3_work 28 = .ok (.aload_n 0, 1) := by decide +kernel
theorem dX3_work_29 : decode cX3_work 29 = .ok (.getfield 16, 3) := by decide +kernel
theorem dX3_work_32 : decode cX3_work 32 = .ok (.aload_n 0, 1) := by decide +kernel
theorem dX3_work_33 : decode cX3_work 33 = .ok (.getfield 12, 3) := by decide +kernel
theorem dX3_work_36 : decode cX3_work 36 = .ok (.invokevirtual 142, 3) := by decide +kernel
theorem dX3_work_39 : decode cX3_work 39 = .ok (.aload_n 0, 1) := by decide +kernel
theorem dX3_work_40 : decode cX3_work 40 = .ok (.getfield 16, 3) := by decide +kernel
theorem dX3_work_43 : decode cX3_work 43 = .ok (.iload_n 2, 1) := by decide +kernel
theorem dX3_work_44 : decode cX3_work 44 = .ok (.iconst 0, 1) := by decide +kernel
theorem dX3_work_45 : decode cX3_work 45 = .ok (.invokevirtual 117, 3) := by decide +kernel
theorem dX3_work_48 : decode cX3_work 48 = .ok (.aload_n 0, 1) := by decide +kernel
theorem dX3_work_49 : decode cX3_work 49 = .ok (.getfield 16, 3) := by decide +kernel
theorem dX3_work_52 : decode cX3_work 52 = .ok (.iload_n 1, 1) := by decide +kernel
theorem dX3_work_53 : decode cX3_work 53 = .ok (.invokevirtual 146, 3) := by decide +kernel
theorem dX3_work_56 : decode cX3_work 56 = .ok (.ireturn, 1) := by decide +kernel
theorem dX3_when_0 : decode cX3_when 0 = .ok (.aload_n 0, 1) := by decide +kernel
theorem dX3_when_1 : decode cX3_when 1 = .ok (.getfield 12, 3) := by decide +kernel
theorem dX3_when_4 : decode cX3_when 4 = .ok (.iload_n 1, 1) := by decide +kernel
theorem dX3_when_5 : decode cX3_when 5 = .ok (.invokevirtual 91, 3) := by decide +kernel
theorem dX3_when_8 : decode cX3_when 8 = .ok (.ifCond .eq 10, 3) := by decide +kernel
theorem dX3_when_11 : decode cX3_when 11 = .ok (.iload_n 2, 1) := by decide +kernel
theorem dX3_when_12 : decode cX3_when 12 = .ok (.invokestatic 40, 3) := by decide +kernel
theorem dX3_when_15 : decode cX3_when 15 = .ok (.ifCond .ne 10, 3) := by decide +kernel
theorem dX3_when_18 : decode cX3_when 18 = .ok (.aload_n 0, 1) := by decide +kernel
theorem dX3_when_19 : decode cX3_when 19 = .ok (.ldc 48, 2) := by decide +kernel
theorem dX3_when_21 : decode cX3_when 21 = .ok (.invokevirtual 49, 3) := by decide +kernel
theorem dX3_when_24 : decode cX3_when 24 = .ok (.ireturn, 1) := by decide +kernel
theorem dX3_when_25 : decode cX3_when 25 = .ok (.aload_n 0, 1) := by decide +kernel
theorem dX3_when_26 : decode cX3_when 26 = .ok (.iload_n 2, 1) := by decide +kernel
theorem dX3_when_27 : decode cX3_when 27 = .ok (.iload_n 1, 1) := by decide +kernel
theorem dX3_when_28 : decode cX3_when 28 = .ok (.invokevirtual 149, 3) := by decide +kernel
theorem dX3_when_31 : decode cX3_when 31 = .ok (.ireturn, 1) := by decide +kernel
theorem dX3_gone_0 : decode cX3_gone 0 = .ok (.iload_n 1, 1) := by decide +kernel
theorem dX3_gone_1 : decode cX3_gone 1 = .ok (.invokestatic 40, 3) := by decide +kernel
theorem dX3_gone_4 : decode cX3_gone 4 = .ok (.ifCond .ne 10, 3) := by decide +kernel
theorem dX3_gone_7 : decode cX3_gone 7 = .ok (.aload_n 0, 1) := by decide +kernel
theorem dX3_gone_8 : decode cX3_gone 8 = .ok (.ldc 48, 2) := by decide +kernel
theorem dX3_gone_10 : decode cX3_gone 10 = .ok (.invokevirtual 49, 3) := by decide +kernel
theorem dX3_gone_13 : decode cX3_gone 13 = .ok (.ireturn, 1) := by decide +kernel
theorem dX3_gone_14 : decode cX3_gone 14 = .ok (.aload_n 0, 1) := by decide +kernel
theorem dX3_gone_15 : decode cX3_gone 15 = .ok (.iload_n 1, 1) := by decide +kernel
theorem dX3_gone_16 : decode cX3_gone 16 = .ok (.iconst (-1), 1) := by decide +kernel
theorem dX3_gone_17 : decode cX3_gone 17 = .ok (.invokevirtual 149, 3) := by decide +kernel
theorem dX3_gone_20 : decode cX3_gone 20 = .ok (.ireturn, 1) := by decide +kernel
theorem dX3_meet_0 : decode cX3_meet 0 = .ok (.aload_n 0, 1) := by decide +kernel
theorem dX3_meet_1 : decode cX3_meet 1 = .ok (.getfield 12, 3) := by decide +kernel
theorem dX3_meet_4 : decode cX3_meet 4 = .ok (.iload_n 1, 1) := by decide +kernel
theorem dX3_meet_5 : decode cX3_meet 5 = .ok (.invokevirtual 91, 3) := by decide +kernel
theorem dX3_meet_8 : decode cX3_meet 8 = .ok (.ifCond .eq 19, 3) := by decide +kernel
theorem dX3_meet_11 : decode cX3_meet 11 = .ok (.aload_n 0, 1) := by decide +kernel
theorem dX3_meet_12 : decode cX3_meet 12 = .ok (.getfield 12, 3) := by decide +kernel
theorem dX3_meet_15 : decode cX3_meet 15 = .ok (.iload_n 2, 1) := by decide +kernel
theorem dX3_meet_16 : decode cX3_meet 16 = .ok (.invokevirtual 91, 3) := by decide +kernel
theorem dX3_meet_19 : decode cX3_meet 19 = .ok (.ifCond .eq 8, 3) := by decide +kernel
theorem dX3_meet_22 : decode cX3_meet 22 = .ok (.iload_n 1, 1) := by decide +kernel
theorem dX3_meet_23 : decode cX3_meet 23 = .ok (.iload_n 2, 1) := by decide +kernel
theorem dX3_meet_24 : decode cX3_meet 24 = .ok (.if_icmp .ne 10, 3) := by decide +kernel
theorem dX3_meet_27 : decode cX3_meet 27 = .ok (.aload_n 0, 1) := by decide +kernel
theorem dX3_meet_28 : decode cX3_meet 28 = .ok (.ldc 48, 2) := by decide +kernel
theorem dX3_meet_30 : decode cX3_meet 30 = .ok (.invokevirtual 49, 3) := by decide +kernel
theorem dX3_meet_33 : decode cX3_meet 33 = .ok (.ireturn, 1) := by decide +kernel
theorem dX3_meet_34 : decode cX3_meet 34 = .ok (.aload_n 0, 1) := by decide +kernel
theorem dX3_meet_35 : decode cX3_meet 35 = .ok (.getfield 16, 3) := by decide +kernel
theorem dX3_meet_38 : decode cX3_meet 38 = .ok (.aload_n 0, 1) := by decide +kernel
theorem dX3_meet_39 : decode cX3_meet 39 = .ok (.getfield 12, 3) := by decide +kernel
theorem dX3_meet_42 : decode cX3_meet 42 = .ok (.invokevirtual 142, 3) := by decide +kernel
theorem dX3_meet_45 : decode cX3_meet 45 = .ok (.iconst 0, 1) := by decide +kernel
theorem dX3_meet_46 : decode cX3_meet 46 = .ok (.istore_n 3, 1) := by decide +kernel
theorem dX3_meet_47 : decode cX3_meet 47 = .ok (.iload_n 3, 1) := by decide +kernel
theorem dX3_meet_48 : decode cX3_meet 48 = .ok (.sipush 200, 3) := by decide +kernel
theorem dX3_meet_51 : decode cX3_meet 51 = .ok (.if_icmp .gt 44, 3) := by decide +kernel
theorem dX3_meet_54 : decode cX3_meet 54 = .ok (.aload_n 0, 1) := by decide +kernel
theorem dX3_meet_55 : decode cX3_meet 55 = .ok (.getfield 16, 3) := by decide +kernel
theorem dX3_meet_58 : decode cX3_meet 58 = .ok (.getfield 67, 3) := by decide +kernel
theorem dX3_meet_61 : decode cX3_meet 61 = .ok (.iconst 1, 1) := by decide +kernel
theorem dX3_meet_62 : decode cX3_meet 62 = .ok (.aaload, 1) := by decide +kernel
theorem dX3_meet_63 : decode cX3_meet 63 = .ok (.iload_n 1, 1) := by decide +kernel
theorem dX3_meet_64 : decode cX3_meet 64 = .ok (.iaload, 1) := by decide +kernel
theorem dX3_meet_65 : decode cX3_meet 65 = .ok (.aload_n 0, 1) := by decide +kernel
theorem dX3_meet_66 : decode cX3_meet 66 = .ok (.getfield 16, 3) := by decide +kernel
theorem dX3_meet_69 : decode cX3_meet 69 = .ok (.getfield 67, 3) := by decide +kernel
theorem dX3_meet_72 : decode cX3_meet 72 = .ok (.iconst 1, 1) := by decide +kernel
theorem dX3_meet_73 : decode cX3_meet 73 = .ok (.aaload, 1) := by decide +kernel
theorem dX3_meet_74 : decode cX3_meet 74 = .ok (.iload_n 2, 1) := by decide +kernel
theorem dX3_meet_75 : decode cX3_meet 75 = .ok (.iaload, 1) := by decide +kernel
theorem dX3_meet_76 : decode cX3_meet 76 = .ok (.if_icmp .ne 5, 3) := by decide +kernel
theorem dX3_meet_79 : decode cX3_meet 79 = .ok (.iload_n 3, 1) := by decide +kernel
theorem dX3_meet_80 : decode cX3_meet 80 = .ok (.ireturn, 1) := by decide +kernel
theorem dX3_meet_81 : decode cX3_meet 81 = .ok (.aload_n 0, 1) := by decide +kernel
theorem dX3_meet_82 : decode cX3_meet 82 = .ok (.getfield 16, 3) := by decide +kernel
theorem dX3_meet_85 : decode cX3_meet 85 = .ok (.iconst 0, 1) := by decide +kernel
theorem dX3_meet_86 : decode cX3_meet 86 = .ok (.invokevirtual 152, 3) := by decide +kernel
theorem dX3_meet_89 : decode cX3_meet 89 = .ok (.iinc 3 1, 3) := by decide +kernel
theorem dX3_meet_92 : decode cX3_meet 92 = .ok (.goto (-45), 3) := by decide +kernel
theorem dX3_meet_95 : decode cX3_meet 95 = .ok (.aload_n 0, 1) := by decide +kernel
theorem dX3_meet_96 : decode cX3_meet 96 = .ok (.ldc 155, 2) := by decide +kernel
theorem dX3_meet_98 : decode cX3_meet 98 = .ok (.invokevirtual 49, 3) := by decide +kernel
theorem dX3_meet_101 : decode cX3_meet 101 = .ok (.ireturn, 1) := by decide +kernel
theorem dX3_strideFor_0 : decode cX3_strideFor 0 = .ok (.aload_n 0, 1) := by decide +kernel
theorem dX3_strideFor_1 : decode cX3_strideFor 1 = .ok (.iload_n 1, 1) := by decide +kernel
theorem dX3_strideFor_2 : decode cX3_strideFor 2 = .ok (.iconst 3, 1) := by decide +kernel
theorem dX3_strideFor_3 : decode cX3_strideFor 3 = .ok (.iload_n 2, 1) := by decide +kernel
theorem dX3_strideFor_4 : decode cX3_strideFor 4 = .ok (.invokevirtual 156, 3) := by decide +kernel
theorem dX3_strideFor_7 : decode cX3_strideFor 7 = .ok (.ireturn, 1) := by decide +kernel
theorem dX3_start_0 : decode cX3_start 0 = .ok (.aload_n 0, 1) := by decide +kernel
theorem dX3_start_1 : decode cX3_start 1 = .ok (.iload_n 1, 1) := by decide +kernel
theorem dX3_start_2 : decode cX3_start 2 = .ok (.iconst 1, 1) := by decide +kernel
theorem dX3_start_3 : decode cX3_start 3 = .ok (.iload_n 2, 1) := by decide +kernel
theorem dX3_start_4 : decode cX3_start 4 = .ok (.invokevirtual 156, 3) := by decide +kernel
theorem dX3_start_7 : decode cX3_start 7 = .ok (.ireturn, 1) := by decide +kernel
theorem dX3_kindFor_0 : decode cX3_kindFor 0 = .ok (.aload_n 0, 1) := by decide +kernel
theorem dX3_kindFor_1 : decode cX3_kindFor 1 = .ok (.iload_n 1, 1) := by decide +kernel
theorem dX3_kindFor_2 : decode cX3_kindFor 2 = .ok (.iconst 0, 1) := by decide +kernel
theorem dX3_kindFor_3 : decode cX3_kindFor 3 = .ok (.iload_n 2, 1) := by decide +kernel
theorem dX3_kindFor_4 : decode cX3_kindFor 4 = .ok (.invokevirtual 156, 3) := by decide +kernel
theorem dX3_kindFor_7 : decode cX3_kindFor 7 = .ok (.ireturn, 1) := by decide +kernel
theorem dX3_reachFor_0 : decode cX3_reachFor 0 = .ok (.iload_n 1, 1) := by decide +kernel
theorem dX3_reachFor_1 : decode cX3_reachFor 1 = .ok (.invokestatic 40, 3) := by decide +kernel
theorem dX3_reachFor_4 : decode cX3_reachFor 4 = .ok (.ifCond .eq 13, 3) := by decide +kernel
theorem dX3_reachFor_7 : decode cX3_reachFor 7 = .ok (.iload_n 2, 1) := by decide +kernel
theorem dX3_reachFor_8 : decode cX3_reachFor 8 = .ok (.iconst 0, 1) := by decide +kernel
theorem dX3_reachFor_9 : decode cX3_reachFor 9 = .ok (.bipush 40, 2) := by decide +kernel
theorem dX3_reachFor_11 : decode cX3_reachFor 11 = .ok (.invokestatic 44, 3) := by decide +kernel
theorem dX3_reachFor_14 : decode cX3_reachFor 14 = .ok (.ifCond .ne 10, 3) := by decide +kernel
theorem dX3_reachFor_17 : decode cX3_reachFor 17 = .ok (.aload_n 0, 1) := by decide +kernel
theorem dX3_reachFor_18 : decode cX3_reachFor 18 = .ok (.ldc 48, 2) := by decide +kernel
theorem dX3_reachFor_20 : decode cX3_reachFor 20 = .ok (.invokevirtual 49, 3) := by decide +kernel
theorem dX3_reachFor_23 : decode cX3_reachFor 23 = .ok (.ireturn, 1) := by decide +kernel
theorem dX3_reachFor_24 : decode cX3_reachFor 24 = .ok (.bipush 24, 2) := by decide +kernel
theorem dX3_reachFor_26 : decode cX3_reachFor 26 = .ok (.istore_n 3, 1) := by decide +kernel
theorem dX3_reachFor_27 : decode cX3_reachFor 27 = .ok (.iload_n 3, 1) := by decide +kernel
theorem dX3_reachFor_28 : decode cX3_reachFor 28 = .ok (.ifCond .lt 54, 3) := by decide +kernel
theorem dX3_reachFor_31 : decode cX3_reachFor 31 = .ok (.aload_n 0, 1) := by decide +kernel
theorem dX3_reachFor_32 : decode cX3_reachFor 32 = .ok (.getfield 16, 3) := by decide +kernel
theorem dX3_reachFor_35 : decode cX3_reachFor 35 = .ok (.aload_n 0, 1) := by decide +kernel
theorem dX3_reachFor_36 : decode cX3_reachFor 36 = .ok (.getfield 12, 3) := by decide +kernel
theorem dX3_reachFor_39 : decode cX3_reachFor 39 = .ok (.invokevirtual 142, 3) := by decide +kernel
theorem dX3_reachFor_42 : decode cX3_reachFor 42 = .ok (.aload_n 0, 1) := by decide +kernel
theorem dX3_reachFor_43 : decode cX3_reachFor 43 = .ok (.getfield 16, 3) := by decide +kernel
theorem dX3_reachFor_46 : decode cX3_reachFor 46 = .ok (.iload_n 3, 1) := by decide +kernel
theorem dX3_reachFor_47 : decode cX3_reachFor 47 = .ok (.putfield 74, 3) := by decide +kernel
theorem dX3_reachFor_50 : decode cX3_reachFor 50 = .ok (.aload_n 0, 1) := by decide +kernel
theorem dX3_reachFor_51 : decode cX3_reachFor 51 = .ok (.getfield 16, 3) := by decide +kernel
theorem dX3_reachFor_54 : decode cX3_reachFor 54 = .ok (.iload_n 2, 1) := by decide +kernel
theorem dX3_reachFor_55 : decode cX3_reachFor 55 = .ok (.iconst 0, 1) := by decide +kernel
theorem dX3_reachFor_56 : decode cX3_reachFor 56 = .ok (.invokevirtual 117, 3) := by decide +kernel
theorem dX3_reachFor_59 : decode cX3_reachFor 59 = .ok (.aload_n 0, 1) := by decide +kernel
theorem dX3_reachFor_60 : decode cX3_reachFor 60 = .ok (.getfield 16, 3) := by decide +kernel
theorem dX3_reachFor_63 : decode cX3_reachFor 63 = .ok (.getfield 53, 3) := by decide +kernel
theorem dX3_reachFor_66 : decode cX3_reachFor 66 = .ok (.iconst 0, 1) := by decide +kernel
theorem dX3_reachFor_67 : decode cX3_reachFor 67 = .ok (.aaload, 1) := by decide +kernel
theorem dX3_reachFor_68 : decode cX3_reachFor 68 = .ok (.iload_n 1, 1) := by decide +kernel
theorem dX3_reachFor_69 : decode cX3_reachFor 69 = .ok (.iaload, 1) := by decide +kernel
theorem dX3_reachFor_70 : decode cX3_reachFor 70 = .ok (.iconst (-1), 1) := by decide +kernel
theorem dX3_reachFor_71 : decode cX3_reachFor 71 = .ok (.if_icmp .eq 5, 3) := by decide +kernel
theorem dX3_reachFor_74 : decode cX3_reachFor 74 = .ok (.iload_n 3, 1) := by decide +kernel
theorem dX3_reachFor_75 : decode cX3_reachFor 75 = .ok (.ireturn, 1) := by decide +kernel
theorem dX3_reachFor_76 : decode cX3_reachFor 76 = .ok (.iinc 3 (-1), 3) := by decide +kernel
theorem dX3_reachFor_79 : decode cX3_reachFor 79 = .ok (.goto (-52), 3) := by decide +kernel
theorem dX3_reachFor_82 : decode cX3_reachFor 82 = .ok (.aload_n 0, 1) := by decide +kernel
theorem dX3_reachFor_83 : decode cX3_reachFor 83 = .ok (.ldc 155, 2) := by decide +kernel
theorem dX3_reachFor_85 : decode cX3_reachFor 85 = .ok (.invokevirtual 49, 3) := by decide +kernel
theorem dX3_reachFor_88 : decode cX3_reachFor 88 = .ok (.ireturn, 1) := by decide +kernel
theorem dX3_weightFor_0 : decode cX3_weightFor 0 = .ok (.aload_n 0, 1) := by decide +kernel
theorem dX3_weightFor_1 : decode cX3_weightFor 1 = .ok (.getfield 12, 3) := by decide +kernel
theorem dX3_weightFor_4 : decode cX3_weightFor 4 = .ok (.iload_n 1, 1) := by decide +kernel
theorem dX3_weightFor_5 : decode cX3_weightFor 5 = .ok (.invokevirtual 91, 3) := by decide +kernel
theorem dX3_weightFor_8 : decode cX3_weightFor 8 = .ok (.ifCond .eq 20, 3) := by decide +kernel
theorem dX3_weightFor_11 : decode cX3_weightFor 11 = .ok (.iload_n 2, 1) := by decide +kernel
theorem dX3_weightFor_12 : decode cX3_weightFor 12 = .ok (.invokestatic 40, 3) := by decide +kernel
theorem dX3_weightFor_15 : decode cX3_weightFor 15 = .ok (.ifCond .eq 13, 3) := by decide +kernel
theorem dX3_weightFor_18 : decode cX3_weightFor 18 = .ok (.iload_n 3, 1) := by decide +kernel
theorem dX3_weightFor_19 : decode cX3_weightFor 19 = .ok (.iconst 0, 1) := by decide +kernel
theorem dX3_weightFor_20 : decode cX3_weightFor 20 = .ok (.bipush 40, 2) := by decide +kernel
theorem dX3_weightFor_22 : decode cX3_weightFor 22 = .ok (.invokestatic 44, 3) := by decide +kernel
theorem dX3_weightFor_25 : decode cX3_weightFor 25 = .ok (.ifCond .ne 10, 3) := by decide +kernel
theorem dX3_weightFor_28 : decode cX3_weightFor 28 = .ok (.aload_n 0, 1) := by decide +kernel
theorem dX3_weightFor_29 : decode cX3_weightFor 29 = .ok (.ldc 48, 2) := by decide +kernel
theorem dX3_weightFor_31 : decode cX3_weightFor 31 = .ok (.invokevirtual 49, 3) := by decide +kernel
theorem dX3_weightFor_34 : decode cX3_weightFor 34 = .ok (.ireturn, 1) := by decide +kernel
theorem dX3_weightFor_35 : decode cX3_weightFor 35 = .ok (.getstatic 106, 3) := by decide +kernel
theorem dX3_weightFor_38 : decode cX3_weightFor 38 = .ok (.iconst 4, 1) := by decide +kernel
theorem dX3_weightFor_39 : decode cX3_weightFor 39 = .ok (.iaload, 1) := by decide +kernel
theorem dX3_weightFor_40 : decode cX3_weightFor 40 = .ok (.istore 4, 2) := by decide +kernel
theorem dX3_weightFor_42 : decode cX3_weightFor 42 = .ok (.iload 4, 2) := by decide +kernel
theorem dX3_weightFor_44 : decode cX3_weightFor 44 = .ok (.getstatic 109, 3) := by decide +kernel
theorem dX3_weightFor_47 : decode cX3_weightFor 47 = .ok (.iconst 4, 1) := by decide +kernel
theorem dX3_weightFor_48 : decode cX3_weightFor 48 = .ok (.iaload, 1) := by decide +kernel
theorem dX3_weightFor_49 : decode cX3_weightFor 49 = .ok (.if_icmp .gt 36, 3) := by decide +kernel
theorem dX3_weightFor_52 : decode cX3_weightFor 52 = .ok (.aload_n 0, 1) := by decide +kernel
theorem dX3_weightFor_53 : decode cX3_weightFor 53 = .ok (.iload_n 1, 1) := by decide +kernel
theorem dX3_weightFor_54 : decode cX3_weightFor 54 = .ok (.iconst 4, 1) := by decide +kernel
theorem dX3_weightFor_55 : decode cX3_weightFor 55 = .ok (.iload 4, 2) := by decide +kernel
theorem dX3_weightFor_57 : decode cX3_weightFor 57 = .ok (.iload_n 3, 1) := by decide +kernel
theorem dX3_weightFor_58 : decode cX3_weightFor 58 = .ok (.invokevirtual 160, 3) := by decide +kernel
theorem dX3_weightFor_61 : decode cX3_weightFor 61 = .ok (.aload_n 0, 1) := by decide +kernel
theorem dX3_weightFor_62 : decode cX3_weightFor 62 = .ok (.getfield 16, 3) := by decide +kernel
theorem dX3_weightFor_65 : decode cX3_weightFor 65 = .ok (.getfield 53, 3) := by decide +kernel
theorem dX3_weightFor_68 : decode cX3_weightFor 68 = .ok (.iconst 0, 1) := by decide +kernel
theorem dX3_weightFor_69 : decode cX3_weightFor 69 = .ok (.aaload, 1) := by decide +kernel
theorem dX3_weightFor_70 : decode cX3_weightFor 70 = .ok (.iload_n 2, 1) := by decide +kernel
theorem dX3_weightFor_71 : decode cX3_weightFor 71 = .ok (.iaload, 1) := by decide +kernel
theorem dX3_weightFor_72 : decode cX3_weightFor 72 = .ok (.iload_n 1, 1) := by decide +kernel
theorem dX3_weightFor_73 : decode cX3_weightFor 73 = .ok (.if_icmp .ne 6, 3) := by decide +kernel
theorem dX3_weightFor_76 : decode cX3_weightFor 76 = .ok (.iload 4, 2) := by decide +kernel
theorem dX3_weightFor_78 : decode cX3_weightFor 78 = .ok (.ireturn, 1) := by decide +kernel
theorem dX3_weightFor_79 : decode cX3_weightFor 79 = .ok (.iinc 4 1, 3) := by decide +kernel
theorem dX3_weightFor_82 : decode cX3_weightFor 82 = .ok (.goto (-40), 3) := by decide +kernel
theorem dX3_weightFor_85 : decode cX3_weightFor 85 = .ok (.aload_n 0, 1) := by decide +kernel
theorem dX3_weightFor_86 : decode cX3_weightFor 86 = .ok (.ldc 155, 2) := by decide +kernel
theorem dX3_weightFor_88 : decode cX3_weightFor 88 = .ok (.invokevirtual 49, 3) := by decide +kernel
theorem dX3_weightFor_91 : decode cX3_weightFor 91 = .ok (.ireturn, 1) := by decide +kernel
theorem dX3_away_0 : decode cX3_away 0 = .ok (.iload_n 1, 1) := by decide +kernel
theorem dX3_away_1 : decode cX3_away 1 = .ok (.invokestatic 40, 3) := by decide +kernel
theorem dX3_away_4 : decode cX3_away 4 = .ok (.ifCond .eq 13, 3) := by decide +kernel
theorem dX3_away_7 : decode cX3_away 7 = .ok (.iload_n 2, 1) := by decide +kernel
theorem dX3_away_8 : decode cX3_away 8 = .ok (.iconst 0, 1) := by decide +kernel
theorem dX3_away_9 : decode cX3_away 9 = .ok (.bipush 20, 2) := by decide +kernel
theorem dX3_away_11 : decode cX3_away 11 = .ok (.invokestatic 44, 3) := by decide +kernel
theorem dX3_away_14 : decode cX3_away 14 = .ok (.ifCond .ne 10, 3) := by decide +kernel
theorem dX3_away_17 : decode cX3_away 17 = .ok (.aload_n 0, 1) := by decide +kernel
theorem dX3_away_18 : decode cX3_away 18 = .ok (.ldc 48, 2) := by decide +kernel
theorem dX3_away_20 : decode cX3_away 20 = .ok (.invokevirtual 49, 3) := by decide +kernel
theorem dX3_away_23 : decode cX3_away 23 = .ok (.ireturn, 1) := by decide +kernel
theorem dX3_away_24 : decode cX3_away 24 = .ok (.iconst 1, 1) := by decide +kernel
theorem dX3_away_25 : decode cX3_away 25 = .ok (.aload_n 0, 1) := by decide +kernel
theorem dX3_away_26 : decode cX3_away 26 = .ok (.getfield 12, 3) := by decide +kernel
theorem dX3_away_29 : decode cX3_away 29 = .ok (.getfield 163, 3) := by decide +kernel
theorem dX3_away_32 : decode cX3_away 32 = .ok (.ishl, 1) := by decide +kernel
theorem dX3_away_33 : decode cX3_away 33 = .ok (.istore_n 3, 1) := by decide +kernel
theorem dX3_away_34 : decode cX3_away 34 = .ok (.iconst (-1), 1) := by decide +kernel
theorem dX3_away_35 : decode cX3_away 35 = .ok (.istore 4, 2) := by decide +kernel
theorem dX3_away_37 : decode cX3_away 37 = .ok (.iconst 0, 1) := by decide +kernel
theorem dX3_away_38 : decode cX3_away 38 = .ok (.istore 5, 2) := by decide +kernel
theorem dX3_away_40 : decode cX3_away 40 = .ok (.iload 5, 2) := by decide +kernel
theorem dX3_away_42 : decode cX3_away 42 = .ok (.iload_n 3, 1) := by decide +kernel
theorem dX3_away_43 : decode cX3_away 43 = .ok (.if_icmp .ge 55, 3) := by decide +kernel
theorem dX3_away_46 : decode cX3_away 46 = .ok (.iload 4, 2) := by decide +kernel
theorem dX3_away_48 : decode cX3_away 48 = .ok (.iconst (-1), 1) := by decide +kernel
theorem dX3_away_49 : decode cX3_away 49 = .ok (.if_icmp .eq 16, 3) := by decide +kernel
theorem dX3_away_52 : decode cX3_away 52 = .ok (.iload 5, 2) := by decide +kernel
theorem dX3_away_54 : decode cX3_away 54 = .ok (.invokestatic 166, 3) := by decide +kernel
theorem dX3_away_57 : decode cX3_away 57 = .ok (.iload 4, 2) := by decide +kernel
theorem dX3_away_59 : decode cX3_away 59 = .ok (.invokestatic 166, 3) := by decide +kernel
theorem dX3_away_62 : decode cX3_away 62 = .ok (.if_icmp .ge 7, 3) := by decide +kernel
theorem dX3_away_65 : decode cX3_away 65 = .ok (.iconst 1, 1) := by decide +kernel
theorem dX3_away_66 : decode cX3_away 66 = .ok (.goto 4, 3) := by decide +kernel
theorem dX3_away_69 : decode cX3_away 69 = .ok (.iconst 0, 1) := by decide +kernel
theorem dX3_away_70 : decode cX3_away 70 = .ok (.istore 6, 2) := by decide +kernel
theorem dX3_away_72 : decode cX3_away 72 = .ok (.iload 6, 2) := by decide +kernel
theorem dX3_away_74 : decode cX3_away 74 = .ok (.ifCond .eq 18, 3) := by decide +kernel
theorem dX3_away_77 : decode cX3_away 77 = .ok (.aload_n 0, 1) := by decide +kernel
theorem dX3_away_78 : decode cX3_away 78 = .ok (.iload 5, 2) := by decide +kernel
theorem dX3_away_80 : decode cX3_away 80 = .ok (.iload_n 1, 1) := by decide +kernel
theorem dX3_away_81 : decode cX3_away 81 = .ok (.iload_n 2, 1) := by decide +kernel
theorem dX3_away_82 : decode cX3_away 82 = .ok (.invokevirtual 171, 3) := by decide +kernel
theorem dX3_away_85 : decode cX3_away 85 = .ok (.ifCond .eq 7, 3) := by decide +kernel
theorem dX3_away_88 : decode cX3_away 88 = .ok (.iload 5, 2) := by decide +kernel
theorem dX3_away_90 : decode cX3_away 90 = .ok (.istore 4, 2) := by decide +kernel
theorem dX3_away_92 : decode cX3_away 92 = .ok (.iinc 5 1, 3) := by decide +kernel
theorem dX3_away_95 : decode cX3_away 95 = .ok (.goto (-55), 3) := by decide +kernel
theorem dX3_away_98 : decode cX3_away 98 = .ok (.iload 4, 2) := by decide +kernel
theorem dX3_away_100 : decode cX3_away 100 = .ok (.iconst (-1), 1) := by decide +kernel
theorem dX3_away_101 : decode cX3_away 101 = .ok (.if_icmp .ne 12, 3) := by decide +kernel
theorem dX3_away_104 : decode cX3_away 104 = .ok (.aload_n 0, 1) := by decide +kernel
theorem dX3_away_105 : decode cX3_away 105 = .ok (.ldc 155, 2) := by decide +kernel
theorem dX3_away_107 : decode cX3_away 107 = .ok (.invokevirtual 49, 3) := by decide +kernel
theorem dX3_away_110 : decode cX3_away 110 = .ok (.goto 5, 3) := by decide +kernel
theorem dX3_away_113 : decode cX3_away 113 = .ok (.iload 4, 2) := by decide +kernel
theorem dX3_away_115 : decode cX3_away 115 = .ok (.ireturn, 1) := by decide +kernel
theorem dX3_censor_0 : decode cX3_censor 0 = .ok (.iload_n 1, 1) := by decide +kernel
theorem dX3_censor_1 : decode cX3_censor 1 = .ok (.iconst 0, 1) := by decide +kernel
theorem dX3_censor_2 : decode cX3_censor 2 = .ok (.bipush 40, 2) := by decide +kernel
theorem dX3_censor_4 : decode cX3_censor 4 = .ok (.invokestatic 44, 3) := by decide +kernel
theorem dX3_censor_7 : decode cX3_censor 7 = .ok (.ifCond .ne 10, 3) := by decide +kernel
theorem dX3_censor_10 : decode cX3_censor 10 = .ok (.aload_n 0, 1) := by decide +kernel
theorem dX3_censor_11 : decode cX3_censor 11 = .ok (.ldc 48, 2) := by decide +kernel
theorem dX3_censor_13 : decode cX3_censor 13 = .ok (.invokevirtual 49, 3) := by decide +kernel
theorem dX3_censor_16 : decode cX3_censor 16 = .ok (.ireturn, 1) := by decide +kernel
theorem dX3_censor_17 : decode cX3_censor 17 = .ok (.aload_n 0, 1) := by decide +kernel
theorem dX3_censor_18 : decode cX3_censor 18 = .ok (.getfield 12, 3) := by decide +kernel
theorem dX3_censor_21 : decode cX3_censor 21 = .ok (.getfield 163, 3) := by decide +kernel
theorem dX3_censor_24 : decode cX3_censor 24 = .ok (.ifCond .ne 10, 3) := by decide +kernel
theorem dX3_censor_27 : decode cX3_censor 27 = .ok (.aload_n 0, 1) := by decide +kernel
theorem dX3_censor_28 : decode cX3_censor 28 = .ok (.ldc 155, 2) := by decide +kernel
theorem dX3_censor_30 : decode cX3_censor 30 = .ok (.invokevirtual 49, 3) := by decide +kernel
theorem dX3_censor_33 : decode cX3_censor 33 = .ok (.ireturn, 1) := by decide +kernel
theorem dX3_censor_34 : decode cX3_censor 34 = .ok (.iconst 0, 1) := by decide +kernel
theorem dX3_censor_35 : decode cX3_censor 35 = .ok (.istore_n 2, 1) := by decide +kernel
theorem dX3_censor_36 : decode cX3_censor 36 = .ok (.ldc 174, 2) := by decide +kernel
theorem dX3_censor_38 : decode cX3_censor 38 = .ok (.istore_n 3, 1) := by decide +kernel
theorem dX3_censor_39 : decode cX3_censor 39 = .ok (.iconst 0, 1) := by decide +kernel
theorem dX3_censor_40 : decode cX3_censor 40 = .ok (.istore 4, 2) := by decide +kernel
theorem dX3_censor_42 : decode cX3_censor 42 = .ok (.iload 4, 2) := by decide +kernel
theorem dX3_censor_44 : decode cX3_censor 44 = .ok (.aload_n 0, 1) := by decide +kernel
theorem dX3_censor_45 : decode cX3_censor 45 = .ok (.getfield 12, 3) := by decide +kernel
theorem dX3_censor_48 : decode cX3_censor 48 = .ok (.getfield 163, 3) := by decide +kernel
theorem dX3_censor_51 : decode cX3_censor 51 = .ok (.if_icmp .ge 54, 3) := by decide +kernel
theorem dX3_censor_54 : decode cX3_censor 54 = .ok (.aload_n 0, 1) := by decide +kernel
theorem dX3_censor_55 : decode cX3_censor 55 = .ok (.getfield 16, 3) := by decide +kernel
theorem dX3_censor_58 : decode cX3_censor 58 = .ok (.aload_n 0, 1) := by decide +kernel
theorem dX3_censor_59 : decode cX3_censor 59 = .ok (.getfield 12, 3) := by decide +kernel
theorem dX3_censor_62 : decode cX3_censor 62 = .ok (.invokevirtual 142, 3) := by decide +kernel
theorem dX3_censor_65 : decode cX3_censor 65 = .ok (.aload_n 0, 1) := by decide +kernel
theorem dX3_censor_66 : decode cX3_censor 66 = .ok (.getfield 16, 3) := by decide +kernel
theorem dX3_censor_69 : decode cX3_censor 69 = .ok (.iload_n 1, 1) := by decide +kernel
theorem dX3_censor_70 : decode cX3_censor 70 = .ok (.iconst 1, 1) := by decide +kernel
theorem dX3_censor_71 : decode cX3_censor 71 = .ok (.iload 4, 2) := by decide +kernel
theorem dX3_censor_73 : decode cX3_censor 73 = .ok (.ishl, 1) := by decide +kernel
theorem dX3_censor_74 : decode cX3_censor 74 = .ok (.invokevirtual 117, 3) := by decide +kernel
theorem dX3_censor_77 : decode cX3_censor 77 = .ok (.aload_n 0, 1) := by decide +kernel
theorem dX3_censor_78 : decode cX3_censor 78 = .ok (.getfield 16, 3) := by decide +kernel
theorem dX3_censor_81 : decode cX3_censor 81 = .ok (.getfield 124, 3) := by decide +kernel
theorem dX3_censor_84 : decode cX3_censor 84 = .ok (.iload_n 3, 1) := by decide +kernel
theorem dX3_censor_85 : decode cX3_censor 85 = .ok (.if_icmp .ge 14, 3) := by decide +kernel
theorem dX3_censor_88 : decode cX3_censor 88 = .ok (.aload_n 0, 1) := by decide +kernel
theorem dX3_censor_89 : decode cX3_censor 89 = .ok (.getfield 16, 3) := by decide +kernel
theorem dX3_censor_92 : decode cX3_censor 92 = .ok (.getfield 124, 3) := by decide +kernel
theorem dX3_censor_95 : decode cX3_censor 95 = .ok (.istore_n 3, 1) := by decide +kernel
theorem dX3_censor_96 : decode cX3_censor 96 = .ok (.iload 4, 2) := by decide +kernel
theorem dX3_censor_98 : decode cX3_censor 98 = .ok (.istore_n 2, 1) := by decide +kernel
theorem dX3_censor_99 : decode cX3_censor 99 = .ok (.iinc 4 1, 3) := by decide +kernel
theorem dX3_censor_102 : decode cX3_censor 102 = .ok (.goto (-60), 3) := by decide +kernel
theorem dX3_censor_105 : decode cX3_censor 105 = .ok (.iload_n 2, 1) := by decide +kernel
theorem dX3_censor_106 : decode cX3_censor 106 = .ok (.ireturn, 1) := by decide +kernel
theorem dX3_fits_0 : decode cX3_fits 0 = .ok (.aload_n 0, 1) := by decide +kernel
theorem dX3_fits_1 : decode cX3_fits 1 = .ok (.iload_n 1, 1) := by decide +kernel
theorem dX3_fits_2 : decode cX3_fits 2 = .ok (.iload_n 2, 1) := by decide +kernel
theorem dX3_fits_3 : decode cX3_fits 3 = .ok (.iload_n 3, 1) := by decide +kernel
theorem dX3_fits_4 : decode cX3_fits 4 = .ok (.invokevirtual 175, 3) := by decide +kernel
theorem dX3_fits_7 : decode cX3_fits 7 = .ok (.istore 4, 2) := by decide +kernel
theorem dX3_fits_9 : decode cX3_fits 9 = .ok (.iload 4, 2) := by decide +kernel
theorem dX3_fits_11 : decode cX3_fits 11 = .ok (.ifCond .eq 10, 3) := by decide +kernel
theorem dX3_fits_14 : decode cX3_fits 14 = .ok (.aload_n 0, 1) := by decide +kernel
theorem dX3_fits_15 : decode cX3_fits 15 = .ok (.iload 4, 2) := by decide +kernel
theorem dX3_fits_17 : decode cX3_fits 17 = .ok (.invokevirtual 49, 3) := by decide +kernel
theorem dX3_fits_20 : decode cX3_fits 20 = .ok (.ireturn, 1) := by decide +kernel
theorem dX3_fits_21 : decode cX3_fits 21 = .ok (.aload_n 0, 1) := by decide +kernel
theorem dX3_fits_22 : decode cX3_fits 22 = .ok (.iload_n 1, 1) := by decide +kernel
theorem dX3_fits_23 : decode cX3_fits 23 = .ok (.iload_n 2, 1) := by decide +kernel
theorem dX3_fits_24 : decode cX3_fits 24 = .ok (.iconst 3, 1) := by decide +kernel
theorem dX3_fits_25 : decode cX3_fits 25 = .ok (.iload_n 3, 1) := by decide +kernel
theorem dX3_fits_26 : decode cX3_fits 26 = .ok (.invokevirtual 178, 3) := by decide +kernel
theorem dX3_fits_29 : decode cX3_fits 29 = .ok (.invokestatic 166, 3) := by decide +kernel
theorem dX3_fits_32 : decode cX3_fits 32 = .ok (.ireturn, 1) := by decide +kernel
theorem dX3_strode_0 : decode cX3_strode 0 = .ok (.aload_n 0, 1) := by decide +kernel
theorem dX3_strode_1 : decode cX3_strode 1 = .ok (.iload_n 1, 1) := by decide +kernel
theorem dX3_strode_2 : decode cX3_strode 2 = .ok (.iload_n 2, 1) := by decide +kernel
theorem dX3_strode_3 : decode cX3_strode 3 = .ok (.iload_n 3, 1) := by decide +kernel
theorem dX3_strode_4 : decode cX3_strode 4 = .ok (.invokevirtual 175, 3) := by decide +kernel
theorem dX3_strode_7 : decode cX3_strode 7 = .ok (.istore 4, 2) := by decide +kernel
theorem dX3_strode_9 : decode cX3_strode 9 = .ok (.iload 4, 2) := by decide +kernel
theorem dX3_strode_11 : decode cX3_strode 11 = .ok (.ifCond .eq 10, 3) := by decide +kernel
theorem dX3_strode_14 : decode cX3_strode 14 = .ok (.aload_n 0, 1) := by decide +kernel
theorem dX3_strode_15 : decode cX3_strode 15 = .ok (.iload 4, 2) := by decide +kernel
theorem dX3_strode_17 : decode cX3_strode 17 = .ok (.invokevirtual 49, 3) := by decide +kernel
theorem dX3_strode_20 : decode cX3_strode 20 = .ok (.ireturn, 1) := by decide +kernel
theorem dX3_strode_21 : decode cX3_strode 21 = .ok (.aload_n 0, 1) := by decide +kernel
theorem dX3_strode_22 : decode cX3_strode 22 = .ok (.iload_n 1, 1) := by decide +kernel
theorem dX3_strode_23 : decode cX3_strode 23 = .ok (.iload_n 2, 1) := by decide +kernel
theorem dX3_strode_24 : decode cX3_strode 24 = .ok (.iconst 3, 1) := by decide +kernel
theorem dX3_strode_25 : decode cX3_strode 25 = .ok (.iload_n 3, 1) := by decide +kernel
theorem dX3_strode_26 : decode cX3_strode 26 = .ok (.invokevirtual 178, 3) := by decide +kernel
theorem dX3_strode_29 : decode cX3_strode 29 = .ok (.istore 5, 2) := by decide +kernel
theorem dX3_strode_31 : decode cX3_strode 31 = .ok (.iload 5, 2) := by decide +kernel
theorem dX3_strode_33 : decode cX3_strode 33 = .ok (.ifCond .ne 12, 3) := by decide +kernel
theorem dX3_strode_36 : decode cX3_strode 36 = .ok (.aload_n 0, 1) := by decide +kernel
theorem dX3_strode_37 : decode cX3_strode 37 = .ok (.ldc 155, 2) := by decide +kernel
theorem dX3_strode_39 : decode cX3_strode 39 = .ok (.invokevirtual 49, 3) := by decide +kernel
theorem dX3_strode_42 : decode cX3_strode 42 = .ok (.goto 8, 3) := by decide +kernel
theorem dX3_strode_45 : decode cX3_strode 45 = .ok (.iload 5, 2) := by decide +kernel
theorem dX3_strode_47 : decode cX3_strode 47 = .ok (.invokestatic 182, 3) := by decide +kernel
theorem dX3_strode_50 : decode cX3_strode 50 = .ok (.ireturn, 1) := by decide +kernel
theorem dX3_kinds_0 : decode cX3_kinds 0 = .ok (.aload_n 0, 1) := by decide +kernel
theorem dX3_kinds_1 : decode cX3_kinds 1 = .ok (.iload_n 1, 1) := by decide +kernel
theorem dX3_kinds_2 : decode cX3_kinds 2 = .ok (.iload_n 2, 1) := by decide +kernel
theorem dX3_kinds_3 : decode cX3_kinds 3 = .ok (.iload_n 3, 1) := by decide +kernel
theorem dX3_kinds_4 : decode cX3_kinds 4 = .ok (.invokevirtual 175, 3) := by decide +kernel
theorem dX3_kinds_7 : decode cX3_kinds 7 = .ok (.istore 4, 2) := by decide +kernel
theorem dX3_kinds_9 : decode cX3_kinds 9 = .ok (.iload 4, 2) := by decide +kernel
theorem dX3_kinds_11 : decode cX3_kinds 11 = .ok (.ifCond .eq 10, 3) := by decide +kernel
theorem dX3_kinds_14 : decode cX3_kinds 14 = .ok (.aload_n 0, 1) := by decide +kernel
theorem dX3_kinds_15 : decode cX3_kinds 15 = .ok (.iload 4, 2) := by decide +kernel
theorem dX3_kinds_17 : decode cX3_kinds 17 = .ok (.invokevirtual 49, 3) := by decide +kernel
theorem dX3_kinds_20 : decode cX3_kinds 20 = .ok (.ireturn, 1) := by decide +kernel
theorem dX3_kinds_21 : decode cX3_kinds 21 = .ok (.aload_n 0, 1) := by decide +kernel
theorem dX3_kinds_22 : decode cX3_kinds 22 = .ok (.iload_n 1, 1) := by decide +kernel
theorem dX3_kinds_23 : decode cX3_kinds 23 = .ok (.iload_n 2, 1) := by decide +kernel
theorem dX3_kinds_24 : decode cX3_kinds 24 = .ok (.iconst 0, 1) := by decide +kernel
theorem dX3_kinds_25 : decode cX3_kinds 25 = .ok (.iload_n 3, 1) := by decide +kernel
theorem dX3_kinds_26 : decode cX3_kinds 26 = .ok (.invokevirtual 178, 3) := by decide +kernel
theorem dX3_kinds_29 : decode cX3_kinds 29 = .ok (.ireturn, 1) := by decide +kernel
theorem dX3_tides_0 : decode cX3_tides 0 = .ok (.iload_n 1, 1) := by decide +kernel
theorem dX3_tides_1 : decode cX3_tides 1 = .ok (.iconst 1, 1) := by decide +kernel
theorem dX3_tides_2 : decode cX3_tides 2 = .ok (.bipush 20, 2) := by decide +kernel
theorem dX3_tides_4 : decode cX3_tides 4 = .ok (.invokestatic 44, 3) := by decide +kernel
theorem dX3_tides_7 : decode cX3_tides 7 = .ok (.ifCond .ne 10, 3) := by decide +kernel
theorem dX3_tides_10 : decode cX3_tides 10 = .ok (.aload_n 0, 1) := by decide +kernel
theorem dX3_tides_11 : decode cX3_tides 11 = .ok (.ldc 48, 2) := by decide +kernel
theorem dX3_tides_13 : decode cX3_tides 13 = .ok (.invokevirtual 49, 3) := by decide +kernel
theorem dX3_tides_16 : decode cX3_tides 16 = .ok (.ireturn, 1) := by decide +kernel
theorem dX3_tides_17 : decode cX3_tides 17 = .ok (.aload_n 0, 1) := by decide +kernel
theorem dX3_tides_18 : decode cX3_tides 18 = .ok (.getfield 12, 3) := by decide +kernel
theorem dX3_tides_21 : decode cX3_tides 21 = .ok (.getfield 112, 3) := by decide +kernel
theorem dX3_tides_24 : decode cX3_tides 24 = .ok (.iload_n 1, 1) := by decide +kernel
theorem dX3_tides_25 : decode cX3_tides 25 = .ok (.iadd, 1) := by decide +kernel
theorem dX3_tides_26 : decode cX3_tides 26 = .ok (.ldc 115, 2) := by decide +kernel
theorem dX3_tides_28 : decode cX3_tides 28 = .ok (.if_icmp .le 10, 3) := by decide +kernel
theorem dX3_tides_31 : decode cX3_tides 31 = .ok (.aload_n 0, 1) := by decide +kernel
theorem dX3_tides_32 : decode cX3_tides 32 = .ok (.ldc 116, 2) := by decide +kernel
theorem dX3_tides_34 : decode cX3_tides 34 = .ok (.invokevirtual 49, 3) := by decide +kernel
theorem dX3_tides_37 : decode cX3_tides 37 = .ok (.ireturn, 1) := by decide +kernel
theorem dX3_tides_38 : decode cX3_tides 38 = .ok (.iconst 0, 1) := by decide +kernel
theorem dX3_tides_39 : decode cX3_tides 39 = .ok (.istore_n 2, 1) := by decide +kernel
theorem dX3_tides_40 : decode cX3_tides 40 = .ok (.iload_n 2, 1) := by decide +kernel
theorem dX3_tides_41 : decode cX3_tides 41 = .ok (.iload_n 1, 1) := by decide +kernel
theorem dX3_tides_42 : decode cX3_tides 42 = .ok (.if_icmp .ge 16, 3) := by decide +kernel
theorem dX3_tides_45 : decode cX3_tides 45 = .ok (.aload_n 0, 1) := by decide +kernel
theorem dX3_tides_46 : decode cX3_tides 46 = .ok (.getfield 12, 3) := by decide +kernel
theorem dX3_tides_49 : decode cX3_tides 49 = .ok (.invokevirtual 185, 3) := by decide +kernel
theorem dX3_tides_52 : decode cX3_tides 52 = .ok (.iinc 2 1, 3) := by decide +kernel
theorem dX3_tides_55 : decode cX3_tides 55 = .ok (.goto (-15), 3) := by decide +kernel
theorem dX3_tides_58 : decode cX3_tides 58 = .ok (.aload_n 0, 1) := by decide +kernel
theorem dX3_tides_59 : decode cX3_tides 59 = .ok (.getfield 12, 3) := by decide +kernel
theorem dX3_tides_62 : decode cX3_tides 62 = .ok (.invokevirtual 121, 3) := by decide +kernel
theorem dX3_tides_65 : decode cX3_tides 65 = .ok (.ireturn, 1) := by decide +kernel
theorem dX3_odds_0 : decode cX3_odds 0 = .ok (.iload_n 1, 1) := by decide +kernel
theorem dX3_odds_1 : decode cX3_odds 1 = .ok (.invokestatic 40, 3) := by decide +kernel
theorem dX3_odds_4 : decode cX3_odds 4 = .ok (.ifCond .eq 22, 3) := by decide +kernel
theorem dX3_odds_7 : decode cX3_odds 7 = .ok (.iload_n 2, 1) := by decide +kernel
theorem dX3_odds_8 : decode cX3_odds 8 = .ok (.iconst 0, 1) := by decide +kernel
theorem dX3_odds_9 : decode cX3_odds 9 = .ok (.bipush 12, 2) := by decide +kernel
theorem dX3_odds_11 : decode cX3_odds 11 = .ok (.invokestatic 44, 3) := by decide +kernel
theorem dX3_odds_14 : decode cX3_odds 14 = .ok (.ifCond .eq 12, 3) := by decide +kernel
theorem dX3_odds_17 : decode cX3_odds 17 = .ok (.iload_n 3, 1) := by decide +kernel
theorem dX3_odds_18 : decode cX3_odds 18 = .ok (.iconst 0, 1) := by decide +kernel
theorem dX3_odds_19 : decode cX3_odds 19 = .ok (.iconst 1, 1) := by decide +kernel
theorem dX3_odds_20 : decode cX3_odds 20 = .ok (.invokestatic 44, 3) := by decide +kernel
theorem dX3_odds_23 : decode cX3_odds 23 = .ok (.ifCond .ne 11, 3) := by decide +kernel
theorem dX3_odds_26 : decode cX3_odds 26 = .ok (.aload_n 0, 1) := by decide +kernel
theorem dX3_odds_27 : decode cX3_odds 27 = .ok (.ldc 48, 2) := by decide +kernel
theorem dX3_odds_29 : decode cX3_odds 29 = .ok (.invokevirtual 49, 3) := by decide +kernel
theorem dX3_odds_32 : decode cX3_odds 32 = .ok (.i2l, 1) := by decide +kernel
theorem dX3_odds_33 : decode cX3_odds 33 = .ok (.lreturn, 1) := by decide +kernel
theorem dX3_odds_34 : decode cX3_odds 34 = .ok (.iload_n 1, 1) := by decide +kernel
theorem dX3_odds_35 : decode cX3_odds 35 = .ok (.iconst 1, 1) := by decide +kernel
theorem dX3_odds_36 : decode cX3_odds 36 = .ok (.iadd, 1) := by decide +kernel
theorem dX3_odds_37 : decode cX3_odds 37 = .ok (.istore 4, 2) := by decide +kernel
theorem dX3_odds_39 : decode cX3_odds 39 = .ok (.iload 4, 2) := by decide +kernel
theorem dX3_odds_41 : decode cX3_odds 41 = .ok (.iconst 5, 1) := by decide +kernel
theorem dX3_odds_42 : decode cX3_odds 42 = .ok (.irem, 1) := by decide +kernel
theorem dX3_odds_43 : decode cX3_odds 43 = .ok (.ifCond .ne 7, 3) := by decide +kernel
theorem dX3_odds_46 : decode cX3_odds 46 = .ok (.iconst 5, 1) := by decide +kernel
theorem dX3_odds_47 : decode cX3_odds 47 = .ok (.goto 4, 3) := by decide +kernel
theorem dX3_odds_50 : decode cX3_odds 50 = .ok (.iconst 1, 1) := by decide +kernel
theorem dX3_odds_51 : decode cX3_odds 51 = .ok (.istore 5, 2) := by decide +kernel
theorem dX3_odds_53 : decode cX3_odds 53 = .ok (.iload_n 3, 1) := by decide +kernel
theorem dX3_odds_54 : decode cX3_odds 54 = .ok (.ifCond .ne 8, 3) := by decide +kernel
theorem dX3_odds_57 : decode cX3_odds 57 = .ok (.iload 4, 2) := by decide +kernel
theorem dX3_odds_59 : decode cX3_odds 59 = .ok (.goto 5, 3) := by decide +kernel
theorem dX3_odds_62 : decode cX3_odds 62 = .ok (.bipush 25, 2) := by decide +kernel
theorem dX3_odds_64 : decode cX3_odds 64 = .ok (.iload 5, 2) := by decide +kernel
theorem dX3_odds_66 : decode cX3_odds 66 = .ok (.idiv, 1) := by decide +kernel
theorem dX3_odds_67 : decode cX3_odds 67 = .ok (.i2l, 1) := by decide +kernel
theorem dX3_odds_68 : decode cX3_odds 68 = .ok (.iload_n 2, 1) := by decide +kernel
theorem dX3_odds_69 : decode cX3_odds 69 = .ok (.invokestatic 188, 3) := by decide +kernel
theorem dX3_odds_72 : decode cX3_odds 72 = .ok (.lreturn, 1) := by decide +kernel
theorem dX3_seed_0 : decode cX3_seed 0 = .ok (.aload_n 0, 1) := by decide +kernel
theorem dX3_seed_1 : decode cX3_seed 1 = .ok (.getfield 12, 3) := by decide +kernel
theorem dX3_seed_4 : decode cX3_seed 4 = .ok (.getfield 192, 3) := by decide +kernel
theorem dX3_seed_7 : decode cX3_seed 7 = .ok (.istore_n 2, 1) := by decide +kernel
theorem dX3_seed_8 : decode cX3_seed 8 = .ok (.aload_n 0, 1) := by decide +kernel
theorem dX3_seed_9 : decode cX3_seed 9 = .ok (.getfield 12, 3) := by decide +kernel
theorem dX3_seed_12 : decode cX3_seed 12 = .ok (.iload_n 1, 1) := by decide +kernel
theorem dX3_seed_13 : decode cX3_seed 13 = .ok (.putfield 192, 3) := by decide +kernel
theorem dX3_seed_16 : decode cX3_seed 16 = .ok (.iload_n 2, 1) := by decide +kernel
theorem dX3_seed_17 : decode cX3_seed 17 = .ok (.ireturn, 1) := by decide +kernel
theorem dX3_feed_0 : decode cX3_feed 0 = .ok (.iload_n 2, 1) := by decide +kernel
theorem dX3_feed_1 : decode cX3_feed 1 = .ok (.iconst 1, 1) := by decide +kernel
theorem dX3_feed_2 : decode cX3_feed 2 = .ok (.iconst 4, 1) := by decide +kernel
theorem dX3_feed_3 : decode cX3_feed 3 = .ok (.invokestatic 44, 3) := by decide +kernel
theorem dX3_feed_6 : decode cX3_feed 6 = .ok (.ifCond .ne 10, 3) := by decide +kernel
theorem dX3_feed_9 : decode cX3_feed 9 = .ok (.aload_n 0, 1) := by decide +kernel
theorem dX3_feed_10 : decode cX3_feed 10 = .ok (.ldc 48, 2) := by decide +kernel
theorem dX3_feed_12 : decode cX3_feed 12 = .ok (.invokevirtual 49, 3) := by decide +kernel
theorem dX3_feed_15 : decode cX3_feed 15 = .ok (.ireturn, 1) := by decide +kernel
theorem dX3_feed_16 : decode cX3_feed 16 = .ok (.aload_n 0, 1) := by decide +kernel
theorem dX3_feed_17 : decode cX3_feed 17 = .ok (.getfield 25, 3) := by decide +kernel
theorem dX3_feed_20 : decode cX3_feed 20 = .ok (.iload_n 2, 1) := by decide +kernel
theorem dX3_feed_21 : decode cX3_feed 21 = .ok (.invokevirtual 195, 3) := by decide +kernel
theorem dX3_feed_24 : decode cX3_feed 24 = .ok (.ifCond .ne 10, 3) := by decide +kernel
theorem dX3_feed_27 : decode cX3_feed 27 = .ok (.aload_n 0, 1) := by decide +kernel
theorem dX3_feed_28 : decode cX3_feed 28 = .ok (.ldc 86, 2) := by decide +kernel
theorem dX3_feed_30 : decode cX3_feed 30 = .ok (.invokevirtual 49, 3) := by decide +kernel
theorem dX3_feed_33 : decode cX3_feed 33 = .ok (.ireturn, 1) := by decide +kernel
theorem dX3_feed_34 : decode cX3_feed 34 = .ok (.iload_n 2, 1) := by decide +kernel
theorem dX3_feed_35 : decode cX3_feed 35 = .ok (.iconst 1, 1) := by decide +kernel
theorem dX3_feed_36 : decode cX3_feed 36 = .ok (.isub, 1) := by decide +kernel
theorem dX3_feed_37 : decode cX3_feed 37 = .ok (.istore_n 3, 1) := by decide +kernel
theorem dX3_feed_38 : decode cX3_feed 38 = .ok (.iload_n 3, 1) := by decide +kernel
theorem dX3_feed_39 : decode cX3_feed 39 = .ok (.ifCond .lt 22, 3) := by decide +kernel
theorem dX3_feed_42 : decode cX3_feed 42 = .ok (.aload_n 0, 1) := by decide +kernel
theorem dX3_feed_43 : decode cX3_feed 43 = .ok (.getfield 25, 3) := by decide +kernel
theorem dX3_feed_46 : decode cX3_feed 46 = .ok (.iload_n 1, 1) := by decide +kernel
theorem dX3_feed_47 : decode cX3_feed 47 = .ok (.bipush 8, 2) := by decide +kernel
theorem dX3_feed_49 : decode cX3_feed 49 = .ok (.iload_n 3, 1) := by decide +kernel
theorem dX3_feed_50 : decode cX3_feed 50 = .ok (.imul, 1) := by decide +kernel
theorem dX3_feed_51 : decode cX3_feed 51 = .ok (.iushr, 1) := by decide +kernel
theorem dX3_feed_52 : decode cX3_feed 52 = .ok (.invokevirtual 197, 3) := by decide +kernel
theorem dX3_feed_55 : decode cX3_feed 55 = .ok (.iinc 3 (-1), 3) := by decide +kernel
theorem dX3_feed_58 : decode cX3_feed 58 = .ok (.goto (-20), 3) := by decide +kernel
theorem dX3_feed_61 : decode cX3_feed 61 = .ok (.aload_n 0, 1) := by decide +kernel
theorem dX3_feed_62 : decode cX3_feed 62 = .ok (.getfield 25, 3) := by decide +kernel
theorem dX3_feed_65 : decode cX3_feed 65 = .ok (.getfield 200, 3) := by decide +kernel
theorem dX3_feed_68 : decode cX3_feed 68 = .ok (.ireturn, 1) := by decide +kernel
theorem dX3_wipe_0 : decode cX3_wipe 0 = .ok (.aload_n 0, 1) := by decide +kernel
theorem dX3_wipe_1 : decode cX3_wipe 1 = .ok (.getfield 25, 3) := by decide +kernel
theorem dX3_wipe_4 : decode cX3_wipe 4 = .ok (.getfield 200, 3) := by decide +kernel
theorem dX3_wipe_7 : decode cX3_wipe 7 = .ok (.istore_n 1, 1) := by decide +kernel
theorem dX3_wipe_8 : decode cX3_wipe 8 = .ok (.aload_n 0, 1) := by decide +kernel
theorem dX3_wipe_9 : decode cX3_wipe 9 = .ok (.getfield 25, 3) := by decide +kernel
theorem dX3_wipe_12 : decode cX3_wipe 12 = .ok (.iconst 0, 1) := by decide +kernel
theorem dX3_wipe_13 : decode cX3_wipe 13 = .ok (.putfield 200, 3) := by decide +kernel
theorem dX3_wipe_16 : decode cX3_wipe 16 = .ok (.iload_n 1, 1) := by decide +kernel
theorem dX3_wipe_17 : decode cX3_wipe 17 = .ok (.ireturn, 1) := by decide +kernel
theorem dX3_text_0 : decode cX3_text 0 = .ok (.aload_n 0, 1) := by decide +kernel
theorem dX3_text_1 : decode cX3_text 1 = .ok (.getfield 16, 3) := by decide +kernel
theorem dX3_text_4 : decode cX3_text 4 = .ok (.aload_n 0, 1) := by decide +kernel
theorem dX3_text_5 : decode cX3_text 5 = .ok (.getfield 12, 3) := by decide +kernel
theorem dX3_text_8 : decode cX3_text 8 = .ok (.invokevirtual 142, 3) := by decide +kernel
theorem dX3_text_11 : decode cX3_text 11 = .ok (.aload_n 0, 1) := by decide +kernel
theorem dX3_text_12 : decode cX3_text 12 = .ok (.getfield 25, 3) := by decide +kernel
theorem dX3_text_15 : decode cX3_text 15 = .ok (.aload_n 0, 1) := by decide +kernel
theorem dX3_text_16 : decode cX3_text 16 = .ok (.getfield 16, 3) := by decide +kernel
theorem dX3_text_19 : decode cX3_text 19 = .ok (.invokevirtual 203, 3) := by decide +kernel
theorem dX3_text_22 : decode cX3_text 22 = .ok (.istore_n 1, 1) := by decide +kernel
theorem dX3_text_23 : decode cX3_text 23 = .ok (.aload_n 0, 1) := by decide +kernel
theorem dX3_text_24 : decode cX3_text 24 = .ok (.getfield 25, 3) := by decide +kernel
theorem dX3_text_27 : decode cX3_text 27 = .ok (.iconst 0, 1) := by decide +kernel
theorem dX3_text_28 : decode cX3_text 28 = .ok (.putfield 200, 3) := by decide +kernel
theorem dX3_text_31 : decode cX3_text 31 = .ok (.iload_n 1, 1) := by decide +kernel
theorem dX3_text_32 : decode cX3_text 32 = .ok (.ifCond .lt 14, 3) := by decide +kernel
theorem dX3_text_35 : decode cX3_text 35 = .ok (.aload_n 0, 1) := by decide +kernel
theorem dX3_text_36 : decode cX3_text 36 = .ok (.getfield 12, 3) := by decide +kernel
theorem dX3_text_39 : decode cX3_text 39 = .ok (.aload_n 0, 1) := by decide +kernel
theorem dX3_text_40 : decode cX3_text 40 = .ok (.getfield 16, 3) := by decide +kernel
theorem dX3_text_43 : decode cX3_text 43 = .ok (.invokevirtual 142, 3) := by decide +kernel
theorem dX3_text_46 : decode cX3_text 46 = .ok (.iload_n 1, 1) := by decide +kernel
theorem dX3_text_47 : decode cX3_text 47 = .ok (.ireturn, 1) := by decide +kernel
theorem dX3_hold_0 : decode cX3_hold 0 = .ok (.iload_n 1, 1) := by decide +kernel
theorem dX3_hold_1 : decode cX3_hold 1 = .ok (.iconst 0, 1) := by decide +kernel
theorem dX3_hold_2 : decode cX3_hold 2 = .ok (.bipush 9, 2) := by decide +kernel
theorem dX3_hold_4 : decode cX3_hold 4 = .ok (.invokestatic 44, 3) := by decide +kernel
theorem dX3_hold_7 : decode cX3_hold 7 = .ok (.ifCond .eq 14, 3) := by decide +kernel
theorem dX3_hold_10 : decode cX3_hold 10 = .ok (.aload_n 0, 1) := by decide +kernel
theorem dX3_hold_11 : decode cX3_hold 11 = .ok (.getfield 12, 3) := by decide +kernel
theorem dX3_hold_14 : decode cX3_hold 14 = .ok (.iload_n 2, 1) := by decide +kernel
theorem dX3_hold_15 : decode cX3_hold 15 = .ok (.invokevirtual 60, 3) := by decide +kernel
theorem dX3_hold_18 : decode cX3_hold 18 = .ok (.ifCond .ne 10, 3) := by decide +kernel
theorem dX3_hold_21 : decode cX3_hold 21 = .ok (.aload_n 0, 1) := by decide +kernel
theorem dX3_hold_22 : decode cX3_hold 22 = .ok (.ldc 48, 2) := by decide +kernel
theorem dX3_hold_24 : decode cX3_hold 24 = .ok (.invokevirtual 49, 3) := by decide +kernel
theorem dX3_hold_27 : decode cX3_hold 27 = .ok (.ireturn, 1) := by decide +kernel
theorem dX3_hold_28 : decode cX3_hold 28 = .ok (.aload_n 0, 1) := by decide +kernel
theorem dX3_hold_29 : decode cX3_hold 29 = .ok (.getfield 12, 3) := by decide +kernel
theorem dX3_hold_32 : decode cX3_hold 32 = .ok (.getfield 207, 3) := by decide +kernel
theorem dX3_hold_35 : decode cX3_hold 35 = .ok (.iload_n 1, 1) := by decide +kernel
theorem dX3_hold_36 : decode cX3_hold 36 = .ok (.iload_n 2, 1) := by decide +kernel
theorem dX3_hold_37 : decode cX3_hold 37 = .ok (.iastore, 1) := by decide +kernel
theorem dX3_hold_38 : decode cX3_hold 38 = .ok (.iconst 1, 1) := by decide +kernel
theorem dX3_hold_39 : decode cX3_hold 39 = .ok (.ireturn, 1) := by decide +kernel
theorem dX3_as_0 : decode cX3_as 0 = .ok (.iload_n 1, 1) := by decide +kernel
theorem dX3_as_1 : decode cX3_as 1 = .ok (.iconst 0, 1) := by decide +kernel
theorem dX3_as_2 : decode cX3_as 2 = .ok (.bipush 9, 2) := by decide +kernel
theorem dX3_as_4 : decode cX3_as 4 = .ok (.invokestatic 44, 3) := by decide +kernel
theorem dX3_as_7 : decode cX3_as 7 = .ok (.ifCond .eq 13, 3) := by decide +kernel
theorem dX3_as_10 : decode cX3_as 10 = .ok (.iload_n 2, 1) := by decide +kernel
theorem dX3_as_11 : decode cX3_as 11 = .ok (.iconst 0, 1) := by decide +kernel
theorem dX3_as_12 : decode cX3_as 12 = .ok (.bipush 6, 2) := by decide +kernel
theorem dX3_as_14 : decode cX3_as 14 = .ok (.invokestatic 44, 3) := by decide +kernel
theorem dX3_as_17 : decode cX3_as 17 = .ok (.ifCond .ne 10, 3) := by decide +kernel
theorem dX3_as_20 : decode cX3_as 20 = .ok (.aload_n 0, 1) := by decide +kernel
theorem dX3_as_21 : decode cX3_as 21 = .ok (.ldc 48, 2) := by decide +kernel
theorem dX3_as_23 : decode cX3_as 23 = .ok (.invokevirtual 49, 3) := by decide +kernel
theorem dX3_as_26 : decode cX3_as 26 = .ok (.ireturn, 1) := by decide +kernel
theorem dX3_as_27 : decode cX3_as 27 = .ok (.aload_n 0, 1) := by decide +kernel
theorem dX3_as_28 : decode cX3_as 28 = .ok (.getfield 12, 3) := by decide +kernel
theorem dX3_as_31 : decode cX3_as 31 = .ok (.getfield 207, 3) := by decide +kernel
theorem dX3_as_34 : decode cX3_as 34 = .ok (.iload_n 1, 1) := by decide +kernel
theorem dX3_as_35 : decode cX3_as 35 = .ok (.iaload, 1) := by decide +kernel
theorem dX3_as_36 : decode cX3_as 36 = .ok (.istore_n 3, 1) := by decide +kernel
theorem dX3_as_37 : decode cX3_as 37 = .ok (.aload_n 0, 1) := by decide +kernel
theorem dX3_as_38 : decode cX3_as 38 = .ok (.getfield 12, 3) := by decide +kernel
theorem dX3_as_41 : decode cX3_as 41 = .ok (.iload_n 3, 1) := by decide +kernel
theorem dX3_as_42 : decode cX3_as 42 = .ok (.invokevirtual 91, 3) := by decide +kernel
theorem dX3_as_45 : decode cX3_as 45 = .ok (.ifCond .ne 10, 3) := by decide +kernel
theorem dX3_as_48 : decode cX3_as 48 = .ok (.aload_n 0, 1) := by decide +kernel
theorem dX3_as_49 : decode cX3_as 49 = .ok (.ldc 210, 2) := by decide +kernel
theorem dX3_as_51 : decode cX3_as 51 = .ok (.invokevirtual 49, 3) := by decide +kernel
theorem dX3_as_54 : decode cX3_as 54 = .ok (.ireturn, 1) := by decide +kernel
theorem dX3_as_55 : decode cX3_as 55 = .ok (.aload_n 0, 1) := by decide +kernel
theorem dX3_as_56 : decode cX3_as 56 = .ok (.getfield 12, 3) := by decide +kernel
theorem dX3_as_59 : decode cX3_as 59 = .ok (.getfield 67, 3) := by decide +kernel
theorem dX3_as_62 : decode cX3_as 62 = .ok (.iconst 0, 1) := by decide +kernel
theorem dX3_as_63 : decode cX3_as 63 = .ok (.aaload, 1) := by decide +kernel
theorem dX3_as_64 : decode cX3_as 64 = .ok (.iload_n 3, 1) := by decide +kernel
theorem dX3_as_65 : decode cX3_as 65 = .ok (.iaload, 1) := by decide +kernel
theorem dX3_as_66 : decode cX3_as 66 = .ok (.iload_n 2, 1) := by decide +kernel
theorem dX3_as_67 : decode cX3_as 67 = .ok (.invokestatic 211, 3) := by decide +kernel
theorem dX3_as_70 : decode cX3_as 70 = .ok (.ifCond .eq 7, 3) := by decide +kernel
theorem dX3_as_73 : decode cX3_as 73 = .ok (.iload_n 3, 1) := by decide +kernel
theorem dX3_as_74 : decode cX3_as 74 = .ok (.goto 9, 3) := by decide +kernel
theorem dX3_as_77 : decode cX3_as 77 = .ok (.aload_n 0, 1) := by decide +kernel
theorem dX3_as_78 : decode cX3_as 78 = .ok (.ldc 215, 2) := by decide +kernel
theorem dX3_as_80 : decode cX3_as 80 = .ok (.invokevirtual 49, 3) := by decide +kernel
theorem dX3_as_83 : decode cX3_as 83 = .ok (.ireturn, 1) := by decide +kernel
theorem dX3_sheet_0 : decode cX3_sheet 0 = .ok (.iload_n 1, 1) := by decide +kernel
theorem dX3_sheet_1 : decode cX3_sheet 1 = .ok (.invokestatic 216, 3) := by decide +kernel
theorem dX3_sheet_4 : decode cX3_sheet 4 = .ok (.ifCond .eq 10, 3) := by decide +kernel
theorem dX3_sheet_7 : decode cX3_sheet 7 = .ok (.iload_n 2, 1) := by decide +kernel
theorem dX3_sheet_8 : decode cX3_sheet 8 = .ok (.invokestatic 219, 3) := by decide +kernel
theorem dX3_sheet_11 : decode cX3_sheet 11 = .ok (.ifCond .ne 10, 3) := by decide +kernel
theorem dX3_sheet_14 : decode cX3_sheet 14 = .ok (.aload_n 0, 1) := by decide +kernel
theorem dX3_sheet_15 : decode cX3_sheet 15 = .ok (.ldc 48, 2) := by decide +kernel
theorem dX3_sheet_17 : decode cX3_sheet 17 = .ok (.invokevirtual 49, 3) := by decide +kernel
theorem dX3_sheet_20 : decode cX3_sheet 20 = .ok (.ireturn, 1) := by decide +kernel
theorem dX3_sheet_21 : decode cX3_sheet 21 = .ok (.iload_n 3, 1) := by decide +kernel
theorem dX3_sheet_22 : decode cX3_sheet 22 = .ok (.ifCond .ge 10, 3) := by decide +kernel
theorem dX3_sheet_25 : decode cX3_sheet 25 = .ok (.aload_n 0, 1) := by decide +kernel
theorem dX3_sheet_26 : decode cX3_sheet 26 = .ok (.ldc 222, 2) := by decide +kernel
theorem dX3_sheet_28 : decode cX3_sheet 28 = .ok (.invokevirtual 49, 3) := by decide +kernel
theorem dX3_sheet_31 : decode cX3_sheet 31 = .ok (.ireturn, 1) := by decide +kernel
theorem dX3_sheet_32 : decode cX3_sheet 32 = .ok (.iload_n 3, 1) := by decide +kernel
theorem dX3_sheet_33 : decode cX3_sheet 33 = .ok (.bipush 40, 2) := by decide +kernel
theorem dX3_sheet_35 : decode cX3_sheet 35 = .ok (.if_icmp .le 10, 3) := by decide +kernel
theorem dX3_sheet_38 : decode cX3_sheet 38 = .ok (.aload_n 0, 1) := by decide +kernel
theorem dX3_sheet_39 : decode cX3_sheet 39 = .ok (.ldc 48, 2) := by decide +kernel
theorem dX3_sheet_41 : decode cX3_sheet 41 = .ok (.invokevirtual 49, 3) := by decide +kernel
theorem dX3_sheet_44 : decode cX3_sheet 44 = .ok (.ireturn, 1) := by decide +kernel
theorem dX3_sheet_45 : decode cX3_sheet 45 = .ok (.aload_n 0, 1) := by decide +kernel
theorem dX3_sheet_46 : decode cX3_sheet 46 = .ok (.getfield 32, 3) := by decide +kernel
theorem dX3_sheet_49 : decode cX3_sheet 49 = .ok (.iload_n 1, 1) := by decide +kernel
theorem dX3_sheet_50 : decode cX3_sheet 50 = .ok (.iload_n 2, 1) := by decide +kernel
theorem dX3_sheet_51 : decode cX3_sheet 51 = .ok (.iload_n 3, 1) := by decide +kernel
theorem dX3_sheet_52 : decode cX3_sheet 52 = .ok (.invokevirtual 223, 3) := by decide +kernel
theorem dX3_sheet_55 : decode cX3_sheet 55 = .ok (.ireturn, 1) := by decide +kernel
theorem dX3_write_0 : decode cX3_write 0 = .ok (.aload_n 0, 1) := by decide +kernel
theorem dX3_write_1 : decode cX3_write 1 = .ok (.getfield 32, 3) := by decide +kernel
theorem dX3_write_4 : decode cX3_write 4 = .ok (.iload_n 1, 1) := by decide +kernel
theorem dX3_write_5 : decode cX3_write 5 = .ok (.invokevirtual 226, 3) := by decide +kernel
theorem dX3_write_8 : decode cX3_write 8 = .ok (.istore 4, 2) := by decide +kernel
theorem dX3_write_10 : decode cX3_write 10 = .ok (.iload 4, 2) := by decide +kernel
theorem dX3_write_12 : decode cX3_write 12 = .ok (.ifCond .eq 10, 3) := by decide +kernel
theorem dX3_write_15 : decode cX3_write 15 = .ok (.aload_n 0, 1) := by decide +kernel
theorem dX3_write_16 : decode cX3_write 16 = .ok (.iload 4, 2) := by decide +kernel
theorem dX3_write_18 : decode cX3_write 18 = .ok (.invokevirtual 49, 3) := by decide +kernel
theorem dX3_write_21 : decode cX3_write 21 = .ok (.ireturn, 1) := by decide +kernel
theorem dX3_write_22 : decode cX3_write 22 = .ok (.iload_n 2, 1) := by decide +kernel
theorem dX3_write_23 : decode cX3_write 23 = .ok (.iconst 0, 1) := by decide +kernel
theorem dX3_write_24 : decode cX3_write 24 = .ok (.aload_n 0, 1) := by decide +kernel
theorem dX3_write_25 : decode cX3_write 25 = .ok (.getfield 32, 3) := by decide +kernel
theorem dX3_write_28 : decode cX3_write 28 = .ok (.getfield 229, 3) := by decide +kernel
theorem dX3_write_31 : decode cX3_write 31 = .ok (.iload_n 1, 1) := by decide +kernel
theorem dX3_write_32 : decode cX3_write 32 = .ok (.iaload, 1) := by decide +kernel
theorem dX3_write_33 : decode cX3_write 33 = .ok (.iconst 1, 1) := by decide +kernel
theorem dX3_write_34 : decode cX3_write 34 = .ok (.isub, 1) := by decide +kernel
theorem dX3_write_35 : decode cX3_write 35 = .ok (.invokestatic 44, 3) := by decide +kernel
theorem dX3_write_38 : decode cX3_write 38 = .ok (.ifCond .ne 10, 3) := by decide +kernel
theorem dX3_write_41 : decode cX3_write 41 = .ok (.aload_n 0, 1) := by decide +kernel
theorem dX3_write_42 : decode cX3_write 42 = .ok (.ldc 48, 2) := by decide +kernel
theorem dX3_write_44 : decode cX3_write 44 = .ok (.invokevirtual 49, 3) := by decide +kernel
theorem dX3_write_47 : decode cX3_write 47 = .ok (.ireturn, 1) := by decide +kernel
theorem dX3_write_48 : decode cX3_write 48 = .ok (.aload_n 0, 1) := by decide +kernel
theorem dX3_write_49 : decode cX3_write 49 = .ok (.getfield 32, 3) := by decide +kernel
theorem dX3_write_52 : decode cX3_write 52 = .ok (.iload_n 1, 1) := by decide +kernel
theorem dX3_write_53 : decode cX3_write 53 = .ok (.iload_n 2, 1) := by decide +kernel
theorem dX3_write_54 : decode cX3_write 54 = .ok (.iload_n 3, 1) := by decide +kernel
theorem dX3_write_55 : decode cX3_write 55 = .ok (.invokevirtual 232, 3) := by decide +kernel
theorem dX3_write_58 : decode cX3_write 58 = .ok (.iconst 1, 1) := by decide +kernel
theorem dX3_write_59 : decode cX3_write 59 = .ok (.ireturn, 1) := by decide +kernel
theorem dX3_copy_0 : decode cX3_copy 0 = .ok (.iload_n 1, 1) := by decide +kernel
theorem dX3_copy_1 : decode cX3_copy 1 = .ok (.invokestatic 216, 3) := by decide +kernel
theorem dX3_copy_4 : decode cX3_copy 4 = .ok (.ifCond .eq 10, 3) := by decide +kernel
theorem dX3_copy_7 : decode cX3_copy 7 = .ok (.iload_n 3, 1) := by decide +kernel
theorem dX3_copy_8 : decode cX3_copy 8 = .ok (.invokestatic 216, 3) := by decide +kernel
theorem dX3_copy_11 : decode cX3_copy 11 = .ok (.ifCond .ne 10, 3) := by decide +kernel
theorem dX3_copy_14 : decode cX3_copy 14 = .ok (.aload_n 0, 1) := by decide +kernel
theorem dX3_copy_15 : decode cX3_copy 15 = .ok (.ldc 48, 2) := by decide +kernel
theorem dX3_copy_17 : decode cX3_copy 17 = .ok (.invokevirtual 49, 3) := by decide +kernel
theorem dX3_copy_20 : decode cX3_copy 20 = .ok (.ireturn, 1) := by decide +kernel
theorem dX3_copy_21 : decode cX3_copy 21 = .ok (.aload_n 0, 1) := by decide +kernel
theorem dX3_copy_22 : decode cX3_copy 22 = .ok (.getfield 32, 3) := by decide +kernel
theorem dX3_copy_25 : decode cX3_copy 25 = .ok (.iload_n 1, 1) := by decide +kernel
theorem dX3_copy_26 : decode cX3_copy 26 = .ok (.invokevirtual 235, 3) := by decide +kernel
theorem dX3_copy_29 : decode cX3_copy 29 = .ok (.ifCond .ne 14, 3) := by decide +kernel
theorem dX3_copy_32 : decode cX3_copy 32 = .ok (.aload_n 0, 1) := by decide +kernel
theorem dX3_copy_33 : decode cX3_copy 33 = .ok (.getfield 32, 3) := by decide +kernel
theorem dX3_copy_36 : decode cX3_copy 36 = .ok (.iload_n 3, 1) := by decide +kernel
theorem dX3_copy_37 : decode cX3_copy 37 = .ok (.invokevirtual 235, 3) := by decide +kernel
theorem dX3_copy_40 : decode cX3_copy 40 = .ok (.ifCond .eq 10, 3) := by decide +kernel
theorem dX3_copy_43 : decode cX3_copy 43 = .ok (.aload_n 0, 1) := by decide +kernel
theorem dX3_copy_44 : decode cX3_copy 44 = .ok (.ldc 210, 2) := by decide +kernel
theorem dX3_copy_46 : decode cX3_copy 46 = .ok (.invokevirtual 49, 3) := by decide +kernel
theorem dX3_copy_49 : decode cX3_copy 49 = .ok (.ireturn, 1) := by decide +kernel
theorem dX3_copy_50 : decode cX3_copy 50 = .ok (.aload_n 0, 1) := by decide +kernel
theorem dX3_copy_51 : decode cX3_copy 51 = .ok (.getfield 32, 3) := by decide +kernel
theorem dX3_copy_54 : decode cX3_copy 54 = .ok (.getfield 238, 3) := by decide +kernel
theorem dX3_copy_57 : decode cX3_copy 57 = .ok (.iload_n 1, 1) := by decide +kernel
theorem dX3_copy_58 : decode cX3_copy 58 = .ok (.iaload, 1) := by decide +kernel
theorem dX3_copy_59 : decode cX3_copy 59 = .ok (.aload_n 0, 1) := by decide +kernel
theorem dX3_copy_60 : decode cX3_copy 60 = .ok (.getfield 32, 3) := by decide +kernel
theorem dX3_copy_63 : decode cX3_copy 63 = .ok (.getfield 238, 3) := by decide +kernel
theorem dX3_copy_66 : decode cX3_copy 66 = .ok (.iload_n 3, 1) := by decide +kernel
theorem dX3_copy_67 : decode cX3_copy 67 = .ok (.iaload, 1) := by decide +kernel
theorem dX3_copy_68 : decode cX3_copy 68 = .ok (.if_icmp .eq 10, 3) := by decide +kernel
theorem dX3_copy_71 : decode cX3_copy 71 = .ok (.aload_n 0, 1) := by decide +kernel
theorem dX3_copy_72 : decode cX3_copy 72 = .ok (.ldc 215, 2) := by decide +kernel
theorem dX3_copy_74 : decode cX3_copy 74 = .ok (.invokevirtual 49, 3) := by decide +kernel
theorem dX3_copy_77 : decode cX3_copy 77 = .ok (.ireturn, 1) := by decide +kernel
theorem dX3_copy_78 : decode cX3_copy 78 = .ok (.aload_n 0, 1) := by decide +kernel
theorem dX3_copy_79 : decode cX3_copy 79 = .ok (.getfield 32, 3) := by decide +kernel
theorem dX3_copy_82 : decode cX3_copy 82 = .ok (.iload_n 1, 1) := by decide +kernel
theorem dX3_copy_83 : decode cX3_copy 83 = .ok (.iload_n 2, 1) := by decide +kernel
theorem dX3_copy_84 : decode cX3_copy 84 = .ok (.iload 5, 2) := by decide +kernel
theorem dX3_copy_86 : decode cX3_copy 86 = .ok (.invokevirtual 241, 3) := by decide +kernel
theorem dX3_copy_89 : decode cX3_copy 89 = .ok (.ifCond .eq 18, 3) := by decide +kernel
theorem dX3_copy_92 : decode cX3_copy 92 = .ok (.aload_n 0, 1) := by decide +kernel
theorem dX3_copy_93 : decode cX3_copy 93 = .ok (.getfield 32, 3) := by decide +kernel
theorem dX3_copy_96 : decode cX3_copy 96 = .ok (.iload_n 3, 1) := by decide +kernel
theorem dX3_copy_97 : decode cX3_copy 97 = .ok (.iload 4, 2) := by decide +kernel
theorem dX3_copy_99 : decode cX3_copy 99 = .ok (.iload 5, 2) := by decide +kernel
theorem dX3_copy_101 : decode cX3_copy 101 = .ok (.invokevirtual 241, 3) := by decide +kernel
theorem dX3_copy_104 : decode cX3_copy 104 = .ok (.ifCond .ne 10, 3) := by decide +kernel
theorem dX3_copy_107 : decode cX3_copy 107 = .ok (.aload_n 0, 1) := by decide +kernel
theorem dX3_copy_108 : decode cX3_copy 108 = .ok (.ldc 48, 2) := by decide +kernel
theorem dX3_copy_110 : decode cX3_copy 110 = .ok (.invokevirtual 49, 3) := by decide +kernel
theorem dX3_copy_113 : decode cX3_copy 113 = .ok (.ireturn, 1) := by decide +kernel
theorem dX3_copy_114 : decode cX3_copy 114 = .ok (.aload_n 0, 1) := by decide +kernel
theorem dX3_copy_115 : decode cX3_copy 115 = .ok (.getfield 32, 3) := by decide +kernel
theorem dX3_copy_118 : decode cX3_copy 118 = .ok (.getfield 244, 3) := by decide +kernel
theorem dX3_copy_121 : decode cX3_copy 121 = .ok (.iload_n 1, 1) := by decide +kernel
theorem dX3_copy_122 : decode cX3_copy 122 = .ok (.aaload, 1) := by decide +kernel
theorem dX3_copy_123 : decode cX3_copy 123 = .ok (.iload_n 2, 1) := by decide +kernel
theorem dX3_copy_124 : decode cX3_copy 124 = .ok (.aload_n 0, 1) := by decide +kernel
theorem dX3_copy_125 : decode cX3_copy 125 = .ok (.getfield 32, 3) := by decide +kernel
theorem dX3_copy_128 : decode cX3_copy 128 = .ok (.getfield 244, 3) := by decide +kernel
theorem dX3_copy_131 : decode cX3_copy 131 = .ok (.iload_n 3, 1) := by decide +kernel
theorem dX3_copy_132 : decode cX3_copy 132 = .ok (.aaload, 1) := by decide +kernel
theorem dX3_copy_133 : decode cX3_copy 133 = .ok (.iload 4, 2) := by decide +kernel
theorem dX3_copy_135 : decode cX3_copy 135 = .ok (.iload 5, 2) := by decide +kernel
theorem dX3_copy_137 : decode cX3_copy 137 = .ok (.invokestatic 247, 3) := by decide +kernel
theorem dX3_copy_140 : decode cX3_copy 140 = .ok (.iload 5, 2) := by decide +kernel
theorem dX3_copy_142 : decode cX3_copy 142 = .ok (.ireturn, 1) := by decide +kernel
theorem dX3_load_0 : decode cX3_load 0 = .ok (.aload_n 0, 1) := by decide +kernel
theorem dX3_load_1 : decode cX3_load 1 = .ok (.getfield 32, 3) := by decide +kernel
theorem dX3_load_4 : decode cX3_load 4 = .ok (.iload_n 1, 1) := by decide +kernel
theorem dX3_load_5 : decode cX3_load 5 = .ok (.invokevirtual 226, 3) := by decide +kernel
theorem dX3_load_8 : decode cX3_load 8 = .ok (.istore_n 2, 1) := by decide +kernel
theorem dX3_load_9 : decode cX3_load 9 = .ok (.iload_n 2, 1) := by decide +kernel
theorem dX3_load_10 : decode cX3_load 10 = .ok (.ifCond .eq 9, 3) := by decide +kernel
theorem dX3_load_13 : decode cX3_load 13 = .ok (.aload_n 0, 1) := by decide +kernel
theorem dX3_load_14 : decode cX3_load 14 = .ok (.iload_n 2, 1) := by decide +kernel
theorem dX3_load_15 : decode cX3_load 15 = .ok (.invokevirtual 49, 3) := by decide +kernel
theorem dX3_load_18 : decode cX3_load 18 = .ok (.ireturn, 1) := by decide +kernel
theorem dX3_load_19 : decode cX3_load 19 = .ok (.aload_n 0, 1) := by decide +kernel
theorem dX3_load_20 : decode cX3_load 20 = .ok (.getfield 32, 3) := by decide +kernel
theorem dX3_load_23 : decode cX3_load 23 = .ok (.getfield 229, 3) := by decide +kernel
theorem dX3_load_26 : decode cX3_load 26 = .ok (.iload_n 1, 1) := by decide +kernel
theorem dX3_load_27 : decode cX3_load 27 = .ok (.iaload, 1) := by decide +kernel
theorem dX3_load_28 : decode cX3_load 28 = .ok (.aload_n 0, 1) := by decide +kernel
theorem dX3_load_29 : decode cX3_load 29 = .ok (.getfield 12, 3) := by decide +kernel
theorem dX3_load_32 : decode cX3_load 32 = .ok (.getfield 163, 3) := by decide +kernel
theorem dX3_load_35 : decode cX3_load 35 = .ok (.invokestatic 253, 3) := by decide +kernel
theorem dX3_load_38 : decode cX3_load 38 = .ok (.istore_n 3, 1) := by decide +kernel
theorem dX3_load_39 : decode cX3_load 39 = .ok (.iconst 0, 1) := by decide +kernel
theorem dX3_load_40 : decode cX3_load 40 = .ok (.istore 4, 2) := by decide +kernel
theorem dX3_load_42 : decode cX3_load 42 = .ok (.iload 4, 2) := by decide +kernel
theorem dX3_load_44 : decode cX3_load 44 = .ok (.iload_n 3, 1) := by decide +kernel
theorem dX3_load_45 : decode cX3_load 45 = .ok (.if_icmp .ge 58, 3) := by decide +kernel
theorem dX3_load_48 : decode cX3_load 48 = .ok (.aload_n 0, 1) := by decide +kernel
theorem dX3_load_49 : decode cX3_load 49 = .ok (.getfield 32, 3) := by decide +kernel
theorem dX3_load_52 : decode cX3_load 52 = .ok (.getfield 244, 3) := by decide +kernel
theorem dX3_load_55 : decode cX3_load 55 = .ok (.iload_n 1, 1) := by decide +kernel
theorem dX3_load_56 : decode cX3_load 56 = .ok (.aaload, 1) := by decide +kernel
theorem dX3_load_57 : decode cX3_load 57 = .ok (.iload 4, 2) := by decide +kernel
theorem dX3_load_59 : decode cX3_load 59 = .ok (.iaload, 1) := by decide +kernel
theorem dX3_load_60 : decode cX3_load 60 = .ok (.istore 5, 2) := by decide +kernel
theorem dX3_load_62 : decode cX3_load 62 = .ok (.iload 5, 2) := by decide +kernel
theorem dX3_load_64 : decode cX3_load 64 = .ok (.getstatic 106, 3) := by decide +kernel
theorem dX3_load_67 : decode cX3_load 67 = .ok (.iconst 3, 1) := by decide +kernel
theorem dX3_load_68 : decode cX3_load 68 = .ok (.iaload, 1) := by decide +kernel
theorem dX3_load_69 : decode cX3_load 69 = .ok (.getstatic 109, 3) := by decide +kernel
theorem dX3_load_72 : decode cX3_load 72 = .ok (.iconst 3, 1) := by decide +kernel
theorem dX3_load_73 : decode cX3_load 73 = .ok (.iaload, 1) := by decide +kernel
theorem dX3_load_74 : decode cX3_load 74 = .ok (.invokestatic 44, 3) := by decide +kernel
theorem dX3_load_77 : decode cX3_load 77 = .ok (.ifCond .ne 6, 3) := by decide +kernel
theorem dX3_load_80 : decode cX3_load 80 = .ok (.iload 4, 2) := by decide +kernel
theorem dX3_load_82 : decode cX3_load 82 = .ok (.ireturn, 1) := by decide +kernel
theorem dX3_load_83 : decode cX3_load 83 = .ok (.aload_n 0, 1) := by decide +kernel
theorem dX3_load_84 : decode cX3_load 84 = .ok (.getfield 12, 3) := by decide +kernel
theorem dX3_load_87 : decode cX3_load 87 = .ok (.getfield 67, 3) := by decide +kernel
theorem dX3_load_90 : decode cX3_load 90 = .ok (.iconst 3, 1) := by decide +kernel
theorem dX3_load_91 : decode cX3_load 91 = .ok (.aaload, 1) := by decide +kernel
theorem dX3_load_92 : decode cX3_load 92 = .ok (.iload 4, 2) := by decide +kernel
theorem dX3_load_94 : decode cX3_load 94 = .ok (.iload 5, 2) := by decide +kernel
theorem dX3_load_96 : decode cX3_load 96 = .ok (.iastore, 1) := by decide +kernel
theorem dX3_load_97 : decode cX3_load 97 = .ok (.iinc 4 1, 3) := by decide +kernel
theorem dX3_load_100 : decode cX3_load 100 = .ok (.goto (-58), 3) := by decide +kernel
theorem dX3_load_103 : decode cX3_load 103 = .ok (.iload_n 3, 1) := by decide +kernel
theorem dX3_load_104 : decode cX3_load 104 = .ok (.ireturn, 1) := by decide +kernel
theorem dX3_judge_0 : decode cX3_judge 0 = .ok (.aload_n 0, 1) := by decide +kernel
theorem dX3_judge_1 : decode cX3_judge 1 = .ok (.getfield 32, 3) := by decide +kernel
theorem dX3_judge_4 : decode cX3_judge 4 = .ok (.iload_n 1, 1) := by decide +kernel
theorem dX3_judge_5 : decode cX3_judge 5 = .ok (.invokevirtual 226, 3) := by decide +kernel
theorem dX3_judge_8 : decode cX3_judge 8 = .ok (.istore_n 2, 1) := by decide +kernel
theorem dX3_judge_9 : decode cX3_judge 9 = .ok (.iload_n 2, 1) := by decide +kernel
theorem dX3_judge_10 : decode cX3_judge 10 = .ok (.ifCond .eq 9, 3) := by decide +kernel
theorem dX3_judge_13 : decode cX3_judge 13 = .ok (.aload_n 0, 1) := by decide +kernel
theorem dX3_judge_14 : decode cX3_judge 14 = .ok (.iload_n 2, 1) := by decide +kernel
theorem dX3_judge_15 : decode cX3_judge 15 = .ok (.invokevirtual 49, 3) := by decide +kernel
theorem dX3_judge_18 : decode cX3_judge 18 = .ok (.ireturn, 1) := by decide +kernel
theorem dX3_judge_19 : decode cX3_judge 19 = .ok (.iconst 0, 1) := by decide +kernel
theorem dX3_judge_20 : decode cX3_judge 20 = .ok (.istore_n 3, 1) := by decide +kernel
theorem dX3_judge_21 : decode cX3_judge 21 = .ok (.iload_n 3, 1) := by decide +kernel
theorem dX3_judge_22 : decode cX3_judge 22 = .ok (.aload_n 0, 1) := by decide +kernel
theorem dX3_judge_23 : decode cX3_judge 23 = .ok (.getfield 32, 3) := by decide +kernel
theorem dX3_judge_26 : decode cX3_judge 26 = .ok (.getfield 229, 3) := by decide +kernel
theorem dX3_judge_29 : decode cX3_judge 29 = .ok (.iload_n 1, 1) := by decide +kernel
theorem dX3_judge_30 : decode cX3_judge 30 = .ok (.iaload, 1) := by decide +kernel
theorem dX3_judge_31 : decode cX3_judge 31 = .ok (.if_icmp .ge 45, 3) := by decide +kernel
theorem dX3_judge_34 : decode cX3_judge 34 = .ok (.iload_n 3, 1) := by decide +kernel
theorem dX3_judge_35 : decode cX3_judge 35 = .ok (.invokestatic 40, 3) := by decide +kernel
theorem dX3_judge_38 : decode cX3_judge 38 = .ok (.ifCond .eq 28, 3) := by decide +kernel
theorem dX3_judge_41 : decode cX3_judge 41 = .ok (.aload_n 0, 1) := by decide +kernel
theorem dX3_judge_42 : decode cX3_judge 42 = .ok (.getfield 32, 3) := by decide +kernel
theorem dX3_judge_45 : decode cX3_judge 45 = .ok (.getfield 244, 3) := by decide +kernel
theorem dX3_judge_48 : decode cX3_judge 48 = .ok (.iload_n 1, 1) := by decide +kernel
theorem dX3_judge_49 : decode cX3_judge 49 = .ok (.aaload, 1) := by decide +kernel
theorem dX3_judge_50 : decode cX3_judge 50 = .ok (.iload_n 3, 1) := by decide +kernel
theorem dX3_judge_51 : decode cX3_judge 51 = .ok (.iaload, 1) := by decide +kernel
theorem dX3_judge_52 : decode cX3_judge 52 = .ok (.aload_n 0, 1) := by decide +kernel
theorem dX3_judge_53 : decode cX3_judge 53 = .ok (.getfield 12, 3) := by decide +kernel
theorem dX3_judge_56 : decode cX3_judge 56 = .ok (.getfield 53, 3) := by decide +kernel
theorem dX3_judge_59 : decode cX3_judge 59 = .ok (.iconst 0, 1) := by decide +kernel
theorem dX3_judge_60 : decode cX3_judge 60 = .ok (.aaload, 1) := by decide +kernel
theorem dX3_judge_61 : decode cX3_judge 61 = .ok (.iload_n 3, 1) := by decide +kernel
theorem dX3_judge_62 : decode cX3_judge 62 = .ok (.iaload, 1) := by decide +kernel
theorem dX3_judge_63 : decode cX3_judge 63 = .ok (.if_icmp .eq 7, 3) := by decide +kernel
theorem dX3_judge_66 : decode cX3_judge 66 = .ok (.iconst 1, 1) := by decide +kernel
theorem dX3_judge_67 : decode cX3_judge 67 = .ok (.iload_n 3, 1) := by decide +kernel
theorem dX3_judge_68 : decode cX3_judge 68 = .ok (.iadd, 1) := by decide +kernel
theorem dX3_judge_69 : decode cX3_judge 69 = .ok (.ireturn, 1) := by decide +kernel
theorem dX3_judge_70 : decode cX3_judge 70 = .ok (.iinc 3 1, 3) := by decide +kernel
theorem dX3_judge_73 : decode cX3_judge 73 = .ok (.goto (-52), 3) := by decide +kernel
theorem dX3_judge_76 : decode cX3_judge 76 = .ok (.iconst 0, 1) := by decide +kernel
theorem dX3_judge_77 : decode cX3_judge 77 = .ok (.ireturn, 1) := by decide +kernel
theorem dX3_image_0 : decode cX3_image 0 = .ok (.aload_n 0, 1) := by decide +kernel
theorem dX3_image_1 : decode cX3_image 1 = .ok (.getfield 19, 3) := by decide +kernel
theorem dX3_image_4 : decode cX3_image 4 = .ok (.aload_n 0, 1) := by decide +kernel
theorem dX3_image_5 : decode cX3_image 5 = .ok (.getfield 12, 3) := by decide +kernel
theorem dX3_image_8 : decode cX3_image 8 = .ok (.invokevirtual 142, 3) := by decide +kernel
theorem dX3_image_11 : decode cX3_image 11 = .ok (.aload_n 0, 1) := by decide +kernel
theorem dX3_image_12 : decode cX3_image 12 = .ok (.iconst 1, 1) := by decide +kernel
theorem dX3_image_13 : decode cX3_image 13 = .ok (.putfield 258, 3) := by decide +kernel
theorem dX3_image_16 : decode cX3_image 16 = .ok (.iconst 1, 1) := by decide +kernel
theorem dX3_image_17 : decode cX3_image 17 = .ok (.ireturn, 1) := by decide +kernel
theorem dX3_undo_0 : decode cX3_undo 0 = .ok (.aload_n 0, 1) := by decide +kernel
theorem dX3_undo_1 : decode cX3_undo 1 = .ok (.getfield 258, 3) := by decide +kernel
theorem dX3_undo_4 : decode cX3_undo 4 = .ok (.ifCond .ne 10, 3) := by decide +kernel
theorem dX3_undo_7 : decode cX3_undo 7 = .ok (.aload_n 0, 1) := by decide +kernel
theorem dX3_undo_8 : decode cX3_undo 8 = .ok (.ldc 155, 2) := by decide +kernel
theorem dX3_undo_10 : decode cX3_undo 10 = .ok (.invokevirtual 49, 3) := by decide +kernel
theorem dX3_undo_13 : decode cX3_undo 13 = .ok (.ireturn, 1) := by decide +kernel
theorem dX3_undo_14 : decode cX3_undo 14 = .ok (.aload_n 0, 1) := by decide +kernel
theorem dX3_undo_15 : decode cX3_undo 15 = .ok (.getfield 12, 3) := by decide +kernel
theorem dX3_undo_18 : decode cX3_undo 18 = .ok (.aload_n 0, 1) := by decide +kernel
theorem dX3_undo_19 : decode cX3_undo 19 = .ok (.getfield 19, 3) := by decide +kernel
theorem dX3_undo_22 : decode cX3_undo 22 = .ok (.invokevirtual 142, 3) := by decide +kernel
theorem dX3_undo_25 : decode cX3_undo 25 = .ok (.aload_n 0, 1) := by decide +kernel
theorem dX3_undo_26 : decode cX3_undo 26 = .ok (.getfield 12, 3) := by decide +kernel
theorem dX3_undo_29 : decode cX3_undo 29 = .ok (.getfield 112, 3) := by decide +kernel
theorem dX3_undo_32 : decode cX3_undo 32 = .ok (.ireturn, 1) := by decide +kernel
theorem dX3_tear_0 : decode cX3_tear 0 = .ok (.aload_n 0, 1) := by decide +kernel
theorem dX3_tear_1 : decode cX3_tear 1 = .ok (.getfield 258, 3) := by decide +kernel
theorem dX3_tear_4 : decode cX3_tear 4 = .ok (.ifCond .eq 7, 3) := by decide +kernel
theorem dX3_tear_7 : decode cX3_tear 7 = .ok (.iconst 1, 1) := by decide +kernel
theorem dX3_tear_8 : decode cX3_tear 8 = .ok (.goto 4, 3) := by decide +kernel
theorem dX3_tear_11 : decode cX3_tear 11 = .ok (.iconst 0, 1) := by decide +kernel
theorem dX3_tear_12 : decode cX3_tear 12 = .ok (.istore_n 1, 1) := by decide +kernel
theorem dX3_tear_13 : decode cX3_tear 13 = .ok (.aload_n 0, 1) := by decide +kernel
theorem dX3_tear_14 : decode cX3_tear 14 = .ok (.iconst 0, 1) := by decide +kernel
theorem dX3_tear_15 : decode cX3_tear 15 = .ok (.putfield 258, 3) := by decide +kernel
theorem dX3_tear_18 : decode cX3_tear 18 = .ok (.iload_n 1, 1) := by decide +kernel
theorem dX3_tear_19 : decode cX3_tear 19 = .ok (.ireturn, 1) := by decide +kernel
theorem dX3_count_0 : decode cX3_count 0 = .ok (.iload_n 1, 1) := by decide +kernel
theorem dX3_count_1 : decode cX3_count 1 = .ok (.tableswitch 111 0 7 #[47, 55, 63, 71, 79, 87, 95, 103], 47) := by decide +kernel
theorem dX3_count_48 : decode cX3_count 48 = .ok (.aload_n 0, 1) := by decide +kernel
theorem dX3_count_49 : decode cX3_count 49 = .ok (.getfield 12, 3) := by decide +kernel
theorem dX3_count_52 : decode cX3_count 52 = .ok (.getfield 112, 3) := by decide +kernel
theorem dX3_count_55 : decode cX3_count 55 = .ok (.ireturn, 1) := by decide +kernel
theorem dX3_count_56 : decode cX3_count 56 = .ok (.aload_n 0, 1) := by decide +kernel
theorem dX3_count_57 : decode cX3_count 57 = .ok (.getfield 12, 3) := by decide +kernel
theorem dX3_count_60 : decode cX3_count 60 = .ok (.getfield 163, 3) := by decide +kernel
theorem dX3_count_63 : decode cX3_count 63 = .ok (.ireturn, 1) := by decide +kernel
theorem dX3_count_64 : decode cX3_count 64 = .ok (.aload_n 0, 1) := by decide +kernel
theorem dX3_count_65 : decode cX3_count 65 = .ok (.getfield 12, 3) := by decide +kernel
theorem dX3_count_68 : decode cX3_count 68 = .ok (.invokevirtual 121, 3) := by decide +kernel
theorem dX3_count_71 : decode cX3_count 71 = .ok (.ireturn, 1) := by decide +kernel
theorem dX3_count_72 : decode cX3_count 72 = .ok (.aload_n 0, 1) := by decide +kernel
theorem dX3_count_73 : decode cX3_count 73 = .ok (.getfield 12, 3) := by decide +kernel
theorem dX3_count_76 : decode cX3_count 76 = .ok (.getfield 124, 3) := by decide +kernel
theorem dX3_count_79 : decode cX3_count 79 = .ok (.ireturn, 1) := by decide +kernel
theorem dX3_count_80 : decode cX3_count 80 = .ok (.aload_n 0, 1) := by decide +kernel
theorem dX3_count_81 : decode cX3_count 81 = .ok (.getfield 12, 3) := by decide +kernel
theorem dX3_count_84 : decode cX3_count 84 = .ok (.invokevirtual 136, 3) := by decide +kernel
theorem dX3_count_87 : decode cX3_count 87 = .ok (.ireturn, 1) := by decide +kernel
theorem dX3_count_88 : decode cX3_count 88 = .ok (.aload_n 0, 1) := by decide +kernel
theorem dX3_count_89 : decode cX3_count 89 = .ok (.getfield 25, 3) := by decide +kernel
theorem dX3_count_92 : decode cX3_count 92 = .ok (.getfield 200, 3) := by decide +kernel
theorem dX3_count_95 : decode cX3_count 95 = .ok (.ireturn, 1) := by decide +kernel
theorem dX3_count_96 : decode cX3_count 96 = .ok (.aload_n 0, 1) := by decide +kernel
theorem dX3_count_97 : decode cX3_count 97 = .ok (.getfield 12, 3) := by decide +kernel
theorem dX3_count_100 : decode cX3_count 100 = .ok (.getfield 192, 3) := by decide +kernel
theorem dX3_count_103 : decode cX3_count 103 = .ok (.ireturn, 1) := by decide +kernel
theorem dX3_count_104 : decode cX3_count 104 = .ok (.aload_n 0, 1) := by decide +kernel
theorem dX3_count_105 : decode cX3_count 105 = .ok (.getfield 12, 3) := by decide +kernel
theorem dX3_count_108 : decode cX3_count 108 = .ok (.invokevirtual 262, 3) := by decide +kernel
theorem dX3_count_111 : decode cX3_count 111 = .ok (.ireturn, 1) := by decide +kernel
theorem dX3_count_112 : decode cX3_count 112 = .ok (.aload_n 0, 1) := by decide +kernel
theorem dX3_count_113 : decode cX3_count 113 = .ok (.ldc 48, 2) := by decide +kernel
theorem dX3_count_115 : decode cX3_count 115 = .ok (.invokevirtual 49, 3) := by decide +kernel
theorem dX3_count_118 : decode cX3_count 118 = .ok (.ireturn, 1) := by decide +kernel
theorem dX3_status_0 : decode cX3_status 0 = .ok (.iload_n 1, 1) := by decide +kernel
theorem dX3_status_1 : decode cX3_status 1 = .ok (.iconst (-1), 1) := by decide +kernel
theorem dX3_status_2 : decode cX3_status 2 = .ok (.bipush 6, 2) := by decide +kernel
theorem dX3_status_4 : decode cX3_status 4 = .ok (.invokestatic 44, 3) := by decide +kernel
theorem dX3_status_7 : decode cX3_status 7 = .ok (.ifCond .ne 10, 3) := by decide +kernel
theorem dX3_status_10 : decode cX3_status 10 = .ok (.aload_n 0, 1) := by decide +kernel
theorem dX3_status_11 : decode cX3_status 11 = .ok (.ldc 48, 2) := by decide +kernel
theorem dX3_status_13 : decode cX3_status 13 = .ok (.invokevirtual 49, 3) := by decide +kernel
theorem dX3_status_16 : decode cX3_status 16 = .ok (.ireturn, 1) := by decide +kernel
theorem dX3_status_17 : decode cX3_status 17 = .ok (.iload_n 1, 1) := by decide +kernel
theorem dX3_status_18 : decode cX3_status 18 = .ok (.ifCond .lt 10, 3) := by decide +kernel
theorem dX3_status_21 : decode cX3_status 21 = .ok (.aload_n 0, 1) := by decide +kernel
theorem dX3_status_22 : decode cX3_status 22 = .ok (.getfield 36, 3) := by decide +kernel
theorem dX3_status_25 : decode cX3_status 25 = .ok (.iload_n 1, 1) := by decide +kernel
theorem dX3_status_26 : decode cX3_status 26 = .ok (.iaload, 1) := by decide +kernel
theorem dX3_status_27 : decode cX3_status 27 = .ok (.ireturn, 1) := by decide +kernel
theorem dX3_status_28 : decode cX3_status 28 = .ok (.iconst 0, 1) := by decide +kernel
theorem dX3_status_29 : decode cX3_status 29 = .ok (.istore_n 2, 1) := by decide +kernel
theorem dX3_status_30 : decode cX3_status 30 = .ok (.iconst 0, 1) := by decide +kernel
theorem dX3_status_31 : decode cX3_status 31 = .ok (.istore_n 3, 1) := by decide +kernel
theorem dX3_status_32 : decode cX3_status 32 = .ok (.iload_n 3, 1) := by decide +kernel
theorem dX3_status_33 : decode cX3_status 33 = .ok (.bipush 7, 2) := by decide +kernel
theorem dX3_status_35 : decode cX3_status 35 = .ok (.if_icmp .ge 18, 3) := by decide +kernel
theorem dX3_status_38 : decode cX3_status 38 = .ok (.iload_n 2, 1) := by decide +kernel
theorem dX3_status_39 : decode cX3_status 39 = .ok (.aload_n 0, 1) := by decide +kernel
theorem dX3_status_40 : decode cX3_status 40 = .ok (.getfield 36, 3) := by decide +kernel
theorem dX3_status_43 : decode cX3_status 43 = .ok (.iload_n 3, 1) := by decide +kernel
theorem dX3_status_44 : decode cX3_status 44 = .ok (.iaload, 1) := by decide +kernel
theorem dX3_status_45 : decode cX3_status 45 = .ok (.iadd, 1) := by decide +kernel
theorem dX3_status_46 : decode cX3_status 46 = .ok (.istore_n 2, 1) := by decide +kernel
theorem dX3_status_47 : decode cX3_status 47 = .ok (.iinc 3 1, 3) := by decide +kernel
theorem dX3_status_50 : decode cX3_status 50 = .ok (.goto (-18), 3) := by decide +kernel
theorem dX3_status_53 : decode cX3_status 53 = .ok (.iload_n 2, 1) := by decide +kernel
theorem dX3_status_54 : decode cX3_status 54 = .ok (.ireturn, 1) := by decide +kernel
theorem dX3_tell_0 : decode cX3_tell 0 = .ok (.ldc 48, 2) := by decide +kernel
theorem dX3_tell_2 : decode cX3_tell 2 = .ok (.iload_n 1, 1) := by decide +kernel
theorem dX3_tell_3 : decode cX3_tell 3 = .ok (.isub, 1) := by decide +kernel
theorem dX3_tell_4 : decode cX3_tell 4 = .ok (.istore_n 2, 1) := by decide +kernel
theorem dX3_tell_5 : decode cX3_tell 5 = .ok (.iload_n 2, 1) := by decide +kernel
theorem dX3_tell_6 : decode cX3_tell 6 = .ok (.iconst 0, 1) := by decide +kernel
theorem dX3_tell_7 : decode cX3_tell 7 = .ok (.bipush 6, 2) := by decide +kernel
theorem dX3_tell_9 : decode cX3_tell 9 = .ok (.invokestatic 44, 3) := by decide +kernel
theorem dX3_tell_12 : decode cX3_tell 12 = .ok (.ifCond .eq 13, 3) := by decide +kernel
theorem dX3_tell_15 : decode cX3_tell 15 = .ok (.aload_n 0, 1) := by decide +kernel
theorem dX3_tell_16 : decode cX3_tell 16 = .ok (.getfield 36, 3) := by decide +kernel
theorem dX3_tell_19 : decode cX3_tell 19 = .ok (.iload_n 2, 1) := by decide +kernel
theorem dX3_tell_20 : decode cX3_tell 20 = .ok (.dup2, 1) := by decide +kernel
theorem dX3_tell_21 : decode cX3_tell 21 = .ok (.iaload, 1) := by decide +kernel
theorem dX3_tell_22 : decode cX3_tell 22 = .ok (.iconst 1, 1) := by decide +kernel
theorem dX3_tell_23 : decode cX3_tell 23 = .ok (.iadd, 1) := by decide +kernel
theorem dX3_tell_24 : decode cX3_tell 24 = .ok (.iastore, 1) := by decide +kernel
theorem dX3_tell_25 : decode cX3_tell 25 = .ok (.iload_n 1, 1) := by decide +kernel
theorem dX3_tell_26 : decode cX3_tell 26 = .ok (.ireturn, 1) := by decide +kernel
theorem dX3_within_0 : decode cX3_within 0 = .ok (.iload_n 0, 1) := by decide +kernel
theorem dX3_within_1 : decode cX3_within 1 = .ok (.iload_n 1, 1) := by decide +kernel
theorem dX3_within_2 : decode cX3_within 2 = .ok (.if_icmp .lt 12, 3) := by decide +kernel
theorem dX3_within_5 : decode cX3_within 5 = .ok (.iload_n 0, 1) := by decide +kernel
theorem dX3_within_6 : decode cX3_within 6 = .ok (.iload_n 2, 1) := by decide +kernel
theorem dX3_within_7 : decode cX3_within 7 = .ok (.if_icmp .gt 7, 3) := by decide +kernel
theorem dX3_within_10 : decode cX3_within 10 = .ok (.iconst 1, 1) := by decide +kernel
theorem dX3_within_11 : decode cX3_within 11 = .ok (.goto 4, 3) := by decide +kernel
theorem dX3_within_14 : decode cX3_within 14 = .ok (.iconst 0, 1) := by decide +kernel
theorem dX3_within_15 : decode cX3_within 15 = .ok (.ireturn, 1) := by decide +kernel
theorem dX3_isCell_0 : decode cX3_isCell 0 = .ok (.iload_n 0, 1) := by decide +kernel
theorem dX3_isCell_1 : decode cX3_isCell 1 = .ok (.iconst 0, 1) := by decide +kernel
theorem dX3_isCell_2 : decode cX3_isCell 2 = .ok (.bipush 23, 2) := by decide +kernel
theorem dX3_isCell_4 : decode cX3_isCell 4 = .ok (.invokestatic 44, 3) := by decide +kernel
theorem dX3_isCell_7 : decode cX3_isCell 7 = .ok (.ireturn, 1) := by decide +kernel
theorem dX3_isUnder_0 : decode cX3_isUnder 0 = .ok (.iload_n 0, 1) := by decide +kernel
theorem dX3_isUnder_1 : decode cX3_isUnder 1 = .ok (.istore_n 2, 1) := by decide +kernel
theorem dX3_isUnder_2 : decode cX3_isUnder 2 = .ok (.iconst 0, 1) := by decide +kernel
theorem dX3_isUnder_3 : decode cX3_isUnder 3 = .ok (.istore_n 3, 1) := by decide +kernel
theorem dX3_isUnder_4 : decode cX3_isUnder 4 = .ok (.iload_n 3, 1) := by decide +kernel
theorem dX3_isUnder_5 : decode cX3_isUnder 5 = .ok (.bipush 7, 2) := by decide +kernel
theorem dX3_isUnder_7 : decode cX3_isUnder 7 = .ok (.if_icmp .ge 34, 3) := by decide +kernel
theorem dX3_isUnder_10 : decode cX3_isUnder 10 = .ok (.iload_n 2, 1) := by decide +kernel
theorem dX3_isUnder_11 : decode cX3_isUnder 11 = .ok (.iload_n 1, 1) := by decide +kernel
theorem dX3_isUnder_12 : decode cX3_isUnder 12 = .ok (.if_icmp .ne 5, 3) := by decide +kernel
theorem dX3_isUnder_15 : decode cX3_isUnder 15 = .ok (.iconst 1, 1) := by decide +kernel
theorem dX3_isUnder_16 : decode cX3_isUnder 16 = .ok (.ireturn, 1) := by decide +kernel
theorem dX3_isUnder_17 : decode cX3_isUnder 17 = .ok (.iload_n 2, 1) := by decide +kernel
theorem dX3_isUnder_18 : decode cX3_isUnder 18 = .ok (.iconst 0, 1) := by decide +kernel
theorem dX3_isUnder_19 : decode cX3_isUnder 19 = .ok (.bipush 6, 2) := by decide +kernel
theorem dX3_isUnder_21 : decode cX3_isUnder 21 = .ok (.invokestatic 44, 3) := by decide +kernel
theorem dX3_isUnder_24 : decode cX3_isUnder 24 = .ok (.ifCond .ne 5, 3) := by decide +kernel
theorem dX3_isUnder_27 : decode cX3_isUnder 27 = .ok (.iconst 0, 1) := by decide +kernel
theorem dX3_isUnder_28 : decode cX3_isUnder 28 = .ok (.ireturn, 1) := by decide +kernel
theorem dX3_isUnder_29 : decode cX3_isUnder 29 = .ok (.getstatic 265, 3) := by decide +kernel
theorem dX3_isUnder_32 : decode cX3_isUnder 32 = .ok (.iload_n 2, 1) := by decide +kernel
theorem dX3_isUnder_33 : decode cX3_isUnder 33 = .ok (.iaload, 1) := by decide +kernel
theorem dX3_isUnder_34 : decode cX3_isUnder 34 = .ok (.istore_n 2, 1) := by decide +kernel
theorem dX3_isUnder_35 : decode cX3_isUnder 35 = .ok (.iinc 3 1, 3) := by decide +kernel
theorem dX3_isUnder_38 : decode cX3_isUnder 38 = .ok (.goto (-34), 3) := by decide +kernel
theorem dX3_isUnder_41 : decode cX3_isUnder 41 = .ok (.iconst 0, 1) := by decide +kernel
theorem dX3_isUnder_42 : decode cX3_isUnder 42 = .ok (.ireturn, 1) := by decide +kernel
theorem dX3_power_0 : decode cX3_power 0 = .ok (.lconst 1, 1) := by decide +kernel
theorem dX3_power_1 : decode cX3_power 1 = .ok (.lstore_n 3, 1) := by decide +kernel
theorem dX3_power_2 : decode cX3_power 2 = .ok (.iconst 0, 1) := by decide +kernel
theorem dX3_power_3 : decode cX3_power 3 = .ok (.istore 5, 2) := by decide +kernel
theorem dX3_power_5 : decode cX3_power 5 = .ok (.iload 5, 2) := by decide +kernel
theorem dX3_power_7 : decode cX3_power 7 = .ok (.iload_n 2, 1) := by decide +kernel
theorem dX3_power_8 : decode cX3_power 8 = .ok (.if_icmp .ge 13, 3) := by decide +kernel
theorem dX3_power_11 : decode cX3_power 11 = .ok (.lload_n 3, 1) := by decide +kernel
theorem dX3_power_12 : decode cX3_power 12 = .ok (.lload_n 0, 1) := by decide +kernel
theorem dX3_power_13 : decode cX3_power 13 = .ok (.lmul, 1) := by decide +kernel
theorem dX3_power_14 : decode cX3_power 14 = .ok (.lstore_n 3, 1) := by decide +kernel
theorem dX3_power_15 : decode cX3_power 15 = .ok (.iinc 5 1, 3) := by decide +kernel
theorem dX3_power_18 : decode cX3_power 18 = .ok (.goto (-13), 3) := by decide +kernel
theorem dX3_power_21 : decode cX3_power 21 = .ok (.lload_n 3, 1) := by decide +kernel
theorem dX3_power_22 : decode cX3_power 22 = .ok (.lreturn, 1) := by decide +kernel
theorem dX3_hoursUntilWhose_0 : decode cX3_hoursUntilWhose 0 = .ok (.aload_n 0, 1) := by decide +kernel
theorem dX3_hoursUntilWhose_1 : decode cX3_hoursUntilWhose 1 = .ok (.getfield 16, 3) := by decide +kernel
theorem dX3_hoursUntilWhose_4 : decode cX3_hoursUntilWhose 4 = .ok (.aload_n 0, 1) := by decide +kernel
theorem dX3_hoursUntilWhose_5 : decode cX3_hoursUntilWhose 5 = .ok (.getfield 12, 3) := by decide +kernel
theorem dX3_hoursUntilWhose_8 : decode cX3_hoursUntilWhose 8 = .ok (.invokevirtual 142, 3) := by decide +kernel
theorem dX3_hoursUntilWhose_11 : decode cX3_hoursUntilWhose 11 = .ok (.iconst 0, 1) := by decide +kernel
theorem dX3_hoursUntilWhose_12 : decode cX3_hoursUntilWhose 12 = .ok (.istore_n 3, 1) := by decide +kernel
theorem dX3_hoursUntilWhose_13 : decode cX3_hoursUntilWhose 13 = .ok (.iload_n 3, 1) := by decide +kernel
theorem dX3_hoursUntilWhose_14 : decode cX3_hoursUntilWhose 14 = .ok (.sipush 200, 3) := by decide +kernel
theorem dX3_hoursUntilWhose_17 : decode cX3_hoursUntilWhose 17 = .ok (.if_icmp .gt 34, 3) := by decide +kernel
theorem dX3_hoursUntilWhose_20 : decode cX3_hoursUntilWhose 20 = .ok (.aload_n 0, 1) := by decide +kernel
theorem dX3_hoursUntilWhose_21 : decode cX3_hoursUntilWhose 21 = .ok (.getfield 16, 3) := by decide +kernel
theorem dX3_hoursUntilWhose_24 : decode cX3_hoursUntilWhose 24 = .ok (.getfield 53, 3) := by decide +kernel
theorem dX3_hoursUntilWhose_27 : decode cX3_hoursUntilWhose 27 = .ok (.iconst 0, 1) := by decide +kernel
theorem dX3_hoursUntilWhose_28 : decode cX3_hoursUntilWhose 28 = .ok (.aaload, 1) := by decide +kernel
theorem dX3_hoursUntilWhose_29 : decode cX3_hoursUntilWhose 29 = .ok (.iload_n 1, 1) := by decide +kernel
theorem dX3_hoursUntilWhose_30 : decode cX3_hoursUntilWhose 30 = .ok (.iaload, 1) := by decide +kernel
theorem dX3_hoursUntilWhose_31 : decode cX3_hoursUntilWhose 31 = .ok (.iload_n 2, 1) := by decide +kernel
theorem dX3_hoursUntilWhose_32 : decode cX3_hoursUntilWhose 32 = .ok (.if_icmp .ne 5, 3) := by decide +kernel
theorem dX3_hoursUntilWhose_35 : decode cX3_hoursUntilWhose 35 = .ok (.iload_n 3, 1) := by decide +kernel
theorem dX3_hoursUntilWhose_36 : decode cX3_hoursUntilWhose 36 = .ok (.ireturn, 1) := by decide +kernel
theorem dX3_hoursUntilWhose_37 : decode cX3_hoursUntilWhose 37 = .ok (.aload_n 0, 1) := by decide +kernel
theorem dX3_hoursUntilWhose_38 : decode cX3_hoursUntilWhose 38 = .ok (.getfield 16, 3) := by decide +kernel
theorem dX3_hoursUntilWhose_41 : decode cX3_hoursUntilWhose 41 = .ok (.iconst 0, 1) := by decide +kernel
theorem dX3_hoursUntilWhose_42 : decode cX3_hoursUntilWhose 42 = .ok (.invokevirtual 152, 3) := by decide +kernel
theorem dX3_hoursUntilWhose_45 : decode cX3_hoursUntilWhose 45 = .ok (.iinc 3 1, 3) := by decide +kernel
theorem dX3_hoursUntilWhose_48 : decode cX3_hoursUntilWhose 48 = .ok (.goto (-35), 3) := by decide +kernel
theorem dX3_hoursUntilWhose_51 : decode cX3_hoursUntilWhose 51 = .ok (.aload_n 0, 1) := by decide +kernel
theorem dX3_hoursUntilWhose_52 : decode cX3_hoursUntilWhose 52 = .ok (.ldc 155, 2) := by decide +kernel
theorem dX3_hoursUntilWhose_54 : decode cX3_hoursUntilWhose 54 = .ok (.invokevirtual 49, 3) := by decide +kernel
theorem dX3_hoursUntilWhose_57 : decode cX3_hoursUntilWhose 57 = .ok (.ireturn, 1) := by decide +kernel
theorem dX3_tryTrait_0 : decode cX3_tryTrait 0 = .ok (.aload_n 0, 1) := by decide +kernel
theorem dX3_tryTrait_1 : decode cX3_tryTrait 1 = .ok (.getfield 16, 3) := by decide +kernel
theorem dX3_tryTrait_4 : decode cX3_tryTrait 4 = .ok (.aload_n 0, 1) := by decide +kernel
theorem dX3_tryTrait_5 : decode cX3_tryTrait 5 = .ok (.getfield 12, 3) := by decide +kernel
theorem dX3_tryTrait_8 : decode cX3_tryTrait 8 = .ok (.invokevirtual 142, 3) := by decide +kernel
theorem dX3_tryTrait_11 : decode cX3_tryTrait 11 = .ok (.aload_n 0, 1) := by decide +kernel
theorem dX3_tryTrait_12 : decode cX3_tryTrait 12 = .ok (.getfield 16, 3) := by decide +kernel
theorem dX3_tryTrait_15 : decode cX3_tryTrait 15 = .ok (.getfield 67, 3) := by decide +kernel
theorem dX3_tryTrait_18 : decode cX3_tryTrait 18 = .ok (.iload_n 2, 1) := by decide +kernel
theorem dX3_tryTrait_19 : decode cX3_tryTrait 19 = .ok (.aaload, 1) := by decide +kernel
theorem dX3_tryTrait_20 : decode cX3_tryTrait 20 = .ok (.iload_n 1, 1) := by decide +kernel
theorem dX3_tryTrait_21 : decode cX3_tryTrait 21 = .ok (.iload_n 3, 1) := by decide +kernel
theorem dX3_tryTrait_22 : decode cX3_tryTrait 22 = .ok (.iastore, 1) := by decide +kernel
theorem dX3_tryTrait_23 : decode cX3_tryTrait 23 = .ok (.aload_n 0, 1) := by decide +kernel
theorem dX3_tryTrait_24 : decode cX3_tryTrait 24 = .ok (.getfield 16, 3) := by decide +kernel
theorem dX3_tryTrait_27 : decode cX3_tryTrait 27 = .ok (.iload 4, 2) := by decide +kernel
theorem dX3_tryTrait_29 : decode cX3_tryTrait 29 = .ok (.iconst 0, 1) := by decide +kernel
theorem dX3_tryTrait_30 : decode cX3_tryTrait 30 = .ok (.invokevirtual 117, 3) := by decide +kernel
theorem dX3_tryTrait_33 : decode cX3_tryTrait 33 = .ok (.return_, 1) := by decide +kernel
theorem dX3_traitForMostWork_0 : decode cX3_traitForMostWork 0 = .ok (.aload_n 0, 1) := by decide +kernel
theorem dX3_traitForMostWork_1 : decode cX3_traitForMostWork 1 = .ok (.getfield 12, 3) := by decide +kernel
theorem dX3_traitForMostWork_4 : decode cX3_traitForMostWork 4 = .ok (.iload_n 1, 1) := by decide +kernel
theorem dX3_traitForMostWork_5 : decode cX3_traitForMostWork 5 = .ok (.invokevirtual 91, 3) := by decide +kernel
theorem dX3_traitForMostWork_8 : decode cX3_traitForMostWork 8 = .ok (.ifCond .eq 13, 3) := by decide +kernel
theorem dX3_traitForMostWork_11 : decode cX3_traitForMostWork 11 = .ok (.iload_n 3, 1) := by decide +kernel
theorem dX3_traitForMostWork_12 : decode cX3_traitForMostWork 12 = .ok (.iconst 0, 1) := by decide +kernel
theorem dX3_traitForMostWork_13 : decode cX3_traitForMostWork 13 = .ok (.bipush 40, 2) := by decide +kernel
theorem dX3_traitForMostWork_15 : decode cX3_traitForMostWork 15 = .ok (.invokestatic 44, 3) := by decide +kernel
theorem dX3_traitForMostWork_18 : decode cX3_traitForMostWork 18 = .ok (.ifCond .ne 10, 3) := by decide +kernel
theorem dX3_traitForMostWork_21 : decode cX3_traitForMostWork 21 = .ok (.aload_n 0, 1) := by decide +kernel
theorem dX3_traitForMostWork_22 : decode cX3_traitForMostWork 22 = .ok (.ldc 48, 2) := by decide +kernel
theorem dX3_traitForMostWork_24 : decode cX3_traitForMostWork 24 = .ok (.invokevirtual 49, 3) := by decide +kernel
theorem dX3_traitForMostWork_27 : decode cX3_traitForMostWork 27 = .ok (.ireturn, 1) := by decide +kernel
theorem dX3_traitForMostWork_28 : decode cX3_traitForMostWork 28 = .ok (.getstatic 106, 3) := by decide +kernel
theorem dX3_traitForMostWork_31 : decode cX3_traitForMostWork 31 = .ok (.iload_n 2, 1) := by decide +kernel
theorem dX3_traitForMostWork_32 : decode cX3_traitForMostWork 32 = .ok (.iaload, 1) := by decide +kernel
theorem dX3_traitForMostWork_33 : decode cX3_traitForMostWork 33 = .ok (.istore 4, 2) := by decide +kernel
theorem dX3_traitForMostWork_35 : decode cX3_traitForMostWork 35 = .ok (.iconst (-1), 1) := by decide +kernel
theorem dX3_traitForMostWork_36 : decode cX3_traitForMostWork 36 = .ok (.istore 5, 2) := by decide +kernel
theorem dX3_traitForMostWork_38 : decode cX3_traitForMostWork 38 = .ok (.getstatic 106, 3) := by decide +kernel
theorem dX3_traitForMostWork_41 : decode cX3_traitForMostWork 41 = .ok (.iload_n 2, 1) := by decide +kernel
theorem dX3_traitForMostWork_42 : decode cX3_traitForMostWork 42 = .ok (.iaload, 1) := by decide +kernel
theorem dX3_traitForMostWork_43 : decode cX3_traitForMostWork 43 = .ok (.istore 6, 2) := by decide +kernel
theorem dX3_traitForMostWork_45 : decode cX3_traitForMostWork 45 = .ok (.iload 6, 2) := by decide +kernel
theorem dX3_traitForMostWork_47 : decode cX3_traitForMostWork 47 = .ok (.getstatic 109, 3) := by decide +kernel
theorem dX3_traitForMostWork_50 : decode cX3_traitForMostWork 50 = .ok (.iload_n 2, 1) := by decide +kernel
theorem dX3_traitForMostWork_51 : decode cX3_traitForMostWork 51 = .ok (.iaload, 1) := by decide +kernel
theorem dX3_traitForMostWork_52 : decode cX3_traitForMostWork 52 = .ok (.if_icmp .gt 43, 3) := by decide +kernel
theorem dX3_traitForMostWork_55 : decode cX3_traitForMostWork 55 = .ok (.aload_n 0, 1) := by decide +kernel
theorem dX3_traitForMostWork_56 : decode cX3_traitForMostWork 56 = .ok (.iload_n 1, 1) := by decide +kernel
theorem dX3_traitForMostWork_57 : decode cX3_traitForMostWork 57 = .ok (.iload_n 2, 1) := by decide +kernel
theorem dX3_traitForMostWork_58 : decode cX3_traitForMostWork 58 = .ok (.iload 6, 2) := by decide +kernel
theorem dX3_traitForMostWork_60 : decode cX3_traitForMostWork 60 = .ok (.iload_n 3, 1) := by decide +kernel
theorem dX3_traitForMostWork_61 : decode cX3_traitForMostWork 61 = .ok (.invokevirtual 160, 3) := by decide +kernel
theorem dX3_traitForMostWork_64 : decode cX3_traitForMostWork 64 = .ok (.aload_n 0, 1) := by decide +kernel
theorem dX3_traitForMostWork_65 : decode cX3_traitForMostWork 65 = .ok (.getfield 16, 3) := by decide +kernel
theorem dX3_traitForMostWork_68 : decode cX3_traitForMostWork 68 = .ok (.iload_n 1, 1) := by decide +kernel
theorem dX3_traitForMostWork_69 : decode cX3_traitForMostWork 69 = .ok (.invokevirtual 146, 3) := by decide +kernel
theorem dX3_traitForMostWork_72 : decode cX3_traitForMostWork 72 = .ok (.istore 7, 2) := by decide +kernel
theorem dX3_traitForMostWork_74 : decode cX3_traitForMostWork 74 = .ok (.iload 7, 2) := by decide +kernel
theorem dX3_traitForMostWork_76 : decode cX3_traitForMostWork 76 = .ok (.iload 5, 2) := by decide +kernel
theorem dX3_traitForMostWork_78 : decode cX3_traitForMostWork 78 = .ok (.if_icmp .le 11, 3) := by decide +kernel
theorem dX3_traitForMostWork_81 : decode cX3_traitForMostWork 81 = .ok (.iload 7, 2) := by decide +kernel
theorem dX3_traitForMostWork_83 : decode cX3_traitForMostWork 83 = .ok (.istore 5, 2) := by decide +kernel
theorem dX3_traitForMostWork_85 : decode cX3_traitForMostWork 85 = .ok (.iload 6, 2) := by decide +kernel
theorem dX3_traitForMostWork_87 : decode cX3_traitForMostWork 87 = .ok (.istore 4, 2) := by decide +kernel
theorem dX3_traitForMostWork_89 : decode cX3_traitForMostWork 89 = .ok (.iinc 6 1, 3) := by decide +kernel
theorem dX3_traitForMostWork_92 : decode cX3_traitForMostWork 92 = .ok (.goto (-47), 3) := by decide +kernel
theorem dX3_traitForMostWork_95 : decode cX3_traitForMostWork 95 = .ok (.iload 4, 2) := by decide +kernel
theorem dX3_traitForMostWork_97 : decode cX3_traitForMostWork 97 = .ok (.ireturn, 1) := by decide +kernel
theorem dX3_staysWithout_0 : decode cX3_staysWithout 0 = .ok (.aload_n 0, 1) := by decide +kernel
theorem dX3_staysWithout_1 : decode cX3_staysWithout 1 = .ok (.getfield 16, 3) := by decide +kernel
theorem dX3_staysWithout_4 : decode cX3_staysWithout 4 = .ok (.aload_n 0, 1) := by decide +kernel
theorem dX3_staysWithout_5 : decode cX3_staysWithout 5 = .ok (.getfield 12, 3) := by decide +kernel
theorem dX3_staysWithout_8 : decode cX3_staysWithout 8 = .ok (.invokevirtual 142, 3) := by decide +kernel
theorem dX3_staysWithout_11 : decode cX3_staysWithout 11 = .ok (.aload_n 0, 1) := by decide +kernel
theorem dX3_staysWithout_12 : decode cX3_staysWithout 12 = .ok (.getfield 16, 3) := by decide +kernel
theorem dX3_staysWithout_15 : decode cX3_staysWithout 15 = .ok (.iload_n 3, 1) := by decide +kernel
theorem dX3_staysWithout_16 : decode cX3_staysWithout 16 = .ok (.iload_n 1, 1) := by decide +kernel
theorem dX3_staysWithout_17 : decode cX3_staysWithout 17 = .ok (.invokevirtual 117, 3) := by decide +kernel
theorem dX3_staysWithout_20 : decode cX3_staysWithout 20 = .ok (.aload_n 0, 1) := by decide +kernel
theorem dX3_staysWithout_21 : decode cX3_staysWithout 21 = .ok (.getfield 16, 3) := by decide +kernel
theorem dX3_staysWithout_24 : decode cX3_staysWithout 24 = .ok (.getfield 53, 3) := by decide +kernel
theorem dX3_staysWithout_27 : decode cX3_staysWithout 27 = .ok (.iconst 0, 1) := by decide +kernel
theorem dX3_staysWithout_28 : decode cX3_staysWithout 28 = .ok (.aaload, 1) := by decide +kernel
theorem dX3_staysWithout_29 : decode cX3_staysWithout 29 = .ok (.iload_n 2, 1) := by decide +kernel
theorem dX3_staysWithout_30 : decode cX3_staysWithout 30 = .ok (.iaload, 1) := by decide +kernel
theorem dX3_staysWithout_31 : decode cX3_staysWithout 31 = .ok (.aload_n 0, 1) := by decide +kernel
theorem dX3_staysWithout_32 : decode cX3_staysWithout 32 = .ok (.getfield 12, 3) := by decide +kernel
theorem dX3_staysWithout_35 : decode cX3_staysWithout 35 = .ok (.getfield 53, 3) := by decide +kernel
theorem dX3_staysWithout_38 : decode cX3_staysWithout 38 = .ok (.iconst 0, 1) := by decide +kernel
theorem dX3_staysWithout_39 : decode cX3_staysWithout 39 = .ok (.aaload, 1) := by decide +kernel
theorem dX3_staysWithout_40 : decode cX3_staysWithout 40 = .ok (.iload_n 2, 1) := by decide +kernel
theorem dX3_staysWithout_41 : decode cX3_staysWithout 41 = .ok (.iaload, 1) := by decide +kernel
theorem dX3_staysWithout_42 : decode cX3_staysWithout 42 = .ok (.if_icmp .ne 7, 3) := by decide +kernel
theorem dX3_staysWithout_45 : decode cX3_staysWithout 45 = .ok (.iconst 1, 1) := by decide +kernel
theorem dX3_staysWithout_46 : decode cX3_staysWithout 46 = .ok (.goto 4, 3) := by decide +kernel
theorem dX3_staysWithout_49 : decode cX3_staysWithout 49 = .ok (.iconst 0, 1) := by decide +kernel
theorem dX3_staysWithout_50 : decode cX3_staysWithout 50 = .ok (.ireturn, 1) := by decide +kernel
theorem dX3_guessFinding_0 : decode cX3_guessFinding 0 = .ok (.aload_n 0, 1) := by decide +kernel
theorem dX3_guessFinding_1 : decode cX3_guessFinding 1 = .ok (.getfield 32, 3) := by decide +kernel
theorem dX3_guessFinding_4 : decode cX3_guessFinding 4 = .ok (.iload_n 1, 1) := by decide +kernel
theorem dX3_guessFinding_5 : decode cX3_guessFinding 5 = .ok (.invokevirtual 226, 3) := by decide +kernel
theorem dX3_guessFinding_8 : decode cX3_guessFinding 8 = .ok (.istore 4, 2) := by decide +kernel
theorem dX3_guessFinding_10 : decode cX3_guessFinding 10 = .ok (.iload 4, 2) := by decide +kernel
theorem dX3_guessFinding_12 : decode cX3_guessFinding 12 = .ok (.ifCond .eq 6, 3) := by decide +kernel
theorem dX3_guessFinding_15 : decode cX3_guessFinding 15 = .ok (.iload 4, 2) := by decide +kernel
theorem dX3_guessFinding_17 : decode cX3_guessFinding 17 = .ok (.ireturn, 1) := by decide +kernel
theorem dX3_guessFinding_18 : decode cX3_guessFinding 18 = .ok (.aload_n 0, 1) := by decide +kernel
theorem dX3_guessFinding_19 : decode cX3_guessFinding 19 = .ok (.getfield 12, 3) := by decide +kernel
theorem dX3_guessFinding_22 : decode cX3_guessFinding 22 = .ok (.iload_n 2, 1) := by decide +kernel
theorem dX3_guessFinding_23 : decode cX3_guessFinding 23 = .ok (.invokevirtual 91, 3) := by decide +kernel
theorem dX3_guessFinding_26 : decode cX3_guessFinding 26 = .ok (.ifCond .eq 17, 3) := by decide +kernel
theorem dX3_guessFinding_29 : decode cX3_guessFinding 29 = .ok (.iload_n 3, 1) := by decide +kernel
theorem dX3_guessFinding_30 : decode cX3_guessFinding 30 = .ok (.iconst 0, 1) := by decide +kernel
theorem dX3_guessFinding_31 : decode cX3_guessFinding 31 = .ok (.bipush 20, 2) := by decide +kernel
theorem dX3_guessFinding_33 : decode cX3_guessFinding 33 = .ok (.invokestatic 44, 3) := by decide +kernel
theorem dX3_guessFinding_36 : decode cX3_guessFinding 36 = .ok (.ifCond .eq 7, 3) := by decide +kernel
theorem dX3_guessFinding_39 : decode cX3_guessFinding 39 = .ok (.iconst 0, 1) := by decide +kernel
theorem dX3_guessFinding_40 : decode cX3_guessFinding 40 = .ok (.goto 5, 3) := by decide +kernel
theorem dX3_guessFinding_43 : decode cX3_guessFinding 43 = .ok (.ldc 48, 2) := by decide +kernel
theorem dX3_guessFinding_45 : decode cX3_guessFinding 45 = .ok (.ireturn, 1) := by decide +kernel
theorem dX3_fittingSet_0 : decode cX3_fittingSet 0 = .ok (.iconst 0, 1) := by decide +kernel
theorem dX3_fittingSet_1 : decode cX3_fittingSet 1 = .ok (.istore 5, 2) := by decide +kernel
theorem dX3_fittingSet_3 : decode cX3_fittingSet 3 = .ok (.getstatic 106, 3) := by decide +kernel
theorem dX3_fittingSet_6 : decode cX3_fittingSet 6 = .ok (.iload_n 3, 1) := by decide +kernel
theorem dX3_fittingSet_7 : decode cX3_fittingSet 7 = .ok (.iaload, 1) := by decide +kernel
theorem dX3_fittingSet_8 : decode cX3_fittingSet 8 = .ok (.istore 6, 2) := by decide +kernel
theorem dX3_fittingSet_10 : decode cX3_fittingSet 10 = .ok (.iload 6, 2) := by decide +kernel
theorem dX3_fittingSet_12 : decode cX3_fittingSet 12 = .ok (.getstatic 109, 3) := by decide +kernel
theorem dX3_fittingSet_15 : decode cX3_fittingSet 15 = .ok (.iload_n 3, 1) := by decide +kernel
theorem dX3_fittingSet_16 : decode cX3_fittingSet 16 = .ok (.iaload, 1) := by decide +kernel
theorem dX3_fittingSet_17 : decode cX3_fittingSet 17 = .ok (.if_icmp .gt 37, 3) := by decide +kernel
theorem dX3_fittingSet_20 : decode cX3_fittingSet 20 = .ok (.aload_n 0, 1) := by decide +kernel
theorem dX3_fittingSet_21 : decode cX3_fittingSet 21 = .ok (.iload_n 2, 1) := by decide +kernel
theorem dX3_fittingSet_22 : decode cX3_fittingSet 22 = .ok (.iload_n 3, 1) := by decide +kernel
theorem dX3_fittingSet_23 : decode cX3_fittingSet 23 = .ok (.iload 6, 2) := by decide +kernel
theorem dX3_fittingSet_25 : decode cX3_fittingSet 25 = .ok (.iload 4, 2) := by decide +kernel
theorem dX3_fittingSet_27 : decode cX3_fittingSet 27 = .ok (.invokevirtual 160, 3) := by decide +kernel
theorem dX3_fittingSet_30 : decode cX3_fittingSet 30 = .ok (.aload_n 0, 1) := by decide +kernel
theorem dX3_fittingSet_31 : decode cX3_fittingSet 31 = .ok (.iload_n 1, 1) := by decide +kernel
theorem dX3_fittingSet_32 : decode cX3_fittingSet 32 = .ok (.iload_n 2, 1) := by decide +kernel
theorem dX3_fittingSet_33 : decode cX3_fittingSet 33 = .ok (.invokevirtual 268, 3) := by decide +kernel
theorem dX3_fittingSet_36 : decode cX3_fittingSet 36 = .ok (.ifCond .eq 12, 3) := by decide +kernel
theorem dX3_fittingSet_39 : decode cX3_fittingSet 39 = .ok (.iload 5, 2) := by decide +kernel
theorem dX3_fittingSet_41 : decode cX3_fittingSet 41 = .ok (.iconst 1, 1) := by decide +kernel
theorem dX3_fittingSet_42 : decode cX3_fittingSet 42 = .ok (.iload 6, 2) := by decide +kernel
theorem dX3_fittingSet_44 : decode cX3_fittingSet 44 = .ok (.ishl, 1) := by decide +kernel
theorem dX3_fittingSet_45 : decode cX3_fittingSet 45 = .ok (.ior, 1) := by decide +kernel
theorem dX3_fittingSet_46 : decode cX3_fittingSet 46 = .ok (.istore 5, 2) := by decide +kernel
theorem dX3_fittingSet_48 : decode cX3_fittingSet 48 = .ok (.iinc 6 1, 3) := by decide +kernel
theorem dX3_fittingSet_51 : decode cX3_fittingSet 51 = .ok (.goto (-41), 3) := by decide +kernel
theorem dX3_fittingSet_54 : decode cX3_fittingSet 54 = .ok (.iload 5, 2) := by decide +kernel
theorem dX3_fittingSet_56 : decode cX3_fittingSet 56 = .ok (.ireturn, 1) := by decide +kernel
theorem dX3_trialIsAsTold_0 : decode cX3_trialIsAsTold 0 = .ok (.aload_n 0, 1) := by decide +kernel
theorem dX3_trialIsAsTold_1 : decode cX3_trialIsAsTold 1 = .ok (.getfield 32, 3) := by decide +kernel
theorem dX3_trialIsAsTold_4 : decode cX3_trialIsAsTold 4 = .ok (.getfield 229, 3) := by decide +kernel
theorem dX3_trialIsAsTold_7 : decode cX3_trialIsAsTold 7 = .ok (.iload_n 1, 1) := by decide +kernel
theorem dX3_trialIsAsTold_8 : decode cX3_trialIsAsTold 8 = .ok (.iaload, 1) := by decide +kernel
theorem dX3_trialIsAsTold_9 : decode cX3_trialIsAsTold 9 = .ok (.bipush 24, 2) := by decide +kernel
theorem dX3_trialIsAsTold_11 : decode cX3_trialIsAsTold 11 = .ok (.invokestatic 253, 3) := by decide +kernel
theorem dX3_trialIsAsTold_14 : decode cX3_trialIsAsTold 14 = .ok (.istore_n 3, 1) := by decide +kernel
theorem dX3_trialIsAsTold_15 : decode cX3_trialIsAsTold 15 = .ok (.iconst 0, 1) := by decide +kernel
theorem dX3_trialIsAsTold_16 : decode cX3_trialIsAsTold 16 = .ok (.istore 4, 2) := by decide +kernel
theorem dX3_trialIsAsTold_18 : decode cX3_trialIsAsTold 18 = .ok (.iload 4, 2) := by decide +kernel
theorem dX3_trialIsAsTold_20 : decode cX3_trialIsAsTold 20 = .ok (.iload_n 3, 1) := by decide +kernel
theorem dX3_trialIsAsTold_21 : decode cX3_trialIsAsTold 21 = .ok (.if_icmp .ge 61, 3) := by decide +kernel
theorem dX3_trialIsAsTold_24 : decode cX3_trialIsAsTold 24 = .ok (.aload_n 0, 1) := by decide +kernel
theorem dX3_trialIsAsTold_25 : decode cX3_trialIsAsTold 25 = .ok (.getfield 32, 3) := by decide +kernel
theorem dX3_trialIsAsTold_28 : decode cX3_trialIsAsTold 28 = .ok (.getfield 244, 3) := by decide +kernel
theorem dX3_trialIsAsTold_31 : decode cX3_trialIsAsTold 31 = .ok (.iload_n 1, 1) := by decide +kernel
theorem dX3_trialIsAsTold_32 : decode cX3_trialIsAsTold 32 = .ok (.aaload, 1) := by decide +kernel
theorem dX3_trialIsAsTold_33 : decode cX3_trialIsAsTold 33 = .ok (.iload 4, 2) := by decide +kernel
theorem dX3_trialIsAsTold_35 : decode cX3_trialIsAsTold 35 = .ok (.iaload, 1) := by decide +kernel
theorem dX3_trialIsAsTold_36 : decode cX3_trialIsAsTold 36 = .ok (.istore 5, 2) := by decide +kernel
theorem dX3_trialIsAsTold_38 : decode cX3_trialIsAsTold 38 = .ok (.aload_n 0, 1) := by decide +kernel
theorem dX3_trialIsAsTold_39 : decode cX3_trialIsAsTold 39 = .ok (.getfield 16, 3) := by decide +kernel
theorem dX3_trialIsAsTold_42 : decode cX3_trialIsAsTold 42 = .ok (.getfield 53, 3) := by decide +kernel
theorem dX3_trialIsAsTold_45 : decode cX3_trialIsAsTold 45 = .ok (.iconst 0, 1) := by decide +kernel
theorem dX3_trialIsAsTold_46 : decode cX3_trialIsAsTold 46 = .ok (.aaload, 1) := by decide +kernel
theorem dX3_trialIsAsTold_47 : decode cX3_trialIsAsTold 47 = .ok (.iload 4, 2) := by decide +kernel
theorem dX3_trialIsAsTold_49 : decode cX3_trialIsAsTold 49 = .ok (.iaload, 1) := by decide +kernel
theorem dX3_trialIsAsTold_50 : decode cX3_trialIsAsTold 50 = .ok (.iload_n 2, 1) := by decide +kernel
theorem dX3_trialIsAsTold_51 : decode cX3_trialIsAsTold 51 = .ok (.if_icmp .ne 7, 3) := by decide +kernel
theorem dX3_trialIsAsTold_54 : decode cX3_trialIsAsTold 54 = .ok (.iconst 1, 1) := by decide +kernel
theorem dX3_trialIsAsTold_55 : decode cX3_trialIsAsTold 55 = .ok (.goto 4, 3) := by decide +kernel
theorem dX3_trialIsAsTold_58 : decode cX3_trialIsAsTold 58 = .ok (.iconst 0, 1) := by decide +kernel
theorem dX3_trialIsAsTold_59 : decode cX3_trialIsAsTold 59 = .ok (.istore 6, 2) := by decide +kernel
theorem dX3_trialIsAsTold_61 : decode cX3_trialIsAsTold 61 = .ok (.iload 5, 2) := by decide +kernel
theorem dX3_trialIsAsTold_63 : decode cX3_trialIsAsTold 63 = .ok (.iconst (-1), 1) := by decide +kernel
theorem dX3_trialIsAsTold_64 : decode cX3_trialIsAsTold 64 = .ok (.if_icmp .eq 12, 3) := by decide +kernel
theorem dX3_trialIsAsTold_67 : decode cX3_trialIsAsTold 67 = .ok (.iload 5, 2) := by decide +kernel
theorem dX3_trialIsAsTold_69 : decode cX3_trialIsAsTold 69 = .ok (.iload 6, 2) := by decide +kernel
theorem dX3_trialIsAsTold_71 : decode cX3_trialIsAsTold 71 = .ok (.if_icmp .eq 5, 3) := by decide +kernel
theorem dX3_trialIsAsTold_74 : decode cX3_trialIsAsTold 74 = .ok (.iconst 0, 1) := by decide +kernel
theorem dX3_trialIsAsTold_75 : decode cX3_trialIsAsTold 75 = .ok (.ireturn, 1) := by decide +kernel
theorem dX3_trialIsAsTold_76 : decode cX3_trialIsAsTold 76 = .ok (.iinc 4 1, 3) := by decide +kernel
theorem dX3_trialIsAsTold_79 : decode cX3_trialIsAsTold 79 = .ok (.goto (-61), 3) := by decide +kernel
theorem dX3_trialIsAsTold_82 : decode cX3_trialIsAsTold 82 = .ok (.iconst 1, 1) := by decide +kernel
theorem dX3_trialIsAsTold_83 : decode cX3_trialIsAsTold 83 = .ok (.ireturn, 1) := by decide +kernel
