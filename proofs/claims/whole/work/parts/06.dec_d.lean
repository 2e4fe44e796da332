theorem dX4_away_28 : decode cX4_away 28 = .ok (.istore 4, 2) := by decide +kernel
theorem dX4_away_30 : decode cX4_away 30 = .ok (.iload 4, 2) := by decide +kernel
theorem dX4_away_32 : decode cX4_away 32 = .ok (.iconst 1, 1) := by decide +kernel
theorem dX4_away_33 : decode cX4_away 33 = .ok (.aload_n 0, 1) := by decide +kernel
theorem dX4_away_34 : decode cX4_away 34 = .ok (.getfield 9, 3) := by decide +kernel
theorem dX4_away_37 : decode cX4_away 37 = .ok (.iconst 2, 1) := by decide +kernel
theorem dX4_away_38 : decode cX4_away 38 = .ok (.iaload, 1) := by decide +kernel
theorem dX4_away_39 : decode cX4_away 39 = .ok (.ishl, 1) := by decide +kernel
theorem dX4_away_40 : decode cX4_away 40 = .ok (.if_icmp .ge 59, 3) := by decide +kernel
theorem dX4_away_43 : decode cX4_away 43 = .ok (.iload_n 3, 1) := by decide +kernel
theorem dX4_away_44 : decode cX4_away 44 = .ok (.ifCond .lt 15, 3) := by decide +kernel
theorem dX4_away_47 : decode cX4_away 47 = .ok (.iload 4, 2) := by decide +kernel
theorem dX4_away_49 : decode cX4_away 49 = .ok (.invokestatic 144, 3) := by decide +kernel
theorem dX4_away_52 : decode cX4_away 52 = .ok (.iload_n 3, 1) := by decide +kernel
theorem dX4_away_53 : decode cX4_away 53 = .ok (.invokestatic 144, 3) := by decide +kernel
theorem dX4_away_56 : decode cX4_away 56 = .ok (.if_icmp .ge 37, 3) := by decide +kernel
theorem dX4_away_59 : decode cX4_away 59 = .ok (.aload_n 0, 1) := by decide +kernel
theorem dX4_away_60 : decode cX4_away 60 = .ok (.invokevirtual 168, 3) := by decide +kernel
theorem dX4_away_63 : decode cX4_away 63 = .ok (.aload_n 0, 1) := by decide +kernel
theorem dX4_away_64 : decode cX4_away 64 = .ok (.iload 4, 2) := by decide +kernel
theorem dX4_away_66 : decode cX4_away 66 = .ok (.putfield 125, 3) := by decide +kernel
theorem dX4_away_69 : decode cX4_away 69 = .ok (.aload_n 0, 1) := by decide +kernel
theorem dX4_away_70 : decode cX4_away 70 = .ok (.iload_n 1, 1) := by decide +kernel
theorem dX4_away_71 : decode cX4_away 71 = .ok (.iload_n 2, 1) := by decide +kernel
theorem dX4_away_72 : decode cX4_away 72 = .ok (.invokevirtual 187, 3) := by decide +kernel
theorem dX4_away_75 : decode cX4_away 75 = .ok (.aload_n 0, 1) := by decide +kernel
theorem dX4_away_76 : decode cX4_away 76 = .ok (.getfield 9, 3) := by decide +kernel
theorem dX4_away_79 : decode cX4_away 79 = .ok (.iconst 5, 1) := by decide +kernel
theorem dX4_away_80 : decode cX4_away 80 = .ok (.iload_n 1, 1) := by decide +kernel
theorem dX4_away_81 : decode cX4_away 81 = .ok (.iadd, 1) := by decide +kernel
theorem dX4_away_82 : decode cX4_away 82 = .ok (.iaload, 1) := by decide +kernel
theorem dX4_away_83 : decode cX4_away 83 = .ok (.if_icmp .ne 8, 3) := by decide +kernel
theorem dX4_away_86 : decode cX4_away 86 = .ok (.iload 4, 2) := by decide +kernel
theorem dX4_away_88 : decode cX4_away 88 = .ok (.goto 4, 3) := by decide +kernel
theorem dX4_away_91 : decode cX4_away 91 = .ok (.iload_n 3, 1) := by decide +kernel
theorem dX4_away_92 : decode cX4_away 92 = .ok (.istore_n 3, 1) := by decide +kernel
theorem dX4_away_93 : decode cX4_away 93 = .ok (.iinc 4 1, 3) := by decide +kernel
theorem dX4_away_96 : decode cX4_away 96 = .ok (.goto (-66), 3) := by decide +kernel
theorem dX4_away_99 : decode cX4_away 99 = .ok (.aload_n 0, 1) := by decide +kernel
theorem dX4_away_100 : decode cX4_away 100 = .ok (.iconst 0, 1) := by decide +kernel
theorem dX4_away_101 : decode cX4_away 101 = .ok (.putfield 125, 3) := by decide +kernel
theorem dX4_away_104 : decode cX4_away 104 = .ok (.iload_n 3, 1) := by decide +kernel
theorem dX4_away_105 : decode cX4_away 105 = .ok (.ifCond .ge 11, 3) := by decide +kernel
theorem dX4_away_108 : decode cX4_away 108 = .ok (.aload_n 0, 1) := by decide +kernel
theorem dX4_away_109 : decode cX4_away 109 = .ok (.iconst 3, 1) := by decide +kernel
theorem dX4_away_110 : decode cX4_away 110 = .ok (.invokevirtual 76, 3) := by decide +kernel
theorem dX4_away_113 : decode cX4_away 113 = .ok (.goto 4, 3) := by decide +kernel
theorem dX4_away_116 : decode cX4_away 116 = .ok (.iload_n 3, 1) := by decide +kernel
theorem dX4_away_117 : decode cX4_away 117 = .ok (.ireturn, 1) := by decide +kernel
theorem dX4_censor_0 : decode cX4_censor 0 = .ok (.iload_n 1, 1) := by decide +kernel
theorem dX4_censor_1 : decode cX4_censor 1 = .ok (.invokestatic 177, 3) := by decide +kernel
theorem dX4_censor_4 : decode cX4_censor 4 = .ok (.ifCond .ne 9, 3) := by decide +kernel
theorem dX4_censor_7 : decode cX4_censor 7 = .ok (.aload_n 0, 1) := by decide +kernel
theorem dX4_censor_8 : decode cX4_censor 8 = .ok (.iconst 0, 1) := by decide +kernel
theorem dX4_censor_9 : decode cX4_censor 9 = .ok (.invokevirtual 76, 3) := by decide +kernel
theorem dX4_censor_12 : decode cX4_censor 12 = .ok (.ireturn, 1) := by decide +kernel
theorem dX4_censor_13 : decode cX4_censor 13 = .ok (.iconst (-1), 1) := by decide +kernel
theorem dX4_censor_14 : decode cX4_censor 14 = .ok (.istore_n 2, 1) := by decide +kernel
theorem dX4_censor_15 : decode cX4_censor 15 = .ok (.iconst 0, 1) := by decide +kernel
theorem dX4_censor_16 : decode cX4_censor 16 = .ok (.istore_n 3, 1) := by decide +kernel
theorem dX4_censor_17 : decode cX4_censor 17 = .ok (.iconst 0, 1) := by decide +kernel
theorem dX4_censor_18 : decode cX4_censor 18 = .ok (.istore 4, 2) := by decide +kernel
theorem dX4_censor_20 : decode cX4_censor 20 = .ok (.iload 4, 2) := by decide +kernel
theorem dX4_censor_22 : decode cX4_censor 22 = .ok (.aload_n 0, 1) := by decide +kernel
theorem dX4_censor_23 : decode cX4_censor 23 = .ok (.getfield 9, 3) := by decide +kernel
theorem dX4_censor_26 : decode cX4_censor 26 = .ok (.iconst 2, 1) := by decide +kernel
theorem dX4_censor_27 : decode cX4_censor 27 = .ok (.iaload, 1) := by decide +kernel
theorem dX4_censor_28 : decode cX4_censor 28 = .ok (.if_icmp .ge 79, 3) := by decide +kernel
theorem dX4_censor_31 : decode cX4_censor 31 = .ok (.aload_n 0, 1) := by decide +kernel
theorem dX4_censor_32 : decode cX4_censor 32 = .ok (.invokevirtual 168, 3) := by decide +kernel
theorem dX4_censor_35 : decode cX4_censor 35 = .ok (.aload_n 0, 1) := by decide +kernel
theorem dX4_censor_36 : decode cX4_censor 36 = .ok (.iconst 1, 1) := by decide +kernel
theorem dX4_censor_37 : decode cX4_censor 37 = .ok (.iload 4, 2) := by decide +kernel
theorem dX4_censor_39 : decode cX4_censor 39 = .ok (.ishl, 1) := by decide +kernel
theorem dX4_censor_40 : decode cX4_censor 40 = .ok (.putfield 125, 3) := by decide +kernel
theorem dX4_censor_43 : decode cX4_censor 43 = .ok (.aload_n 0, 1) := by decide +kernel
theorem dX4_censor_44 : decode cX4_censor 44 = .ok (.iload_n 1, 1) := by decide +kernel
theorem dX4_censor_45 : decode cX4_censor 45 = .ok (.invokevirtual 138, 3) := by decide +kernel
theorem dX4_censor_48 : decode cX4_censor 48 = .ok (.aload_n 0, 1) := by decide +kernel
theorem dX4_censor_49 : decode cX4_censor 49 = .ok (.getfield 9, 3) := by decide +kernel
theorem dX4_censor_52 : decode cX4_censor 52 = .ok (.iconst 4, 1) := by decide +kernel
theorem dX4_censor_53 : decode cX4_censor 53 = .ok (.iaload, 1) := by decide +kernel
theorem dX4_censor_54 : decode cX4_censor 54 = .ok (.istore 5, 2) := by decide +kernel
theorem dX4_censor_56 : decode cX4_censor 56 = .ok (.aload_n 0, 1) := by decide +kernel
theorem dX4_censor_57 : decode cX4_censor 57 = .ok (.invokevirtual 160, 3) := by decide +kernel
theorem dX4_censor_60 : decode cX4_censor 60 = .ok (.iload_n 2, 1) := by decide +kernel
theorem dX4_censor_61 : decode cX4_censor 61 = .ok (.ifCond .lt 9, 3) := by decide +kernel
theorem dX4_censor_64 : decode cX4_censor 64 = .ok (.iload 5, 2) := by decide +kernel
theorem dX4_censor_66 : decode cX4_censor 66 = .ok (.iload_n 3, 1) := by decide +kernel
theorem dX4_censor_67 : decode cX4_censor 67 = .ok (.if_icmp .ge 7, 3) := by decide +kernel
theorem dX4_censor_70 : decode cX4_censor 70 = .ok (.iconst 1, 1) := by decide +kernel
theorem dX4_censor_71 : decode cX4_censor 71 = .ok (.goto 4, 3) := by decide +kernel
theorem dX4_censor_74 : decode cX4_censor 74 = .ok (.iconst 0, 1) := by decide +kernel
theorem dX4_censor_75 : decode cX4_censor 75 = .ok (.istore 6, 2) := by decide +kernel
theorem dX4_censor_77 : decode cX4_censor 77 = .ok (.iload 6, 2) := by decide +kernel
theorem dX4_censor_79 : decode cX4_censor 79 = .ok (.ifCond .eq 8, 3) := by decide +kernel
theorem dX4_censor_82 : decode cX4_censor 82 = .ok (.iload 4, 2) := by decide +kernel
theorem dX4_censor_84 : decode cX4_censor 84 = .ok (.goto 4, 3) := by decide +kernel
theorem dX4_censor_87 : decode cX4_censor 87 = .ok (.iload_n 2, 1) := by decide +kernel
theorem dX4_censor_88 : decode cX4_censor 88 = .ok (.istore_n 2, 1) := by decide +kernel
theorem dX4_censor_89 : decode cX4_censor 89 = .ok (.iload 6, 2) := by decide +kernel
theorem dX4_censor_91 : decode cX4_censor 91 = .ok (.ifCond .eq 8, 3) := by decide +kernel
theorem dX4_censor_94 : decode cX4_censor 94 = .ok (.iload 5, 2) := by decide +kernel
theorem dX4_censor_96 : decode cX4_censor 96 = .ok (.goto 4, 3) := by decide +kernel
theorem dX4_censor_99 : decode cX4_censor 99 = .ok (.iload_n 3, 1) := by decide +kernel
theorem dX4_censor_100 : decode cX4_censor 100 = .ok (.istore_n 3, 1) := by decide +kernel
theorem dX4_censor_101 : decode cX4_censor 101 = .ok (.iinc 4 1, 3) := by decide +kernel
theorem dX4_censor_104 : decode cX4_censor 104 = .ok (.goto (-84), 3) := by decide +kernel
theorem dX4_censor_107 : decode cX4_censor 107 = .ok (.aload_n 0, 1) := by decide +kernel
theorem dX4_censor_108 : decode cX4_censor 108 = .ok (.iconst 0, 1) := by decide +kernel
theorem dX4_censor_109 : decode cX4_censor 109 = .ok (.putfield 125, 3) := by decide +kernel
theorem dX4_censor_112 : decode cX4_censor 112 = .ok (.iload_n 2, 1) := by decide +kernel
theorem dX4_censor_113 : decode cX4_censor 113 = .ok (.ifCond .ge 11, 3) := by decide +kernel
theorem dX4_censor_116 : decode cX4_censor 116 = .ok (.aload_n 0, 1) := by decide +kernel
theorem dX4_censor_117 : decode cX4_censor 117 = .ok (.iconst 3, 1) := by decide +kernel
theorem dX4_censor_118 : decode cX4_censor 118 = .ok (.invokevirtual 76, 3) := by decide +kernel
theorem dX4_censor_121 : decode cX4_censor 121 = .ok (.goto 4, 3) := by decide +kernel
theorem dX4_censor_124 : decode cX4_censor 124 = .ok (.iload_n 2, 1) := by decide +kernel
theorem dX4_censor_125 : decode cX4_censor 125 = .ok (.ireturn, 1) := by decide +kernel
theorem dX4_isSo_0 : decode cX4_isSo 0 = .ok (.aload_n 0, 1) := by decide +kernel
theorem dX4_isSo_1 : decode cX4_isSo 1 = .ok (.iload_n 3, 1) := by decide +kernel
theorem dX4_isSo_2 : decode cX4_isSo 2 = .ok (.invokevirtual 138, 3) := by decide +kernel
theorem dX4_isSo_5 : decode cX4_isSo 5 = .ok (.iconst 1, 1) := by decide +kernel
theorem dX4_isSo_6 : decode cX4_isSo 6 = .ok (.istore 4, 2) := by decide +kernel
theorem dX4_isSo_8 : decode cX4_isSo 8 = .ok (.iconst 0, 1) := by decide +kernel
theorem dX4_isSo_9 : decode cX4_isSo 9 = .ok (.istore 5, 2) := by decide +kernel
theorem dX4_isSo_11 : decode cX4_isSo 11 = .ok (.iload 5, 2) := by decide +kernel
theorem dX4_isSo_13 : decode cX4_isSo 13 = .ok (.aload_n 0, 1) := by decide +kernel
theorem dX4_isSo_14 : decode cX4_isSo 14 = .ok (.getfield 28, 3) := by decide +kernel
theorem dX4_isSo_17 : decode cX4_isSo 17 = .ok (.iload_n 1, 1) := by decide +kernel
theorem dX4_isSo_18 : decode cX4_isSo 18 = .ok (.iaload, 1) := by decide +kernel
theorem dX4_isSo_19 : decode cX4_isSo 19 = .ok (.if_icmp .ge 71, 3) := by decide +kernel
theorem dX4_isSo_22 : decode cX4_isSo 22 = .ok (.iload 5, 2) := by decide +kernel
theorem dX4_isSo_24 : decode cX4_isSo 24 = .ok (.bipush 24, 2) := by decide +kernel
theorem dX4_isSo_26 : decode cX4_isSo 26 = .ok (.if_icmp .ge 64, 3) := by decide +kernel
theorem dX4_isSo_29 : decode cX4_isSo 29 = .ok (.aload_n 0, 1) := by decide +kernel
theorem dX4_isSo_30 : decode cX4_isSo 30 = .ok (.getfield 31, 3) := by decide +kernel
theorem dX4_isSo_33 : decode cX4_isSo 33 = .ok (.bipush 40, 2) := by decide +kernel
theorem dX4_isSo_35 : decode cX4_isSo 35 = .ok (.iload_n 1, 1) := by decide +kernel
theorem dX4_isSo_36 : decode cX4_isSo 36 = .ok (.imul, 1) := by decide +kernel
theorem dX4_isSo_37 : decode cX4_isSo 37 = .ok (.iload 5, 2) := by decide +kernel
theorem dX4_isSo_39 : decode cX4_isSo 39 = .ok (.iadd, 1) := by decide +kernel
theorem dX4_isSo_40 : decode cX4_isSo 40 = .ok (.iaload, 1) := by decide +kernel
theorem dX4_isSo_41 : decode cX4_isSo 41 = .ok (.istore 6, 2) := by decide +kernel
theorem dX4_isSo_43 : decode cX4_isSo 43 = .ok (.iload 4, 2) := by decide +kernel
theorem dX4_isSo_45 : decode cX4_isSo 45 = .ok (.ifCond .eq 36, 3) := by decide +kernel
theorem dX4_isSo_48 : decode cX4_isSo 48 = .ok (.iload 6, 2) := by decide +kernel
theorem dX4_isSo_50 : decode cX4_isSo 50 = .ok (.iconst (-1), 1) := by decide +kernel
theorem dX4_isSo_51 : decode cX4_isSo 51 = .ok (.if_icmp .eq 26, 3) := by decide +kernel
theorem dX4_isSo_54 : decode cX4_isSo 54 = .ok (.iload 6, 2) := by decide +kernel
theorem dX4_isSo_56 : decode cX4_isSo 56 = .ok (.aload_n 0, 1) := by decide +kernel
theorem dX4_isSo_57 : decode cX4_isSo 57 = .ok (.getfield 9, 3) := by decide +kernel
theorem dX4_isSo_60 : decode cX4_isSo 60 = .ok (.iconst 5, 1) := by decide +kernel
theorem dX4_isSo_61 : decode cX4_isSo 61 = .ok (.iload 5, 2) := by decide +kernel
theorem dX4_isSo_63 : decode cX4_isSo 63 = .ok (.iadd, 1) := by decide +kernel
theorem dX4_isSo_64 : decode cX4_isSo 64 = .ok (.iaload, 1) := by decide +kernel
theorem dX4_isSo_65 : decode cX4_isSo 65 = .ok (.iload_n 2, 1) := by decide +kernel
theorem dX4_isSo_66 : decode cX4_isSo 66 = .ok (.if_icmp .ne 7, 3) := by decide +kernel
theorem dX4_isSo_69 : decode cX4_isSo 69 = .ok (.iconst 1, 1) := by decide +kernel
theorem dX4_isSo_70 : decode cX4_isSo 70 = .ok (.goto 4, 3) := by decide +kernel
theorem dX4_isSo_73 : decode cX4_isSo 73 = .ok (.iconst 0, 1) := by decide +kernel
theorem dX4_isSo_74 : decode cX4_isSo 74 = .ok (.if_icmp .ne 7, 3) := by decide +kernel
theorem dX4_isSo_77 : decode cX4_isSo 77 = .ok (.iconst 1, 1) := by decide +kernel
theorem dX4_isSo_78 : decode cX4_isSo 78 = .ok (.goto 4, 3) := by decide +kernel
theorem dX4_isSo_81 : decode cX4_isSo 81 = .ok (.iconst 0, 1) := by decide +kernel
theorem dX4_isSo_82 : decode cX4_isSo 82 = .ok (.istore 4, 2) := by decide +kernel
theorem dX4_isSo_84 : decode cX4_isSo 84 = .ok (.iinc 5 1, 3) := by decide +kernel
theorem dX4_isSo_87 : decode cX4_isSo 87 = .ok (.goto (-76), 3) := by decide +kernel
theorem dX4_isSo_90 : decode cX4_isSo 90 = .ok (.aload_n 0, 1) := by decide +kernel
theorem dX4_isSo_91 : decode cX4_isSo 91 = .ok (.invokevirtual 160, 3) := by decide +kernel
theorem dX4_isSo_94 : decode cX4_isSo 94 = .ok (.iload 4, 2) := by decide +kernel
theorem dX4_isSo_96 : decode cX4_isSo 96 = .ok (.ireturn, 1) := by decide +kernel
theorem dX4_lacksAsked_0 : decode cX4_lacksAsked 0 = .ok (.aload_n 0, 1) := by decide +kernel
theorem dX4_lacksAsked_1 : decode cX4_lacksAsked 1 = .ok (.iload_n 1, 1) := by decide +kernel
theorem dX4_lacksAsked_2 : decode cX4_lacksAsked 2 = .ok (.invokevirtual 192, 3) := by decide +kernel
theorem dX4_lacksAsked_5 : decode cX4_lacksAsked 5 = .ok (.istore 4, 2) := by decide +kernel
theorem dX4_lacksAsked_7 : decode cX4_lacksAsked 7 = .ok (.iload 4, 2) := by decide +kernel
theorem dX4_lacksAsked_9 : decode cX4_lacksAsked 9 = .ok (.ifCond .lt 6, 3) := by decide +kernel
theorem dX4_lacksAsked_12 : decode cX4_lacksAsked 12 = .ok (.iload 4, 2) := by decide +kernel
theorem dX4_lacksAsked_14 : decode cX4_lacksAsked 14 = .ok (.ireturn, 1) := by decide +kernel
theorem dX4_lacksAsked_15 : decode cX4_lacksAsked 15 = .ok (.aload_n 0, 1) := by decide +kernel
theorem dX4_lacksAsked_16 : decode cX4_lacksAsked 16 = .ok (.iload_n 2, 1) := by decide +kernel
theorem dX4_lacksAsked_17 : decode cX4_lacksAsked 17 = .ok (.invokevirtual 82, 3) := by decide +kernel
theorem dX4_lacksAsked_20 : decode cX4_lacksAsked 20 = .ok (.ifCond .eq 19, 3) := by decide +kernel
theorem dX4_lacksAsked_23 : decode cX4_lacksAsked 23 = .ok (.iload_n 3, 1) := by decide +kernel
theorem dX4_lacksAsked_24 : decode cX4_lacksAsked 24 = .ok (.i2l, 1) := by decide +kernel
theorem dX4_lacksAsked_25 : decode cX4_lacksAsked 25 = .ok (.lconst 0, 1) := by decide +kernel
theorem dX4_lacksAsked_26 : decode cX4_lacksAsked 26 = .ok (.ldc2_w 190, 3) := by decide +kernel
theorem dX4_lacksAsked_29 : decode cX4_lacksAsked 29 = .ok (.invokestatic 42, 3) := by decide +kernel
theorem dX4_lacksAsked_32 : decode cX4_lacksAsked 32 = .ok (.ifCond .eq 7, 3) := by decide +kernel
theorem dX4_lacksAsked_35 : decode cX4_lacksAsked 35 = .ok (.iconst (-1), 1) := by decide +kernel
theorem dX4_lacksAsked_36 : decode cX4_lacksAsked 36 = .ok (.goto 4, 3) := by decide +kernel
theorem dX4_lacksAsked_39 : decode cX4_lacksAsked 39 = .ok (.iconst 0, 1) := by decide +kernel
theorem dX4_lacksAsked_40 : decode cX4_lacksAsked 40 = .ok (.ireturn, 1) := by decide +kernel
theorem dX4_thoseBy_0 : decode cX4_thoseBy 0 = .ok (.iconst 0, 1) := by decide +kernel
theorem dX4_thoseBy_1 : decode cX4_thoseBy 1 = .ok (.istore 7, 2) := by decide +kernel
theorem dX4_thoseBy_3 : decode cX4_thoseBy 3 = .ok (.iload 4, 2) := by decide +kernel
theorem dX4_thoseBy_5 : decode cX4_thoseBy 5 = .ok (.istore 8, 2) := by decide +kernel
theorem dX4_thoseBy_7 : decode cX4_thoseBy 7 = .ok (.iload 8, 2) := by decide +kernel
theorem dX4_thoseBy_9 : decode cX4_thoseBy 9 = .ok (.iload 5, 2) := by decide +kernel
theorem dX4_thoseBy_11 : decode cX4_thoseBy 11 = .ok (.if_icmp .gt 45, 3) := by decide +kernel
theorem dX4_thoseBy_14 : decode cX4_thoseBy 14 = .ok (.aload_n 0, 1) := by decide +kernel
theorem dX4_thoseBy_15 : decode cX4_thoseBy 15 = .ok (.invokevirtual 168, 3) := by decide +kernel
theorem dX4_thoseBy_18 : decode cX4_thoseBy 18 = .ok (.aload_n 0, 1) := by decide +kernel
theorem dX4_thoseBy_19 : decode cX4_thoseBy 19 = .ok (.iload_n 2, 1) := by decide +kernel
theorem dX4_thoseBy_20 : decode cX4_thoseBy 20 = .ok (.iload_n 3, 1) := by decide +kernel
theorem dX4_thoseBy_21 : decode cX4_thoseBy 21 = .ok (.iload 8, 2) := by decide +kernel
theorem dX4_thoseBy_23 : decode cX4_thoseBy 23 = .ok (.invokevirtual 66, 3) := by decide +kernel
theorem dX4_thoseBy_26 : decode cX4_thoseBy 26 = .ok (.iload 7, 2) := by decide +kernel
theorem dX4_thoseBy_28 : decode cX4_thoseBy 28 = .ok (.aload_n 0, 1) := by decide +kernel
theorem dX4_thoseBy_29 : decode cX4_thoseBy 29 = .ok (.iload_n 1, 1) := by decide +kernel
theorem dX4_thoseBy_30 : decode cX4_thoseBy 30 = .ok (.iload_n 2, 1) := by decide +kernel
theorem dX4_thoseBy_31 : decode cX4_thoseBy 31 = .ok (.iload 6, 2) := by decide +kernel
theorem dX4_thoseBy_33 : decode cX4_thoseBy 33 = .ok (.invokevirtual 195, 3) := by decide +kernel
theorem dX4_thoseBy_36 : decode cX4_thoseBy 36 = .ok (.ifCond .eq 10, 3) := by decide +kernel
theorem dX4_thoseBy_39 : decode cX4_thoseBy 39 = .ok (.iconst 1, 1) := by decide +kernel
theorem dX4_thoseBy_40 : decode cX4_thoseBy 40 = .ok (.iload 8, 2) := by decide +kernel
theorem dX4_thoseBy_42 : decode cX4_thoseBy 42 = .ok (.ishl, 1) := by decide +kernel
theorem dX4_thoseBy_43 : decode cX4_thoseBy 43 = .ok (.goto 4, 3) := by decide +kernel
theorem dX4_thoseBy_46 : decode cX4_thoseBy 46 = .ok (.iconst 0, 1) := by decide +kernel
theorem dX4_thoseBy_47 : decode cX4_thoseBy 47 = .ok (.ior, 1) := by decide +kernel
theorem dX4_thoseBy_48 : decode cX4_thoseBy 48 = .ok (.istore 7, 2) := by decide +kernel
theorem dX4_thoseBy_50 : decode cX4_thoseBy 50 = .ok (.iinc 8 1, 3) := by decide +kernel
theorem dX4_thoseBy_53 : decode cX4_thoseBy 53 = .ok (.goto (-46), 3) := by decide +kernel
theorem dX4_thoseBy_56 : decode cX4_thoseBy 56 = .ok (.iload 7, 2) := by decide +kernel
theorem dX4_thoseBy_58 : decode cX4_thoseBy 58 = .ok (.ireturn, 1) := by decide +kernel
theorem dX4_fits_0 : decode cX4_fits 0 = .ok (.aload_n 0, 1) := by decide +kernel
theorem dX4_fits_1 : decode cX4_fits 1 = .ok (.iload_n 1, 1) := by decide +kernel
theorem dX4_fits_2 : decode cX4_fits 2 = .ok (.iload_n 2, 1) := by decide +kernel
theorem dX4_fits_3 : decode cX4_fits 3 = .ok (.iload_n 3, 1) := by decide +kernel
theorem dX4_fits_4 : decode cX4_fits 4 = .ok (.invokevirtual 199, 3) := by decide +kernel
theorem dX4_fits_7 : decode cX4_fits 7 = .ok (.istore 4, 2) := by decide +kernel
theorem dX4_fits_9 : decode cX4_fits 9 = .ok (.iload 4, 2) := by decide +kernel
theorem dX4_fits_11 : decode cX4_fits 11 = .ok (.ifCond .lt 12, 3) := by decide +kernel
theorem dX4_fits_14 : decode cX4_fits 14 = .ok (.aload_n 0, 1) := by decide +kernel
theorem dX4_fits_15 : decode cX4_fits 15 = .ok (.iload 4, 2) := by decide +kernel
theorem dX4_fits_17 : decode cX4_fits 17 = .ok (.invokevirtual 76, 3) := by decide +kernel
theorem dX4_fits_20 : decode cX4_fits 20 = .ok (.goto 17, 3) := by decide +kernel
theorem dX4_fits_23 : decode cX4_fits 23 = .ok (.aload_n 0, 1) := by decide +kernel
theorem dX4_fits_24 : decode cX4_fits 24 = .ok (.iload_n 1, 1) := by decide +kernel
theorem dX4_fits_25 : decode cX4_fits 25 = .ok (.iload_n 2, 1) := by decide +kernel
theorem dX4_fits_26 : decode cX4_fits 26 = .ok (.iconst 3, 1) := by decide +kernel
theorem dX4_fits_27 : decode cX4_fits 27 = .ok (.iconst 1, 1) := by decide +kernel
theorem dX4_fits_28 : decode cX4_fits 28 = .ok (.bipush 6, 2) := by decide +kernel
theorem dX4_fits_30 : decode cX4_fits 30 = .ok (.iload_n 3, 1) := by decide +kernel
theorem dX4_fits_31 : decode cX4_fits 31 = .ok (.invokevirtual 203, 3) := by decide +kernel
theorem dX4_fits_34 : decode cX4_fits 34 = .ok (.invokestatic 144, 3) := by decide +kernel
theorem dX4_fits_37 : decode cX4_fits 37 = .ok (.ireturn, 1) := by decide +kernel
theorem dX4_strode_0 : decode cX4_strode 0 = .ok (.aload_n 0, 1) := by decide +kernel
theorem dX4_strode_1 : decode cX4_strode 1 = .ok (.iload_n 1, 1) := by decide +kernel
theorem dX4_strode_2 : decode cX4_strode 2 = .ok (.iload_n 2, 1) := by decide +kernel
theorem dX4_strode_3 : decode cX4_strode 3 = .ok (.iload_n 3, 1) := by decide +kernel
theorem dX4_strode_4 : decode cX4_strode 4 = .ok (.invokevirtual 199, 3) := by decide +kernel
theorem dX4_strode_7 : decode cX4_strode 7 = .ok (.istore 4, 2) := by decide +kernel
theorem dX4_strode_9 : decode cX4_strode 9 = .ok (.iload 4, 2) := by decide +kernel
theorem dX4_strode_11 : decode cX4_strode 11 = .ok (.ifCond .lt 10, 3) := by decide +kernel
theorem dX4_strode_14 : decode cX4_strode 14 = .ok (.aload_n 0, 1) := by decide +kernel
theorem dX4_strode_15 : decode cX4_strode 15 = .ok (.iload 4, 2) := by decide +kernel
theorem dX4_strode_17 : decode cX4_strode 17 = .ok (.invokevirtual 76, 3) := by decide +kernel
theorem dX4_strode_20 : decode cX4_strode 20 = .ok (.ireturn, 1) := by decide +kernel
theorem dX4_strode_21 : decode cX4_strode 21 = .ok (.aload_n 0, 1) := by decide +kernel
theorem dX4_strode_22 : decode cX4_strode 22 = .ok (.iload_n 1, 1) := by decide +kernel
theorem dX4_strode_23 : decode cX4_strode 23 = .ok (.iload_n 2, 1) := by decide +kernel
theorem dX4_strode_24 : decode cX4_strode 24 = .ok (.iconst 3, 1) := by decide +kernel
theorem dX4_strode_25 : decode cX4_strode 25 = .ok (.iconst 1, 1) := by decide +kernel
theorem dX4_strode_26 : decode cX4_strode 26 = .ok (.bipush 6, 2) := by decide +kernel
theorem dX4_strode_28 : decode cX4_strode 28 = .ok (.iload_n 3, 1) := by decide +kernel
theorem dX4_strode_29 : decode cX4_strode 29 = .ok (.invokevirtual 203, 3) := by decide +kernel
theorem dX4_strode_32 : decode cX4_strode 32 = .ok (.istore 5, 2) := by decide +kernel
theorem dX4_strode_34 : decode cX4_strode 34 = .ok (.iconst 1, 1) := by decide +kernel
theorem dX4_strode_35 : decode cX4_strode 35 = .ok (.istore 6, 2) := by decide +kernel
theorem dX4_strode_37 : decode cX4_strode 37 = .ok (.iload 6, 2) := by decide +kernel
theorem dX4_strode_39 : decode cX4_strode 39 = .ok (.bipush 6, 2) := by decide +kernel
theorem dX4_strode_41 : decode cX4_strode 41 = .ok (.if_icmp .gt 19, 3) := by decide +kernel
theorem dX4_strode_44 : decode cX4_strode 44 = .ok (.iload 5, 2) := by decide +kernel
theorem dX4_strode_46 : decode cX4_strode 46 = .ok (.iload 6, 2) := by decide +kernel
theorem dX4_strode_48 : decode cX4_strode 48 = .ok (.ishr, 1) := by decide +kernel
theorem dX4_strode_49 : decode cX4_strode 49 = .ok (.iconst 1, 1) := by decide +kernel
theorem dX4_strode_50 : decode cX4_strode 50 = .ok (.iand, 1) := by decide +kernel
theorem dX4_strode_51 : decode cX4_strode 51 = .ok (.ifCond .ne 9, 3) := by decide +kernel
theorem dX4_strode_54 : decode cX4_strode 54 = .ok (.iinc 6 1, 3) := by decide +kernel
theorem dX4_strode_57 : decode cX4_strode 57 = .ok (.goto (-20), 3) := by decide +kernel
theorem dX4_strode_60 : decode cX4_strode 60 = .ok (.iload 6, 2) := by decide +kernel
theorem dX4_strode_62 : decode cX4_strode 62 = .ok (.bipush 6, 2) := by decide +kernel
theorem dX4_strode_64 : decode cX4_strode 64 = .ok (.if_icmp .gt 8, 3) := by decide +kernel
theorem dX4_strode_67 : decode cX4_strode 67 = .ok (.iload 6, 2) := by decide +kernel
theorem dX4_strode_69 : decode cX4_strode 69 = .ok (.goto 8, 3) := by decide +kernel
theorem dX4_strode_72 : decode cX4_strode 72 = .ok (.aload_n 0, 1) := by decide +kernel
theorem dX4_strode_73 : decode cX4_strode 73 = .ok (.iconst 3, 1) := by decide +kernel
theorem dX4_strode_74 : decode cX4_strode 74 = .ok (.invokevirtual 76, 3) := by decide +kernel
theorem dX4_strode_77 : decode cX4_strode 77 = .ok (.ireturn, 1) := by decide +kernel
theorem dX4_kinds_0 : decode cX4_kinds 0 = .ok (.aload_n 0, 1) := by decide +kernel
theorem dX4_kinds_1 : decode cX4_kinds 1 = .ok (.iload_n 1, 1) := by decide +kernel
theorem dX4_kinds_2 : decode cX4_kinds 2 = .ok (.iload_n 2, 1) := by decide +kernel
theorem dX4_kinds_3 : decode cX4_kinds 3 = .ok (.iload_n 3, 1) := by decide +kernel
theorem dX4_kinds_4 : decode cX4_kinds 4 = .ok (.invokevirtual 199, 3) := by decide +kernel
theorem dX4_kinds_7 : decode cX4_kinds 7 = .ok (.istore 4, 2) := by decide +kernel
theorem dX4_kinds_9 : decode cX4_kinds 9 = .ok (.iload 4, 2) := by decide +kernel
theorem dX4_kinds_11 : decode cX4_kinds 11 = .ok (.ifCond .lt 12, 3) := by decide +kernel
theorem dX4_kinds_14 : decode cX4_kinds 14 = .ok (.aload_n 0, 1) := by decide +kernel
theorem dX4_kinds_15 : decode cX4_kinds 15 = .ok (.iload 4, 2) := by decide +kernel
theorem dX4_kinds_17 : decode cX4_kinds 17 = .ok (.invokevirtual 76, 3) := by decide +kernel
theorem dX4_kinds_20 : decode cX4_kinds 20 = .ok (.goto 14, 3) := by decide +kernel
theorem dX4_kinds_23 : decode cX4_kinds 23 = .ok (.aload_n 0, 1) := by decide +kernel
theorem dX4_kinds_24 : decode cX4_kinds 24 = .ok (.iload_n 1, 1) := by decide +kernel
theorem dX4_kinds_25 : decode cX4_kinds 25 = .ok (.iload_n 2, 1) := by decide +kernel
theorem dX4_kinds_26 : decode cX4_kinds 26 = .ok (.iconst 0, 1) := by decide +kernel
theorem dX4_kinds_27 : decode cX4_kinds 27 = .ok (.iconst 0, 1) := by decide +kernel
theorem dX4_kinds_28 : decode cX4_kinds 28 = .ok (.bipush 6, 2) := by decide +kernel
theorem dX4_kinds_30 : decode cX4_kinds 30 = .ok (.iload_n 3, 1) := by decide +kernel
theorem dX4_kinds_31 : decode cX4_kinds 31 = .ok (.invokevirtual 203, 3) := by decide +kernel
theorem dX4_kinds_34 : decode cX4_kinds 34 = .ok (.ireturn, 1) := by decide +kernel
theorem dX4_draw_0 : decode cX4_draw 0 = .ok (.aload_n 0, 1) := by decide +kernel
theorem dX4_draw_1 : decode cX4_draw 1 = .ok (.getfield 9, 3) := by decide +kernel
theorem dX4_draw_4 : decode cX4_draw 4 = .ok (.iconst 1, 1) := by decide +kernel
theorem dX4_draw_5 : decode cX4_draw 5 = .ok (.aload_n 0, 1) := by decide +kernel
theorem dX4_draw_6 : decode cX4_draw 6 = .ok (.getfield 9, 3) := by decide +kernel
theorem dX4_draw_9 : decode cX4_draw 9 = .ok (.iconst 1, 1) := by decide +kernel
theorem dX4_draw_10 : decode cX4_draw 10 = .ok (.iaload, 1) := by decide +kernel
theorem dX4_draw_11 : decode cX4_draw 11 = .ok (.ldc 207, 2) := by decide +kernel
theorem dX4_draw_13 : decode cX4_draw 13 = .ok (.imul, 1) := by decide +kernel
theorem dX4_draw_14 : decode cX4_draw 14 = .ok (.sipush 12345, 3) := by decide +kernel
theorem dX4_draw_17 : decode cX4_draw 17 = .ok (.iadd, 1) := by decide +kernel
theorem dX4_draw_18 : decode cX4_draw 18 = .ok (.iastore, 1) := by decide +kernel
theorem dX4_draw_19 : decode cX4_draw 19 = .ok (.aload_n 0, 1) := by decide +kernel
theorem dX4_draw_20 : decode cX4_draw 20 = .ok (.getfield 9, 3) := by decide +kernel
theorem dX4_draw_23 : decode cX4_draw 23 = .ok (.iconst 1, 1) := by decide +kernel
theorem dX4_draw_24 : decode cX4_draw 24 = .ok (.iaload, 1) := by decide +kernel
theorem dX4_draw_25 : decode cX4_draw 25 = .ok (.bipush 8, 2) := by decide +kernel
theorem dX4_draw_27 : decode cX4_draw 27 = .ok (.iushr, 1) := by decide +kernel
theorem dX4_draw_28 : decode cX4_draw 28 = .ok (.ireturn, 1) := by decide +kernel
theorem dX4_tides_0 : decode cX4_tides 0 = .ok (.iload_n 1, 1) := by decide +kernel
theorem dX4_tides_1 : decode cX4_tides 1 = .ok (.i2l, 1) := by decide +kernel
theorem dX4_tides_2 : decode cX4_tides 2 = .ok (.lconst 1, 1) := by decide +kernel
theorem dX4_tides_3 : decode cX4_tides 3 = .ok (.ldc2_w 190, 3) := by decide +kernel
theorem dX4_tides_6 : decode cX4_tides 6 = .ok (.invokestatic 42, 3) := by decide +kernel
theorem dX4_tides_9 : decode cX4_tides 9 = .ok (.ifCond .ne 9, 3) := by decide +kernel
theorem dX4_tides_12 : decode cX4_tides 12 = .ok (.aload_n 0, 1) := by decide +kernel
theorem dX4_tides_13 : decode cX4_tides 13 = .ok (.iconst 0, 1) := by decide +kernel
theorem dX4_tides_14 : decode cX4_tides 14 = .ok (.invokevirtual 76, 3) := by decide +kernel
theorem dX4_tides_17 : decode cX4_tides 17 = .ok (.ireturn, 1) := by decide +kernel
theorem dX4_tides_18 : decode cX4_tides 18 = .ok (.aload_n 0, 1) := by decide +kernel
theorem dX4_tides_19 : decode cX4_tides 19 = .ok (.getfield 9, 3) := by decide +kernel
theorem dX4_tides_22 : decode cX4_tides 22 = .ok (.iconst 0, 1) := by decide +kernel
theorem dX4_tides_23 : decode cX4_tides 23 = .ok (.iaload, 1) := by decide +kernel
theorem dX4_tides_24 : decode cX4_tides 24 = .ok (.iload_n 1, 1) := by decide +kernel
theorem dX4_tides_25 : decode cX4_tides 25 = .ok (.iadd, 1) := by decide +kernel
theorem dX4_tides_26 : decode cX4_tides 26 = .ok (.ldc 124, 2) := by decide +kernel
theorem dX4_tides_28 : decode cX4_tides 28 = .ok (.if_icmp .le 9, 3) := by decide +kernel
theorem dX4_tides_31 : decode cX4_tides 31 = .ok (.aload_n 0, 1) := by decide +kernel
theorem dX4_tides_32 : decode cX4_tides 32 = .ok (.iconst 4, 1) := by decide +kernel
theorem dX4_tides_33 : decode cX4_tides 33 = .ok (.invokevirtual 76, 3) := by decide +kernel
theorem dX4_tides_36 : decode cX4_tides 36 = .ok (.ireturn, 1) := by decide +kernel
theorem dX4_tides_37 : decode cX4_tides 37 = .ok (.iconst 0, 1) := by decide +kernel
theorem dX4_tides_38 : decode cX4_tides 38 = .ok (.istore_n 2, 1) := by decide +kernel
theorem dX4_tides_39 : decode cX4_tides 39 = .ok (.iload_n 2, 1) := by decide +kernel
theorem dX4_tides_40 : decode cX4_tides 40 = .ok (.iload_n 1, 1) := by decide +kernel
theorem dX4_tides_41 : decode cX4_tides 41 = .ok (.if_icmp .ge 61, 3) := by decide +kernel
theorem dX4_tides_44 : decode cX4_tides 44 = .ok (.aload_n 0, 1) := by decide +kernel
theorem dX4_tides_45 : decode cX4_tides 45 = .ok (.getfield 9, 3) := by decide +kernel
theorem dX4_tides_48 : decode cX4_tides 48 = .ok (.iconst 3, 1) := by decide +kernel
theorem dX4_tides_49 : decode cX4_tides 49 = .ok (.aload_n 0, 1) := by decide +kernel
theorem dX4_tides_50 : decode cX4_tides 50 = .ok (.invokevirtual 208, 3) := by decide +kernel
theorem dX4_tides_53 : decode cX4_tides 53 = .ok (.bipush 25, 2) := by decide +kernel
theorem dX4_tides_55 : decode cX4_tides 55 = .ok (.irem, 1) := by decide +kernel
theorem dX4_tides_56 : decode cX4_tides 56 = .ok (.iastore, 1) := by decide +kernel
theorem dX4_tides_57 : decode cX4_tides 57 = .ok (.aload_n 0, 1) := by decide +kernel
theorem dX4_tides_58 : decode cX4_tides 58 = .ok (.invokevirtual 208, 3) := by decide +kernel
theorem dX4_tides_61 : decode cX4_tides 61 = .ok (.bipush 8, 2) := by decide +kernel
theorem dX4_tides_63 : decode cX4_tides 63 = .ok (.irem, 1) := by decide +kernel
theorem dX4_tides_64 : decode cX4_tides 64 = .ok (.istore_n 3, 1) := by decide +kernel
theorem dX4_tides_65 : decode cX4_tides 65 = .ok (.aload_n 0, 1) := by decide +kernel
theorem dX4_tides_66 : decode cX4_tides 66 = .ok (.iload_n 3, 1) := by decide +kernel
theorem dX4_tides_67 : decode cX4_tides 67 = .ok (.invokevirtual 82, 3) := by decide +kernel
theorem dX4_tides_70 : decode cX4_tides 70 = .ok (.ifCond .eq 22, 3) := by decide +kernel
theorem dX4_tides_73 : decode cX4_tides 73 = .ok (.aload_n 0, 1) := by decide +kernel
theorem dX4_tides_74 : decode cX4_tides 74 = .ok (.iload_n 3, 1) := by decide +kernel
theorem dX4_tides_75 : decode cX4_tides 75 = .ok (.iconst 3, 1) := by decide +kernel
theorem dX4_tides_76 : decode cX4_tides 76 = .ok (.bipush 6, 2) := by decide +kernel
theorem dX4_tides_78 : decode cX4_tides 78 = .ok (.aload_n 0, 1) := by decide +kernel
theorem dX4_tides_79 : decode cX4_tides 79 = .ok (.iload_n 3, 1) := by decide +kernel
theorem dX4_tides_80 : decode cX4_tides 80 = .ok (.iconst 3, 1) := by decide +kernel
theorem dX4_tides_81 : decode cX4_tides 81 = .ok (.invokevirtual 54, 3) := by decide +kernel
theorem dX4_tides_84 : decode cX4_tides 84 = .ok (.iconst 1, 1) := by decide +kernel
theorem dX4_tides_85 : decode cX4_tides 85 = .ok (.iadd, 1) := by decide +kernel
theorem dX4_tides_86 : decode cX4_tides 86 = .ok (.invokestatic 63, 3) := by decide +kernel
theorem dX4_tides_89 : decode cX4_tides 89 = .ok (.invokevirtual 66, 3) := by decide +kernel
theorem dX4_tides_92 : decode cX4_tides 92 = .ok (.aload_n 0, 1) := by decide +kernel
theorem dX4_tides_93 : decode cX4_tides 93 = .ok (.invokevirtual 133, 3) := by decide +kernel
theorem dX4_tides_96 : decode cX4_tides 96 = .ok (.iinc 2 1, 3) := by decide +kernel
theorem dX4_tides_99 : decode cX4_tides 99 = .ok (.goto (-60), 3) := by decide +kernel
theorem dX4_tides_102 : decode cX4_tides 102 = .ok (.aload_n 0, 1) := by decide +kernel
theorem dX4_tides_103 : decode cX4_tides 103 = .ok (.invokevirtual 141, 3) := by decide +kernel
theorem dX4_tides_106 : decode cX4_tides 106 = .ok (.invokestatic 144, 3) := by decide +kernel
theorem dX4_tides_109 : decode cX4_tides 109 = .ok (.ireturn, 1) := by decide +kernel
theorem dX4_odds_0 : decode cX4_odds 0 = .ok (.iload_n 1, 1) := by decide +kernel
theorem dX4_odds_1 : decode cX4_odds 1 = .ok (.invokestatic 70, 3) := by decide +kernel
theorem dX4_odds_4 : decode cX4_odds 4 = .ok (.ifCond .eq 25, 3) := by decide +kernel
theorem dX4_odds_7 : decode cX4_odds 7 = .ok (.iload_n 2, 1) := by decide +kernel
theorem dX4_odds_8 : decode cX4_odds 8 = .ok (.i2l, 1) := by decide +kernel
theorem dX4_odds_9 : decode cX4_odds 9 = .ok (.lconst 0, 1) := by decide +kernel
theorem dX4_odds_10 : decode cX4_odds 10 = .ok (.ldc2_w 211, 3) := by decide +kernel
theorem dX4_odds_13 : decode cX4_odds 13 = .ok (.invokestatic 42, 3) := by decide +kernel
theorem dX4_odds_16 : decode cX4_odds 16 = .ok (.ifCond .eq 13, 3) := by decide +kernel
theorem dX4_odds_19 : decode cX4_odds 19 = .ok (.iload_n 3, 1) := by decide +kernel
theorem dX4_odds_20 : decode cX4_odds 20 = .ok (.i2l, 1) := by decide +kernel
theorem dX4_odds_21 : decode cX4_odds 21 = .ok (.lconst 0, 1) := by decide +kernel
theorem dX4_odds_22 : decode cX4_odds 22 = .ok (.lconst 1, 1) := by decide +kernel
theorem dX4_odds_23 : decode cX4_odds 23 = .ok (.invokestatic 42, 3) := by decide +kernel
theorem dX4_odds_26 : decode cX4_odds 26 = .ok (.ifCond .ne 10, 3) := by decide +kernel
theorem dX4_odds_29 : decode cX4_odds 29 = .ok (.aload_n 0, 1) := by decide +kernel
theorem dX4_odds_30 : decode cX4_odds 30 = .ok (.iconst 0, 1) := by decide +kernel
theorem dX4_odds_31 : decode cX4_odds 31 = .ok (.invokevirtual 76, 3) := by decide +kernel
theorem dX4_odds_34 : decode cX4_odds 34 = .ok (.i2l, 1) := by decide +kernel
theorem dX4_odds_35 : decode cX4_odds 35 = .ok (.lreturn, 1) := by decide +kernel
theorem dX4_odds_36 : decode cX4_odds 36 = .ok (.lconst 1, 1) := by decide +kernel
theorem dX4_odds_37 : decode cX4_odds 37 = .ok (.lstore 4, 2) := by decide +kernel
theorem dX4_odds_39 : decode cX4_odds 39 = .ok (.lconst 1, 1) := by decide +kernel
theorem dX4_odds_40 : decode cX4_odds 40 = .ok (.lstore 6, 2) := by decide +kernel
theorem dX4_odds_42 : decode cX4_odds 42 = .ok (.iconst 0, 1) := by decide +kernel
theorem dX4_odds_43 : decode cX4_odds 43 = .ok (.istore 8, 2) := by decide +kernel
theorem dX4_odds_45 : decode cX4_odds 45 = .ok (.iload 8, 2) := by decide +kernel
theorem dX4_odds_47 : decode cX4_odds 47 = .ok (.iload_n 2, 1) := by decide +kernel
theorem dX4_odds_48 : decode cX4_odds 48 = .ok (.if_icmp .ge 26, 3) := by decide +kernel
theorem dX4_odds_51 : decode cX4_odds 51 = .ok (.lload 4, 2) := by decide +kernel
theorem dX4_odds_53 : decode cX4_odds 53 = .ok (.iload_n 1, 1) := by decide +kernel
theorem dX4_odds_54 : decode cX4_odds 54 = .ok (.iconst 1, 1) := by decide +kernel
theorem dX4_odds_55 : decode cX4_odds 55 = .ok (.iadd, 1) := by decide +kernel
theorem dX4_odds_56 : decode cX4_odds 56 = .ok (.i2l, 1) := by decide +kernel
theorem dX4_odds_57 : decode cX4_odds 57 = .ok (.lmul, 1) := by decide +kernel
theorem dX4_odds_58 : decode cX4_odds 58 = .ok (.lstore 4, 2) := by decide +kernel
theorem dX4_odds_60 : decode cX4_odds 60 = .ok (.lload 6, 2) := by decide +kernel
theorem dX4_odds_62 : decode cX4_odds 62 = .ok (.ldc2_w 213, 3) := by decide +kernel
theorem dX4_odds_65 : decode cX4_odds 65 = .ok (.lmul, 1) := by decide +kernel
theorem dX4_odds_66 : decode cX4_odds 66 = .ok (.lstore 6, 2) := by decide +kernel
theorem dX4_odds_68 : decode cX4_odds 68 = .ok (.iinc 8 1, 3) := by decide +kernel
theorem dX4_odds_71 : decode cX4_odds 71 = .ok (.goto (-26), 3) := by decide +kernel
theorem dX4_odds_74 : decode cX4_odds 74 = .ok (.lload 4, 2) := by decide +kernel
theorem dX4_odds_76 : decode cX4_odds 76 = .ok (.lstore 8, 2) := by decide +kernel
theorem dX4_odds_78 : decode cX4_odds 78 = .ok (.lload 6, 2) := by decide +kernel
theorem dX4_odds_80 : decode cX4_odds 80 = .ok (.lstore 10, 2) := by decide +kernel
theorem dX4_odds_82 : decode cX4_odds 82 = .ok (.lload 10, 2) := by decide +kernel
theorem dX4_odds_84 : decode cX4_odds 84 = .ok (.lconst 0, 1) := by decide +kernel
theorem dX4_odds_85 : decode cX4_odds 85 = .ok (.lcmp, 1) := by decide +kernel
theorem dX4_odds_86 : decode cX4_odds 86 = .ok (.ifCond .eq 21, 3) := by decide +kernel
theorem dX4_odds_89 : decode cX4_odds 89 = .ok (.lload 8, 2) := by decide +kernel
theorem dX4_odds_91 : decode cX4_odds 91 = .ok (.lload 10, 2) := by decide +kernel
theorem dX4_odds_93 : decode cX4_odds 93 = .ok (.lrem, 1) := by decide +kernel
theorem dX4_odds_94 : decode cX4_odds 94 = .ok (.lstore 12, 2) := by decide +kernel
theorem dX4_odds_96 : decode cX4_odds 96 = .ok (.lload 10, 2) := by decide +kernel
theorem dX4_odds_98 : decode cX4_odds 98 = .ok (.lstore 8, 2) := by decide +kernel
theorem dX4_odds_100 : decode cX4_odds 100 = .ok (.lload 12, 2) := by decide +kernel
theorem dX4_odds_102 : decode cX4_odds 102 = .ok (.lstore 10, 2) := by decide +kernel
theorem dX4_odds_104 : decode cX4_odds 104 = .ok (.goto (-22), 3) := by decide +kernel
theorem dX4_odds_107 : decode cX4_odds 107 = .ok (.iload_n 3, 1) := by decide +kernel
theorem dX4_odds_108 : decode cX4_odds 108 = .ok (.ifCond .ne 8, 3) := by decide +kernel
theorem dX4_odds_111 : decode cX4_odds 111 = .ok (.lload 4, 2) := by decide +kernel
theorem dX4_odds_113 : decode cX4_odds 113 = .ok (.goto 5, 3) := by decide +kernel
theorem dX4_odds_116 : decode cX4_odds 116 = .ok (.lload 6, 2) := by decide +kernel
theorem dX4_odds_118 : decode cX4_odds 118 = .ok (.lload 8, 2) := by decide +kernel
theorem dX4_odds_120 : decode cX4_odds 120 = .ok (.ldiv, 1) := by decide +kernel
theorem dX4_odds_121 : decode cX4_odds 121 = .ok (.lreturn, 1) := by decide +kernel
theorem dX4_seed_0 : decode cX4_seed 0 = .ok (.aload_n 0, 1) := by decide +kernel
theorem dX4_seed_1 : decode cX4_seed 1 = .ok (.iconst 1, 1) := by decide +kernel
theorem dX4_seed_2 : decode cX4_seed 2 = .ok (.iload_n 1, 1) := by decide +kernel
theorem dX4_seed_3 : decode cX4_seed 3 = .ok (.invokevirtual 93, 3) := by decide +kernel
theorem dX4_seed_6 : decode cX4_seed 6 = .ok (.ireturn, 1) := by decide +kernel
theorem dX4_feed_0 : decode cX4_feed 0 = .ok (.iload_n 2, 1) := by decide +kernel
theorem dX4_feed_1 : decode cX4_feed 1 = .ok (.i2l, 1) := by decide +kernel
theorem dX4_feed_2 : decode cX4_feed 2 = .ok (.lconst 1, 1) := by decide +kernel
theorem dX4_feed_3 : decode cX4_feed 3 = .ok (.ldc2_w 215, 3) := by decide +kernel
theorem dX4_feed_6 : decode cX4_feed 6 = .ok (.invokestatic 42, 3) := by decide +kernel
theorem dX4_feed_9 : decode cX4_feed 9 = .ok (.ifCond .ne 9, 3) := by decide +kernel
theorem dX4_feed_12 : decode cX4_feed 12 = .ok (.aload_n 0, 1) := by decide +kernel
theorem dX4_feed_13 : decode cX4_feed 13 = .ok (.iconst 0, 1) := by decide +kernel
theorem dX4_feed_14 : decode cX4_feed 14 = .ok (.invokevirtual 76, 3) := by decide +kernel
theorem dX4_feed_17 : decode cX4_feed 17 = .ok (.ireturn, 1) := by decide +kernel
theorem dX4_feed_18 : decode cX4_feed 18 = .ok (.aload_n 0, 1) := by decide +kernel
theorem dX4_feed_19 : decode cX4_feed 19 = .ok (.getfield 217, 3) := by decide +kernel
theorem dX4_feed_22 : decode cX4_feed 22 = .ok (.iload_n 2, 1) := by decide +kernel
theorem dX4_feed_23 : decode cX4_feed 23 = .ok (.iadd, 1) := by decide +kernel
theorem dX4_feed_24 : decode cX4_feed 24 = .ok (.bipush 120, 2) := by decide +kernel
theorem dX4_feed_26 : decode cX4_feed 26 = .ok (.if_icmp .le 9, 3) := by decide +kernel
theorem dX4_feed_29 : decode cX4_feed 29 = .ok (.aload_n 0, 1) := by decide +kernel
theorem dX4_feed_30 : decode cX4_feed 30 = .ok (.iconst 1, 1) := by decide +kernel
theorem dX4_feed_31 : decode cX4_feed 31 = .ok (.invokevirtual 76, 3) := by decide +kernel
theorem dX4_feed_34 : decode cX4_feed 34 = .ok (.ireturn, 1) := by decide +kernel
theorem dX4_feed_35 : decode cX4_feed 35 = .ok (.iload_n 2, 1) := by decide +kernel
theorem dX4_feed_36 : decode cX4_feed 36 = .ok (.iconst 1, 1) := by decide +kernel
theorem dX4_feed_37 : decode cX4_feed 37 = .ok (.isub, 1) := by decide +kernel
theorem dX4_feed_38 : decode cX4_feed 38 = .ok (.istore_n 3, 1) := by decide +kernel
theorem dX4_feed_39 : decode cX4_feed 39 = .ok (.iload_n 3, 1) := by decide +kernel
theorem dX4_feed_40 : decode cX4_feed 40 = .ok (.ifCond .lt 38, 3) := by decide +kernel
theorem dX4_feed_43 : decode cX4_feed 43 = .ok (.aload_n 0, 1) := by decide +kernel
theorem dX4_feed_44 : decode cX4_feed 44 = .ok (.getfield 22, 3) := by decide +kernel
theorem dX4_feed_47 : decode cX4_feed 47 = .ok (.aload_n 0, 1) := by decide +kernel
theorem dX4_feed_48 : decode cX4_feed 48 = .ok (.getfield 217, 3) := by decide +kernel
theorem dX4_feed_51 : decode cX4_feed 51 = .ok (.iload_n 1, 1) := by decide +kernel
theorem dX4_feed_52 : decode cX4_feed 52 = .ok (.bipush 8, 2) := by decide +kernel
theorem dX4_feed_54 : decode cX4_feed 54 = .ok (.iload_n 3, 1) := by decide +kernel
theorem dX4_feed_55 : decode cX4_feed 55 = .ok (.imul, 1) := by decide +kernel
theorem dX4_feed_56 : decode cX4_feed 56 = .ok (.ishr, 1) := by decide +kernel
theorem dX4_feed_57 : decode cX4_feed 57 = .ok (.sipush 255, 3) := by decide +kernel
theorem dX4_feed_60 : decode cX4_feed 60 = .ok (.iand, 1) := by decide +kernel
theorem dX4_feed_61 : decode cX4_feed 61 = .ok (.iastore, 1) := by decide +kernel
theorem dX4_feed_62 : decode cX4_feed 62 = .ok (.aload_n 0, 1) := by decide +kernel
theorem dX4_feed_63 : decode cX4_feed 63 = .ok (.dup, 1) := by decide +kernel
theorem dX4_feed_64 : decode cX4_feed 64 = .ok (.getfield 217, 3) := by decide +kernel
theorem dX4_feed_67 : decode cX4_feed 67 = .ok (.iconst 1, 1) := by decide +kernel
theorem dX4_feed_68 : decode cX4_feed 68 = .ok (.iadd, 1) := by decide +kernel
theorem dX4_feed_69 : decode cX4_feed 69 = .ok (.putfield 217, 3) := by decide +kernel
theorem dX4_feed_72 : decode cX4_feed 72 = .ok (.iinc 3 (-1), 3) := by decide +kernel
theorem dX4_feed_75 : decode cX4_feed 75 = .ok (.goto (-36), 3) := by decide +kernel
theorem dX4_feed_78 : decode cX4_feed 78 = .ok (.aload_n 0, 1) := by decide +kernel
theorem dX4_feed_79 : decode cX4_feed 79 = .ok (.getfield 217, 3) := by decide +kernel
theorem dX4_feed_82 : decode cX4_feed 82 = .ok (.ireturn, 1) := by decide +kernel
theorem dX4_wipe_0 : decode cX4_wipe 0 = .ok (.aload_n 0, 1) := by decide +kernel
theorem dX4_wipe_1 : decode cX4_wipe 1 = .ok (.getfield 217, 3) := by decide +kernel
theorem dX4_wipe_4 : decode cX4_wipe 4 = .ok (.istore_n 1, 1) := by decide +kernel
theorem dX4_wipe_5 : decode cX4_wipe 5 = .ok (.aload_n 0, 1) := by decide +kernel
theorem dX4_wipe_6 : decode cX4_wipe 6 = .ok (.iconst 0, 1) := by decide +kernel
theorem dX4_wipe_7 : decode cX4_wipe 7 = .ok (.putfield 217, 3) := by decide +kernel
theorem dX4_wipe_10 : decode cX4_wipe 10 = .ok (.iload_n 1, 1) := by decide +kernel
theorem dX4_wipe_11 : decode cX4_wipe 11 = .ok (.ireturn, 1) := by decide +kernel
theorem dX4_isByte_0 : decode cX4_isByte 0 = .ok (.iload_n 1, 1) := by decide +kernel
theorem dX4_isByte_1 : decode cX4_isByte 1 = .ok (.aload_n 0, 1) := by decide +kernel
theorem dX4_isByte_2 : decode cX4_isByte 2 = .ok (.getfield 217, 3) := by decide +kernel
theorem dX4_isByte_5 : decode cX4_isByte 5 = .ok (.if_icmp .ge 24, 3) := by decide +kernel
theorem dX4_isByte_8 : decode cX4_isByte 8 = .ok (.aload_n 0, 1) := by decide +kernel
theorem dX4_isByte_9 : decode cX4_isByte 9 = .ok (.getfield 22, 3) := by decide +kernel
theorem dX4_isByte_12 : decode cX4_isByte 12 = .ok (.iload_n 1, 1) := by decide +kernel
theorem dX4_isByte_13 : decode cX4_isByte 13 = .ok (.iaload, 1) := by decide +kernel
theorem dX4_isByte_14 : decode cX4_isByte 14 = .ok (.i2l, 1) := by decide +kernel
theorem dX4_isByte_15 : decode cX4_isByte 15 = .ok (.iload_n 2, 1) := by decide +kernel
theorem dX4_isByte_16 : decode cX4_isByte 16 = .ok (.i2l, 1) := by decide +kernel
theorem dX4_isByte_17 : decode cX4_isByte 17 = .ok (.iload_n 3, 1) := by decide +kernel
theorem dX4_isByte_18 : decode cX4_isByte 18 = .ok (.i2l, 1) := by decide +kernel
theorem dX4_isByte_19 : decode cX4_isByte 19 = .ok (.invokestatic 42, 3) := by decide +kernel
theorem dX4_isByte_22 : decode cX4_isByte 22 = .ok (.ifCond .eq 7, 3) := by decide +kernel
theorem dX4_isByte_25 : decode cX4_isByte 25 = .ok (.iconst 1, 1) := by decide +kernel
theorem dX4_isByte_26 : decode cX4_isByte 26 = .ok (.goto 4, 3) := by decide +kernel
theorem dX4_isByte_29 : decode cX4_isByte 29 = .ok (.iconst 0, 1) := by decide +kernel
theorem dX4_isByte_30 : decode cX4_isByte 30 = .ok (.ireturn, 1) := by decide +kernel
theorem dX4_next_0 : decode cX4_next 0 = .ok (.aload_n 0, 1) := by decide +kernel
theorem dX4_next_1 : decode cX4_next 1 = .ok (.aload_n 0, 1) := by decide +kernel
theorem dX4_next_2 : decode cX4_next 2 = .ok (.getfield 220, 3) := by decide +kernel
theorem dX4_next_5 : decode cX4_next 5 = .ok (.putfield 223, 3) := by decide +kernel
theorem dX4_next_8 : decode cX4_next 8 = .ok (.aload_n 0, 1) := by decide +kernel
theorem dX4_next_9 : decode cX4_next 9 = .ok (.aload_n 0, 1) := by decide +kernel
theorem dX4_next_10 : decode cX4_next 10 = .ok (.getfield 223, 3) := by decide +kernel
theorem dX4_next_13 : decode cX4_next 13 = .ok (.bipush 32, 2) := by decide +kernel
theorem dX4_next_15 : decode cX4_next 15 = .ok (.bipush 32, 2) := by decide +kernel
theorem dX4_next_17 : decode cX4_next 17 = .ok (.invokevirtual 226, 3) := by decide +kernel
theorem dX4_next_20 : decode cX4_next 20 = .ok (.ifCond .eq 16, 3) := by decide +kernel
theorem dX4_next_23 : decode cX4_next 23 = .ok (.aload_n 0, 1) := by decide +kernel
theorem dX4_next_24 : decode cX4_next 24 = .ok (.dup, 1) := by decide +kernel
theorem dX4_next_25 : decode cX4_next 25 = .ok (.getfield 223, 3) := by decide +kernel
theorem dX4_next_28 : decode cX4_next 28 = .ok (.iconst 1, 1) := by decide +kernel
theorem dX4_next_29 : decode cX4_next 29 = .ok (.iadd, 1) := by decide +kernel
theorem dX4_next_30 : decode cX4_next 30 = .ok (.putfield 223, 3) := by decide +kernel
theorem dX4_next_33 : decode cX4_next 33 = .ok (.goto (-25), 3) := by decide +kernel
theorem dX4_next_36 : decode cX4_next 36 = .ok (.aload_n 0, 1) := by decide +kernel
theorem dX4_next_37 : decode cX4_next 37 = .ok (.aload_n 0, 1) := by decide +kernel
theorem dX4_next_38 : decode cX4_next 38 = .ok (.getfield 223, 3) := by decide +kernel
theorem dX4_next_41 : decode cX4_next 41 = .ok (.putfield 220, 3) := by decide +kernel
theorem dX4_next_44 : decode cX4_next 44 = .ok (.aload_n 0, 1) := by decide +kernel
theorem dX4_next_45 : decode cX4_next 45 = .ok (.aload_n 0, 1) := by decide +kernel
theorem dX4_next_46 : decode cX4_next 46 = .ok (.getfield 223, 3) := by decide +kernel
theorem dX4_next_49 : decode cX4_next 49 = .ok (.bipush 97, 2) := by decide +kernel
theorem dX4_next_51 : decode cX4_next 51 = .ok (.bipush 122, 2) := by decide +kernel
theorem dX4_next_53 : decode cX4_next 53 = .ok (.invokevirtual 226, 3) := by decide +kernel
theorem dX4_next_56 : decode cX4_next 56 = .ok (.istore_n 1, 1) := by decide +kernel
theorem dX4_next_57 : decode cX4_next 57 = .ok (.aload_n 0, 1) := by decide +kernel
theorem dX4_next_58 : decode cX4_next 58 = .ok (.aload_n 0, 1) := by decide +kernel
theorem dX4_next_59 : decode cX4_next 59 = .ok (.getfield 223, 3) := by decide +kernel
theorem dX4_next_62 : decode cX4_next 62 = .ok (.bipush 48, 2) := by decide +kernel
theorem dX4_next_64 : decode cX4_next 64 = .ok (.bipush 57, 2) := by decide +kernel
theorem dX4_next_66 : decode cX4_next 66 = .ok (.invokevirtual 226, 3) := by decide +kernel
theorem dX4_next_69 : decode cX4_next 69 = .ok (.istore_n 2, 1) := by decide +kernel
theorem dX4_next_70 : decode cX4_next 70 = .ok (.iload_n 1, 1) := by decide +kernel
theorem dX4_next_71 : decode cX4_next 71 = .ok (.ifCond .eq 18, 3) := by decide +kernel
theorem dX4_next_74 : decode cX4_next 74 = .ok (.aload_n 0, 1) := by decide +kernel
theorem dX4_next_75 : decode cX4_next 75 = .ok (.aload_n 0, 1) := by decide +kernel
theorem dX4_next_76 : decode cX4_next 76 = .ok (.getfield 220, 3) := by decide +kernel
theorem dX4_next_79 : decode cX4_next 79 = .ok (.bipush 97, 2) := by decide +kernel
theorem dX4_next_81 : decode cX4_next 81 = .ok (.bipush 122, 2) := by decide +kernel
theorem dX4_next_83 : decode cX4_next 83 = .ok (.invokevirtual 226, 3) := by decide +kernel
theorem dX4_next_86 : decode cX4_next 86 = .ok (.ifCond .ne 22, 3) := by decide +kernel
theorem dX4_next_89 : decode cX4_next 89 = .ok (.iload_n 2, 1) := by decide +kernel
theorem dX4_next_90 : decode cX4_next 90 = .ok (.ifCond .eq 31, 3) := by decide +kernel
theorem dX4_next_93 : decode cX4_next 93 = .ok (.aload_n 0, 1) := by decide +kernel
theorem dX4_next_94 : decode cX4_next 94 = .ok (.aload_n 0, 1) := by decide +kernel
theorem dX4_next_95 : decode cX4_next 95 = .ok (.getfield 220, 3) := by decide +kernel
theorem dX4_next_98 : decode cX4_next 98 = .ok (.bipush 48, 2) := by decide +kernel
theorem dX4_next_100 : decode cX4_next 100 = .ok (.bipush 57, 2) := by decide +kernel
theorem dX4_next_102 : decode cX4_next 102 = .ok (.invokevirtual 226, 3) := by decide +kernel
theorem dX4_next_105 : decode cX4_next 105 = .ok (.ifCond .eq 16, 3) := by decide +kernel
theorem dX4_next_108 : decode cX4_next 108 = .ok (.aload_n 0, 1) := by decide +kernel
theorem dX4_next_109 : decode cX4_next 109 = .ok (.dup, 1) := by decide +kernel
theorem dX4_next_110 : decode cX4_next 110 = .ok (.getfield 220, 3) := by decide +kernel
theorem dX4_next_113 : decode cX4_next 113 = .ok (.iconst 1, 1) := by decide +kernel
theorem dX4_next_114 : decode cX4_next 114 = .ok (.iadd, 1) := by decide +kernel
theorem dX4_next_115 : decode cX4_next 115 = .ok (.putfield 220, 3) := by decide +kernel
theorem dX4_next_118 : decode cX4_next 118 = .ok (.goto (-48), 3) := by decide +kernel
theorem dX4_next_121 : decode cX4_next 121 = .ok (.aload_n 0, 1) := by decide +kernel
theorem dX4_next_122 : decode cX4_next 122 = .ok (.dup, 1) := by decide +kernel
theorem dX4_next_123 : decode cX4_next 123 = .ok (.getfield 220, 3) := by decide +kernel
theorem dX4_next_126 : decode cX4_next 126 = .ok (.iload_n 1, 1) := by decide +kernel
theorem dX4_next_127 : decode cX4_next 127 = .ok (.ifCond .ne 22, 3) := by decide +kernel
theorem dX4_next_130 : decode cX4_next 130 = .ok (.iload_n 2, 1) := by decide +kernel
theorem dX4_next_131 : decode cX4_next 131 = .ok (.ifCond .ne 18, 3) := by decide +kernel
theorem dX4_next_134 : decode cX4_next 134 = .ok (.aload_n 0, 1) := by decide +kernel
theorem dX4_next_135 : decode cX4_next 135 = .ok (.getfield 223, 3) := by decide +kernel
theorem dX4_next_138 : decode cX4_next 138 = .ok (.aload_n 0, 1) := by decide +kernel
theorem dX4_next_139 : decode cX4_next 139 = .ok (.getfield 217, 3) := by decide +kernel
theorem dX4_next_142 : decode cX4_next 142 = .ok (.if_icmp .ge 7, 3) := by decide +kernel
theorem dX4_next_145 : decode cX4_next 145 = .ok (.iconst 1, 1) := by decide +kernel
theorem dX4_next_146 : decode cX4_next 146 = .ok (.goto 4, 3) := by decide +kernel
theorem dX4_next_149 : decode cX4_next 149 = .ok (.iconst 0, 1) := by decide +kernel
theorem dX4_next_150 : decode cX4_next 150 = .ok (.iadd, 1) := by decide +kernel
theorem dX4_next_151 : decode cX4_next 151 = .ok (.putfield 220, 3) := by decide +kernel
theorem dX4_next_154 : decode cX4_next 154 = .ok (.return_, 1) := by decide +kernel
theorem dX4_isWord_0 : decode cX4_isWord 0 = .ok (.aload_n 0, 1) := by decide +kernel
theorem dX4_isWord_1 : decode cX4_isWord 1 = .ok (.getfield 229, 3) := by decide +kernel
theorem dX4_isWord_4 : decode cX4_isWord 4 = .ok (.ifCond .ne 23, 3) := by decide +kernel
theorem dX4_isWord_7 : decode cX4_isWord 7 = .ok (.aload_n 0, 1) := by decide +kernel
theorem dX4_isWord_8 : decode cX4_isWord 8 = .ok (.getfield 220, 3) := by decide +kernel
theorem dX4_isWord_11 : decode cX4_isWord 11 = .ok (.aload_n 0, 1) := by decide +kernel
theorem dX4_isWord_12 : decode cX4_isWord 12 = .ok (.getfield 223, 3) := by decide +kernel
theorem dX4_isWord_15 : decode cX4_isWord 15 = .ok (.isub, 1) := by decide +kernel
theorem dX4_isWord_16 : decode cX4_isWord 16 = .ok (.aload_n 1, 1) := by decide +kernel
theorem dX4_isWord_17 : decode cX4_isWord 17 = .ok (.invokevirtual 233, 3) := by decide +kernel
theorem dX4_isWord_20 : decode cX4_isWord 20 = .ok (.if_icmp .ne 7, 3) := by decide +kernel
theorem dX4_isWord_23 : decode cX4_isWord 23 = .ok (.iconst 1, 1) := by decide +kernel
theorem dX4_isWord_24 : decode cX4_isWord 24 = .ok (.goto 4, 3) := by decide +kernel
theorem dX4_isWord_27 : decode cX4_isWord 27 = .ok (.iconst 0, 1) := by decide +kernel
theorem dX4_isWord_28 : decode cX4_isWord 28 = .ok (.istore_n 2, 1) := by decide +kernel
theorem dX4_isWord_29 : decode cX4_isWord 29 = .ok (.iconst 0, 1) := by decide +kernel
theorem dX4_isWord_30 : decode cX4_isWord 30 = .ok (.istore_n 3, 1) := by decide +kernel
theorem dX4_isWord_31 : decode cX4_isWord 31 = .ok (.iload_n 2, 1) := by decide +kernel
theorem dX4_isWord_32 : decode cX4_isWord 32 = .ok (.ifCond .eq 42, 3) := by decide +kernel
theorem dX4_isWord_35 : decode cX4_isWord 35 = .ok (.iload_n 3, 1) := by decide +kernel
theorem dX4_isWord_36 : decode cX4_isWord 36 = .ok (.aload_n 1, 1) := by decide +kernel
theorem dX4_isWord_37 : decode cX4_isWord 37 = .ok (.invokevirtual 233, 3) := by decide +kernel
theorem dX4_isWord_40 : decode cX4_isWord 40 = .ok (.if_icmp .ge 34, 3) := by decide +kernel
theorem dX4_isWord_43 : decode cX4_isWord 43 = .ok (.aload_n 0, 1) := by decide +kernel
theorem dX4_isWord_44 : decode cX4_isWord 44 = .ok (.getfield 22, 3) := by decide +kernel
theorem dX4_isWord_47 : decode cX4_isWord 47 = .ok (.aload_n 0, 1) := by decide +kernel
theorem dX4_isWord_48 : decode cX4_isWord 48 = .ok (.getfield 223, 3) := by decide +kernel
theorem dX4_isWord_51 : decode cX4_isWord 51 = .ok (.iload_n 3, 1) := by decide +kernel
theorem dX4_isWord_52 : decode cX4_isWord 52 = .ok (.iadd, 1) := by decide +kernel
theorem dX4_isWord_53 : decode cX4_isWord 53 = .ok (.iaload, 1) := by decide +kernel
theorem dX4_isWord_54 : decode cX4_isWord 54 = .ok (.aload_n 1, 1) := by decide +kernel
theorem dX4_isWord_55 : decode cX4_isWord 55 = .ok (.iload_n 3, 1) := by decide +kernel
theorem dX4_isWord_56 : decode cX4_isWord 56 = .ok (.invokevirtual 238, 3) := by decide +kernel
theorem dX4_isWord_59 : decode cX4_isWord 59 = .ok (.if_icmp .ne 7, 3) := by decide +kernel
theorem dX4_isWord_62 : decode cX4_isWord 62 = .ok (.iconst 1, 1) := by decide +kernel
theorem dX4_isWord_63 : decode cX4_isWord 63 = .ok (.goto 4, 3) := by decide +kernel
theorem dX4_isWord_66 : decode cX4_isWord 66 = .ok (.iconst 0, 1) := by decide +kernel
theorem dX4_isWord_67 : decode cX4_isWord 67 = .ok (.istore_n 2, 1) := by decide +kernel
theorem dX4_isWord_68 : decode cX4_isWord 68 = .ok (.iinc 3 1, 3) := by decide +kernel
theorem dX4_isWord_71 : decode cX4_isWord 71 = .ok (.goto (-40), 3) := by decide +kernel
theorem dX4_isWord_74 : decode cX4_isWord 74 = .ok (.iload_n 2, 1) := by decide +kernel
theorem dX4_isWord_75 : decode cX4_isWord 75 = .ok (.ireturn, 1) := by decide +kernel
theorem dX4_must_0 : decode cX4_must 0 = .ok (.aload_n 0, 1) := by decide +kernel
theorem dX4_must_1 : decode cX4_must 1 = .ok (.aload_n 0, 1) := by decide +kernel
theorem dX4_must_2 : decode cX4_must 2 = .ok (.getfield 229, 3) := by decide +kernel
theorem dX4_must_5 : decode cX4_must 5 = .ok (.ifCond .ne 7, 3) := by decide +kernel
theorem dX4_must_8 : decode cX4_must 8 = .ok (.iload_n 1, 1) := by decide +kernel
theorem dX4_must_9 : decode cX4_must 9 = .ok (.ifCond .ne 7, 3) := by decide +kernel
theorem dX4_must_12 : decode cX4_must 12 = .ok (.iconst 1, 1) := by decide +kernel
theorem dX4_must_13 : decode cX4_must 13 = .ok (.goto 4, 3) := by decide +kernel
theorem dX4_must_16 : decode cX4_must 16 = .ok (.iconst 0, 1) := by decide +kernel
theorem dX4_must_17 : decode cX4_must 17 = .ok (.putfield 229, 3) := by decide +kernel
theorem dX4_must_20 : decode cX4_must 20 = .ok (.aload_n 0, 1) := by decide +kernel
theorem dX4_must_21 : decode cX4_must 21 = .ok (.getfield 229, 3) := by decide +kernel
theorem dX4_must_24 : decode cX4_must 24 = .ok (.ifCond .ne 7, 3) := by decide +kernel
theorem dX4_must_27 : decode cX4_must 27 = .ok (.aload_n 0, 1) := by decide +kernel
theorem dX4_must_28 : decode cX4_must 28 = .ok (.invokevirtual 242, 3) := by decide +kernel
theorem dX4_must_31 : decode cX4_must 31 = .ok (.return_, 1) := by decide +kernel
theorem dX4_takes_0 : decode cX4_takes 0 = .ok (.aload_n 0, 1) := by decide +kernel
theorem dX4_takes_1 : decode cX4_takes 1 = .ok (.aload_n 1, 1) := by decide +kernel
theorem dX4_takes_2 : decode cX4_takes 2 = .ok (.invokevirtual 245, 3) := by decide +kernel
theorem dX4_takes_5 : decode cX4_takes 5 = .ok (.istore_n 2, 1) := by decide +kernel
theorem dX4_takes_6 : decode cX4_takes 6 = .ok (.iload_n 2, 1) := by decide +kernel
theorem dX4_takes_7 : decode cX4_takes 7 = .ok (.ifCond .eq 7, 3) := by decide +kernel
theorem dX4_takes_10 : decode cX4_takes 10 = .ok (.aload_n 0, 1) := by decide +kernel
theorem dX4_takes_11 : decode cX4_takes 11 = .ok (.invokevirtual 242, 3) := by decide +kernel
theorem dX4_takes_14 : decode cX4_takes 14 = .ok (.iload_n 2, 1) := by decide +kernel
theorem dX4_takes_15 : decode cX4_takes 15 = .ok (.ireturn, 1) := by decide +kernel
theorem dX4_numberRead_0 : decode cX4_numberRead 0 = .ok (.aload_n 0, 1) := by decide +kernel
theorem dX4_numberRead_1 : decode cX4_numberRead 1 = .ok (.aload_n 0, 1) := by decide +kernel
theorem dX4_numberRead_2 : decode cX4_numberRead 2 = .ok (.getfield 223, 3) := by decide +kernel
theorem dX4_numberRead_5 : decode cX4_numberRead 5 = .ok (.bipush 48, 2) := by decide +kernel
theorem dX4_numberRead_7 : decode cX4_numberRead 7 = .ok (.bipush 57, 2) := by decide +kernel
theorem dX4_numberRead_9 : decode cX4_numberRead 9 = .ok (.invokevirtual 226, 3) := by decide +kernel
theorem dX4_numberRead_12 : decode cX4_numberRead 12 = .ok (.ifCond .eq 7, 3) := by decide +kernel
theorem dX4_numberRead_15 : decode cX4_numberRead 15 = .ok (.iconst 0, 1) := by decide +kernel
theorem dX4_numberRead_16 : decode cX4_numberRead 16 = .ok (.goto 4, 3) := by decide +kernel
theorem dX4_numberRead_19 : decode cX4_numberRead 19 = .ok (.iconst (-1), 1) := by decide +kernel
theorem dX4_numberRead_20 : decode cX4_numberRead 20 = .ok (.istore_n 3, 1) := by decide +kernel
theorem dX4_numberRead_21 : decode cX4_numberRead 21 = .ok (.aload_n 0, 1) := by decide +kernel
theorem dX4_numberRead_22 : decode cX4_numberRead 22 = .ok (.getfield 223, 3) := by decide +kernel
theorem dX4_numberRead_25 : decode cX4_numberRead 25 = .ok (.istore 4, 2) := by decide +kernel
theorem dX4_numberRead_27 : decode cX4_numberRead 27 = .ok (.iload 4, 2) := by decide +kernel
theorem dX4_numberRead_29 : decode cX4_numberRead 29 = .ok (.aload_n 0, 1) := by decide +kernel
theorem dX4_numberRead_30 : decode cX4_numberRead 30 = .ok (.getfield 220, 3) := by decide +kernel
theorem dX4_numberRead_33 : decode cX4_numberRead 33 = .ok (.if_icmp .ge 40, 3) := by decide +kernel
theorem dX4_numberRead_36 : decode cX4_numberRead 36 = .ok (.iload_n 3, 1) := by decide +kernel
theorem dX4_numberRead_37 : decode cX4_numberRead 37 = .ok (.ifCond .lt 36, 3) := by decide +kernel
theorem dX4_numberRead_40 : decode cX4_numberRead 40 = .ok (.iload_n 3, 1) := by decide +kernel
theorem dX4_numberRead_41 : decode cX4_numberRead 41 = .ok (.sipush 999, 3) := by decide +kernel
theorem dX4_numberRead_44 : decode cX4_numberRead 44 = .ok (.if_icmp .le 7, 3) := by decide +kernel
theorem dX4_numberRead_47 : decode cX4_numberRead 47 = .ok (.iload_n 3, 1) := by decide +kernel
theorem dX4_numberRead_48 : decode cX4_numberRead 48 = .ok (.goto 18, 3) := by decide +kernel
theorem dX4_numberRead_51 : decode cX4_numberRead 51 = .ok (.bipush 10, 2) := by decide +kernel
theorem dX4_numberRead_53 : decode cX4_numberRead 53 = .ok (.iload_n 3, 1) := by decide +kernel
theorem dX4_numberRead_54 : decode cX4_numberRead 54 = .ok (.imul, 1) := by decide +kernel
theorem dX4_numberRead_55 : decode cX4_numberRead 55 = .ok (.aload_n 0, 1) := by decide +kernel
theorem dX4_numberRead_56 : decode cX4_numberRead 56 = .ok (.getfield 22, 3) := by decide +kernel
theorem dX4_numberRead_59 : decode cX4_numberRead 59 = .ok (.iload 4, 2) := by decide +kernel
theorem dX4_numberRead_61 : decode cX4_numberRead 61 = .ok (.iaload, 1) := by decide +kernel
theorem dX4_numberRead_62 : decode cX4_numberRead 62 = .ok (.iadd, 1) := by decide +kernel
theorem dX4_numberRead_63 : decode cX4_numberRead 63 = .ok (.bipush 48, 2) := by decide +kernel
theorem dX4_numberRead_65 : decode cX4_numberRead 65 = .ok (.isub, 1) := by decide +kernel
theorem dX4_numberRead_66 : decode cX4_numberRead 66 = .ok (.istore_n 3, 1) := by decide +kernel
theorem dX4_numberRead_67 : decode cX4_numberRead 67 = .ok (.iinc 4 1, 3) := by decide +kernel
theorem dX4_numberRead_70 : decode cX4_numberRead 70 = .ok (.goto (-43), 3) := by decide +kernel
theorem dX4_numberRead_73 : decode cX4_numberRead 73 = .ok (.aload_n 0, 1) := by decide +kernel
theorem dX4_numberRead_74 : decode cX4_numberRead 74 = .ok (.iload_n 3, 1) := by decide +kernel
theorem dX4_numberRead_75 : decode cX4_numberRead 75 = .ok (.i2l, 1) := by decide +kernel
theorem dX4_numberRead_76 : decode cX4_numberRead 76 = .ok (.iload_n 1, 1) := by decide +kernel
theorem dX4_numberRead_77 : decode cX4_numberRead 77 = .ok (.i2l, 1) := by decide +kernel
theorem dX4_numberRead_78 : decode cX4_numberRead 78 = .ok (.iload_n 2, 1) := by decide +kernel
theorem dX4_numberRead_79 : decode cX4_numberRead 79 = .ok (.i2l, 1) := by decide +kernel
theorem dX4_numberRead_80 : decode cX4_numberRead 80 = .ok (.invokestatic 42, 3) := by decide +kernel
theorem dX4_numberRead_83 : decode cX4_numberRead 83 = .ok (.invokevirtual 249, 3) := by decide +kernel
theorem dX4_numberRead_86 : decode cX4_numberRead 86 = .ok (.iload_n 3, 1) := by decide +kernel
theorem dX4_numberRead_87 : decode cX4_numberRead 87 = .ok (.ireturn, 1) := by decide +kernel
theorem dX4_kindHere_0 : decode cX4_kindHere 0 = .ok (.aload_n 0, 1) := by decide +kernel
theorem dX4_kindHere_1 : decode cX4_kindHere 1 = .ok (.ldc 253, 2) := by decide +kernel
theorem dX4_kindHere_3 : decode cX4_kindHere 3 = .ok (.invokevirtual 245, 3) := by decide +kernel
theorem dX4_kindHere_6 : decode cX4_kindHere 6 = .ok (.ifCond .eq 7, 3) := by decide +kernel
theorem dX4_kindHere_9 : decode cX4_kindHere 9 = .ok (.iconst 0, 1) := by decide +kernel
theorem dX4_kindHere_10 : decode cX4_kindHere 10 = .ok (.goto 31, 3) := by decide +kernel
theorem dX4_kindHere_13 : decode cX4_kindHere 13 = .ok (.aload_n 0, 1) := by decide +kernel
theorem dX4_kindHere_14 : decode cX4_kindHere 14 = .ok (.ldc 255, 2) := by decide +kernel
theorem dX4_kindHere_16 : decode cX4_kindHere 16 = .ok (.invokevirtual 245, 3) := by decide +kernel
theorem dX4_kindHere_19 : decode cX4_kindHere 19 = .ok (.ifCond .eq 7, 3) := by decide +kernel
theorem dX4_kindHere_22 : decode cX4_kindHere 22 = .ok (.iconst 1, 1) := by decide +kernel
theorem dX4_kindHere_23 : decode cX4_kindHere 23 = .ok (.goto 18, 3) := by decide +kernel
theorem dX4_kindHere_26 : decode cX4_kindHere 26 = .ok (.aload_n 0, 1) := by decide +kernel
theorem dX4_kindHere_27 : decode cX4_kindHere 27 = .ok (.ldc_w 257, 3) := by decide +kernel
theorem dX4_kindHere_30 : decode cX4_kindHere 30 = .ok (.invokevirtual 245, 3) := by decide +kernel
theorem dX4_kindHere_33 : decode cX4_kindHere 33 = .ok (.ifCond .eq 7, 3) := by decide +kernel
theorem dX4_kindHere_36 : decode cX4_kindHere 36 = .ok (.iconst 2, 1) := by decide +kernel
theorem dX4_kindHere_37 : decode cX4_kindHere 37 = .ok (.goto 4, 3) := by decide +kernel
theorem dX4_kindHere_40 : decode cX4_kindHere 40 = .ok (.iconst (-1), 1) := by decide +kernel
theorem dX4_kindHere_41 : decode cX4_kindHere 41 = .ok (.istore_n 1, 1) := by decide +kernel
theorem dX4_kindHere_42 : decode cX4_kindHere 42 = .ok (.aload_n 0, 1) := by decide +kernel
theorem dX4_kindHere_43 : decode cX4_kindHere 43 = .ok (.ldc_w 259, 3) := by decide +kernel
theorem dX4_kindHere_46 : decode cX4_kindHere 46 = .ok (.invokevirtual 245, 3) := by decide +kernel
theorem dX4_kindHere_49 : decode cX4_kindHere 49 = .ok (.ifCond .eq 7, 3) := by decide +kernel
theorem dX4_kindHere_52 : decode cX4_kindHere 52 = .ok (.iconst 3, 1) := by decide +kernel
theorem dX4_kindHere_53 : decode cX4_kindHere 53 = .ok (.goto 32, 3) := by decide +kernel
theorem dX4_kindHere_56 : decode cX4_kindHere 56 = .ok (.aload_n 0, 1) := by decide +kernel
theorem dX4_kindHere_57 : decode cX4_kindHere 57 = .ok (.ldc_w 261, 3) := by decide +kernel
theorem dX4_kindHere_60 : decode cX4_kindHere 60 = .ok (.invokevirtual 245, 3) := by decide +kernel
theorem dX4_kindHere_63 : decode cX4_kindHere 63 = .ok (.ifCond .eq 7, 3) := by decide +kernel
theorem dX4_kindHere_66 : decode cX4_kindHere 66 = .ok (.iconst 4, 1) := by decide +kernel
theorem dX4_kindHere_67 : decode cX4_kindHere 67 = .ok (.goto 18, 3) := by decide +kernel
theorem dX4_kindHere_70 : decode cX4_kindHere 70 = .ok (.aload_n 0, 1) := by decide +kernel
theorem dX4_kindHere_71 : decode cX4_kindHere 71 = .ok (.ldc_w 263, 3) := by decide +kernel
theorem dX4_kindHere_74 : decode cX4_kindHere 74 = .ok (.invokevirtual 245, 3) := by decide +kernel
theorem dX4_kindHere_77 : decode cX4_kindHere 77 = .ok (.ifCond .eq 7, 3) := by decide +kernel
theorem dX4_kindHere_80 : decode cX4_kindHere 80 = .ok (.iconst 5, 1) := by decide +kernel
theorem dX4_kindHere_81 : decode cX4_kindHere 81 = .ok (.goto 4, 3) := by decide +kernel
theorem dX4_kindHere_84 : decode cX4_kindHere 84 = .ok (.iconst (-1), 1) := by decide +kernel
theorem dX4_kindHere_85 : decode cX4_kindHere 85 = .ok (.istore_n 2, 1) := by decide +kernel
theorem dX4_kindHere_86 : decode cX4_kindHere 86 = .ok (.iload_n 1, 1) := by decide +kernel
theorem dX4_kindHere_87 : decode cX4_kindHere 87 = .ok (.ifCond .lt 7, 3) := by decide +kernel
theorem dX4_kindHere_90 : decode cX4_kindHere 90 = .ok (.iload_n 1, 1) := by decide +kernel
theorem dX4_kindHere_91 : decode cX4_kindHere 91 = .ok (.goto 27, 3) := by decide +kernel
theorem dX4_kindHere_94 : decode cX4_kindHere 94 = .ok (.iload_n 2, 1) := by decide +kernel
theorem dX4_kindHere_95 : decode cX4_kindHere 95 = .ok (.ifCond .lt 7, 3) := by decide +kernel
theorem dX4_kindHere_98 : decode cX4_kindHere 98 = .ok (.iload_n 2, 1) := by decide +kernel
theorem dX4_kindHere_99 : decode cX4_kindHere 99 = .ok (.goto 19, 3) := by decide +kernel
theorem dX4_kindHere_102 : decode cX4_kindHere 102 = .ok (.aload_n 0, 1) := by decide +kernel
theorem dX4_kindHere_103 : decode cX4_kindHere 103 = .ok (.ldc_w 265, 3) := by decide +kernel
theorem dX4_kindHere_106 : decode cX4_kindHere 106 = .ok (.invokevirtual 245, 3) := by decide +kernel
theorem dX4_kindHere_109 : decode cX4_kindHere 109 = .ok (.ifCond .eq 8, 3) := by decide +kernel
theorem dX4_kindHere_112 : decode cX4_kindHere 112 = .ok (.bipush 6, 2) := by decide +kernel
theorem dX4_kindHere_114 : decode cX4_kindHere 114 = .ok (.goto 4, 3) := by decide +kernel
theorem dX4_kindHere_117 : decode cX4_kindHere 117 = .ok (.iconst (-1), 1) := by decide +kernel
theorem dX4_kindHere_118 : decode cX4_kindHere 118 = .ok (.ireturn, 1) := by decide +kernel
theorem dX4_walkerTold_0 : decode cX4_walkerTold 0 = .ok (.aload_n 0, 1) := by decide +kernel
theorem dX4_walkerTold_1 : decode cX4_walkerTold 1 = .ok (.aload_n 0, 1) := by decide +kernel
theorem dX4_walkerTold_2 : decode cX4_walkerTold 2 = .ok (.getfield 9, 3) := by decide +kernel
theorem dX4_walkerTold_5 : decode cX4_walkerTold 5 = .ok (.iconst 2, 1) := by decide +kernel
theorem dX4_walkerTold_6 : decode cX4_walkerTold 6 = .ok (.iaload, 1) := by decide +kernel
theorem dX4_walkerTold_7 : decode cX4_walkerTold 7 = .ok (.bipush 8, 2) := by decide +kernel
theorem dX4_walkerTold_9 : decode cX4_walkerTold 9 = .ok (.if_icmp .ge 7, 3) := by decide +kernel
theorem dX4_walkerTold_12 : decode cX4_walkerTold 12 = .ok (.iconst 1, 1) := by decide +kernel
theorem dX4_walkerTold_13 : decode cX4_walkerTold 13 = .ok (.goto 4, 3) := by decide +kernel
theorem dX4_walkerTold_16 : decode cX4_walkerTold 16 = .ok (.iconst 0, 1) := by decide +kernel
theorem dX4_walkerTold_17 : decode cX4_walkerTold 17 = .ok (.invokevirtual 249, 3) := by decide +kernel
theorem dX4_walkerTold_20 : decode cX4_walkerTold 20 = .ok (.aload_n 0, 1) := by decide +kernel
theorem dX4_walkerTold_21 : decode cX4_walkerTold 21 = .ok (.getfield 229, 3) := by decide +kernel
theorem dX4_walkerTold_24 : decode cX4_walkerTold 24 = .ok (.ifCond .eq 4, 3) := by decide +kernel
theorem dX4_walkerTold_27 : decode cX4_walkerTold 27 = .ok (.return_, 1) := by decide +kernel
theorem dX4_walkerTold_28 : decode cX4_walkerTold 28 = .ok (.aload_n 0, 1) := by decide +kernel
theorem dX4_walkerTold_29 : decode cX4_walkerTold 29 = .ok (.iload_n 1, 1) := by decide +kernel
theorem dX4_walkerTold_30 : decode cX4_walkerTold 30 = .ok (.iconst 0, 1) := by decide +kernel
theorem dX4_walkerTold_31 : decode cX4_walkerTold 31 = .ok (.invokevirtual 103, 3) := by decide +kernel
theorem dX4_walkerTold_34 : decode cX4_walkerTold 34 = .ok (.istore_n 2, 1) := by decide +kernel
theorem dX4_walkerTold_35 : decode cX4_walkerTold 35 = .ok (.aload_n 0, 1) := by decide +kernel
theorem dX4_walkerTold_36 : decode cX4_walkerTold 36 = .ok (.ldc_w 267, 3) := by decide +kernel
theorem dX4_walkerTold_39 : decode cX4_walkerTold 39 = .ok (.invokevirtual 269, 3) := by decide +kernel
theorem dX4_walkerTold_42 : decode cX4_walkerTold 42 = .ok (.ifCond .eq 16, 3) := by decide +kernel
theorem dX4_walkerTold_45 : decode cX4_walkerTold 45 = .ok (.aload_n 0, 1) := by decide +kernel
theorem dX4_walkerTold_46 : decode cX4_walkerTold 46 = .ok (.iload_n 2, 1) := by decide +kernel
theorem dX4_walkerTold_47 : decode cX4_walkerTold 47 = .ok (.iconst 1, 1) := by decide +kernel
theorem dX4_walkerTold_48 : decode cX4_walkerTold 48 = .ok (.aload_n 0, 1) := by decide +kernel
theorem dX4_walkerTold_49 : decode cX4_walkerTold 49 = .ok (.iconst 0, 1) := by decide +kernel
theorem dX4_walkerTold_50 : decode cX4_walkerTold 50 = .ok (.bipush 23, 2) := by decide +kernel
theorem dX4_walkerTold_52 : decode cX4_walkerTold 52 = .ok (.invokevirtual 272, 3) := by decide +kernel
theorem dX4_walkerTold_55 : decode cX4_walkerTold 55 = .ok (.invokevirtual 66, 3) := by decide +kernel
theorem dX4_walkerTold_58 : decode cX4_walkerTold 58 = .ok (.aload_n 0, 1) := by decide +kernel
theorem dX4_walkerTold_59 : decode cX4_walkerTold 59 = .ok (.ldc_w 275, 3) := by decide +kernel
theorem dX4_walkerTold_62 : decode cX4_walkerTold 62 = .ok (.invokevirtual 269, 3) := by decide +kernel
theorem dX4_walkerTold_65 : decode cX4_walkerTold 65 = .ok (.ifCond .eq 10, 3) := by decide +kernel
theorem dX4_walkerTold_68 : decode cX4_walkerTold 68 = .ok (.aload_n 0, 1) := by decide +kernel
theorem dX4_walkerTold_69 : decode cX4_walkerTold 69 = .ok (.iload_n 2, 1) := by decide +kernel
theorem dX4_walkerTold_70 : decode cX4_walkerTold 70 = .ok (.iconst 2, 1) := by decide +kernel
theorem dX4_walkerTold_71 : decode cX4_walkerTold 71 = .ok (.iconst 0, 1) := by decide +kernel
theorem dX4_walkerTold_72 : decode cX4_walkerTold 72 = .ok (.invokevirtual 66, 3) := by decide +kernel
theorem dX4_walkerTold_75 : decode cX4_walkerTold 75 = .ok (.aload_n 0, 1) := by decide +kernel
theorem dX4_walkerTold_76 : decode cX4_walkerTold 76 = .ok (.ldc_w 277, 3) := by decide +kernel
theorem dX4_walkerTold_79 : decode cX4_walkerTold 79 = .ok (.invokevirtual 269, 3) := by decide +kernel
theorem dX4_walkerTold_82 : decode cX4_walkerTold 82 = .ok (.ifCond .eq 16, 3) := by decide +kernel
theorem dX4_walkerTold_85 : decode cX4_walkerTold 85 = .ok (.aload_n 0, 1) := by decide +kernel
theorem dX4_walkerTold_86 : decode cX4_walkerTold 86 = .ok (.iload_n 2, 1) := by decide +kernel
theorem dX4_walkerTold_87 : decode cX4_walkerTold 87 = .ok (.iconst 3, 1) := by decide +kernel
theorem dX4_walkerTold_88 : decode cX4_walkerTold 88 = .ok (.aload_n 0, 1) := by decide +kernel
theorem dX4_walkerTold_89 : decode cX4_walkerTold 89 = .ok (.iconst 1, 1) := by decide +kernel
theorem dX4_walkerTold_90 : decode cX4_walkerTold 90 = .ok (.bipush 6, 2) := by decide +kernel
theorem dX4_walkerTold_92 : decode cX4_walkerTold 92 = .ok (.invokevirtual 272, 3) := by decide +kernel
theorem dX4_walkerTold_95 : decode cX4_walkerTold 95 = .ok (.invokevirtual 66, 3) := by decide +kernel
theorem dX4_walkerTold_98 : decode cX4_walkerTold 98 = .ok (.aload_n 0, 1) := by decide +kernel
theorem dX4_walkerTold_99 : decode cX4_walkerTold 99 = .ok (.ldc_w 279, 3) := by decide +kernel
theorem dX4_walkerTold_102 : decode cX4_walkerTold 102 = .ok (.invokevirtual 269, 3) := by decide +kernel
theorem dX4_walkerTold_105 : decode cX4_walkerTold 105 = .ok (.ifCond .eq 16, 3) := by decide +kernel
theorem dX4_walkerTold_108 : decode cX4_walkerTold 108 = .ok (.aload_n 0, 1) := by decide +kernel
theorem dX4_walkerTold_109 : decode cX4_walkerTold 109 = .ok (.iload_n 2, 1) := by decide +kernel
theorem dX4_walkerTold_110 : decode cX4_walkerTold 110 = .ok (.iconst 4, 1) := by decide +kernel
theorem dX4_walkerTold_111 : decode cX4_walkerTold 111 = .ok (.aload_n 0, 1) := by decide +kernel
theorem dX4_walkerTold_112 : decode cX4_walkerTold 112 = .ok (.iconst 1, 1) := by decide +kernel
theorem dX4_walkerTold_113 : decode cX4_walkerTold 113 = .ok (.bipush 9, 2) := by decide +kernel
theorem dX4_walkerTold_115 : decode cX4_walkerTold 115 = .ok (.invokevirtual 272, 3) := by decide +kernel
theorem dX4_walkerTold_118 : decode cX4_walkerTold 118 = .ok (.invokevirtual 66, 3) := by decide +kernel
theorem dX4_walkerTold_121 : decode cX4_walkerTold 121 = .ok (.return_, 1) := by decide +kernel
theorem dX4_printTold_0 : decode cX4_printTold 0 = .ok (.aload_n 0, 1) := by decide +kernel
theorem dX4_printTold_1 : decode cX4_printTold 1 = .ok (.iconst 0, 1) := by decide +kernel
theorem dX4_printTold_2 : decode cX4_printTold 2 = .ok (.bipush 23, 2) := by decide +kernel
theorem dX4_printTold_4 : decode cX4_printTold 4 = .ok (.invokevirtual 272, 3) := by decide +kernel
theorem dX4_printTold_7 : decode cX4_printTold 7 = .ok (.istore_n 1, 1) := by decide +kernel
theorem dX4_printTold_8 : decode cX4_printTold 8 = .ok (.aload_n 0, 1) := by decide +kernel
theorem dX4_printTold_9 : decode cX4_printTold 9 = .ok (.iconst 0, 1) := by decide +kernel
theorem dX4_printTold_10 : decode cX4_printTold 10 = .ok (.aload_n 0, 1) := by decide +kernel
theorem dX4_printTold_11 : decode cX4_printTold 11 = .ok (.getfield 9, 3) := by decide +kernel
theorem dX4_printTold_14 : decode cX4_printTold 14 = .ok (.iconst 2, 1) := by decide +kernel
theorem dX4_printTold_15 : decode cX4_printTold 15 = .ok (.iaload, 1) := by decide +kernel
theorem dX4_printTold_16 : decode cX4_printTold 16 = .ok (.iconst 1, 1) := by decide +kernel
theorem dX4_printTold_17 : decode cX4_printTold 17 = .ok (.isub, 1) := by decide +kernel
theorem dX4_printTold_18 : decode cX4_printTold 18 = .ok (.invokevirtual 272, 3) := by decide +kernel
theorem dX4_printTold_21 : decode cX4_printTold 21 = .ok (.istore_n 2, 1) := by decide +kernel
theorem dX4_printTold_22 : decode cX4_printTold 22 = .ok (.aload_n 0, 1) := by decide +kernel
theorem dX4_printTold_23 : decode cX4_printTold 23 = .ok (.iconst 0, 1) := by decide +kernel
theorem dX4_printTold_24 : decode cX4_printTold 24 = .ok (.bipush 9, 2) := by decide +kernel
theorem dX4_printTold_26 : decode cX4_printTold 26 = .ok (.invokevirtual 272, 3) := by decide +kernel
theorem dX4_printTold_29 : decode cX4_printTold 29 = .ok (.istore_n 3, 1) := by decide +kernel
theorem dX4_printTold_30 : decode cX4_printTold 30 = .ok (.aload_n 0, 1) := by decide +kernel
theorem dX4_printTold_31 : decode cX4_printTold 31 = .ok (.getfield 229, 3) := by decide +kernel
theorem dX4_printTold_34 : decode cX4_printTold 34 = .ok (.ifCond .ne 17, 3) := by decide +kernel
theorem dX4_printTold_37 : decode cX4_printTold 37 = .ok (.aload_n 0, 1) := by decide +kernel
theorem dX4_printTold_38 : decode cX4_printTold 38 = .ok (.ldc_w 275, 3) := by decide +kernel
theorem dX4_printTold_41 : decode cX4_printTold 41 = .ok (.invokevirtual 269, 3) := by decide +kernel
theorem dX4_printTold_44 : decode cX4_printTold 44 = .ok (.ifCond .eq 7, 3) := by decide +kernel
theorem dX4_printTold_47 : decode cX4_printTold 47 = .ok (.iconst 1, 1) := by decide +kernel
theorem dX4_printTold_48 : decode cX4_printTold 48 = .ok (.goto 4, 3) := by decide +kernel
theorem dX4_printTold_51 : decode cX4_printTold 51 = .ok (.iconst 0, 1) := by decide +kernel
theorem dX4_printTold_52 : decode cX4_printTold 52 = .ok (.istore 4, 2) := by decide +kernel
theorem dX4_printTold_54 : decode cX4_printTold 54 = .ok (.aload_n 0, 1) := by decide +kernel
theorem dX4_printTold_55 : decode cX4_printTold 55 = .ok (.getfield 229, 3) := by decide +kernel
theorem dX4_printTold_58 : decode cX4_printTold 58 = .ok (.ifCond .ne 20, 3) := by decide +kernel
theorem dX4_printTold_61 : decode cX4_printTold 61 = .ok (.aload_n 0, 1) := by decide +kernel
theorem dX4_printTold_62 : decode cX4_printTold 62 = .ok (.iload_n 1, 1) := by decide +kernel
theorem dX4_printTold_63 : decode cX4_printTold 63 = .ok (.iload_n 2, 1) := by decide +kernel
theorem dX4_printTold_64 : decode cX4_printTold 64 = .ok (.iload_n 3, 1) := by decide +kernel
theorem dX4_printTold_65 : decode cX4_printTold 65 = .ok (.iload 4, 2) := by decide +kernel
theorem dX4_printTold_67 : decode cX4_printTold 67 = .ok (.ifCond .eq 7, 3) := by decide +kernel
theorem dX4_printTold_70 : decode cX4_printTold 70 = .ok (.iconst 0, 1) := by decide +kernel
theorem dX4_printTold_71 : decode cX4_printTold 71 = .ok (.goto 4, 3) := by decide +kernel
theorem dX4_printTold_74 : decode cX4_printTold 74 = .ok (.iconst 1, 1) := by decide +kernel
theorem dX4_printTold_75 : decode cX4_printTold 75 = .ok (.invokevirtual 87, 3) := by decide +kernel
theorem dX4_printTold_78 : decode cX4_printTold 78 = .ok (.return_, 1) := by decide +kernel
theorem dX4_item_0 : decode cX4_item 0 = .ok (.aload_n 0, 1) := by decide +kernel
theorem dX4_item_1 : decode cX4_item 1 = .ok (.invokevirtual 281, 3) := by decide +kernel
theorem dX4_item_4 : decode cX4_item 4 = .ok (.istore_n 1, 1) := by decide +kernel
theorem dX4_item_5 : decode cX4_item 5 = .ok (.iload_n 1, 1) := by decide +kernel
theorem dX4_item_6 : decode cX4_item 6 = .ok (.ifCond .lt 11, 3) := by decide +kernel
theorem dX4_item_9 : decode cX4_item 9 = .ok (.aload_n 0, 1) := by decide +kernel
theorem dX4_item_10 : decode cX4_item 10 = .ok (.iload_n 1, 1) := by decide +kernel
theorem dX4_item_11 : decode cX4_item 11 = .ok (.invokevirtual 284, 3) := by decide +kernel
theorem dX4_item_14 : decode cX4_item 14 = .ok (.goto 53, 3) := by decide +kernel
theorem dX4_item_17 : decode cX4_item 17 = .ok (.aload_n 0, 1) := by decide +kernel
theorem dX4_item_18 : decode cX4_item 18 = .ok (.ldc_w 287, 3) := by decide +kernel
theorem dX4_item_21 : decode cX4_item 21 = .ok (.invokevirtual 269, 3) := by decide +kernel
theorem dX4_item_24 : decode cX4_item 24 = .ok (.ifCond .eq 28, 3) := by decide +kernel
theorem dX4_item_27 : decode cX4_item 27 = .ok (.aload_n 0, 1) := by decide +kernel
theorem dX4_item_28 : decode cX4_item 28 = .ok (.iconst 0, 1) := by decide +kernel
theorem dX4_item_29 : decode cX4_item 29 = .ok (.bipush 24, 2) := by decide +kernel
theorem dX4_item_31 : decode cX4_item 31 = .ok (.invokevirtual 272, 3) := by decide +kernel
theorem dX4_item_34 : decode cX4_item 34 = .ok (.istore_n 2, 1) := by decide +kernel
theorem dX4_item_35 : decode cX4_item 35 = .ok (.aload_n 0, 1) := by decide +kernel
theorem dX4_item_36 : decode cX4_item 36 = .ok (.getfield 229, 3) := by decide +kernel
theorem dX4_item_39 : decode cX4_item 39 = .ok (.ifCond .ne 10, 3) := by decide +kernel
theorem dX4_item_42 : decode cX4_item 42 = .ok (.aload_n 0, 1) := by decide +kernel
theorem dX4_item_43 : decode cX4_item 43 = .ok (.getfield 9, 3) := by decide +kernel
theorem dX4_item_46 : decode cX4_item 46 = .ok (.iconst 3, 1) := by decide +kernel
theorem dX4_item_47 : decode cX4_item 47 = .ok (.iload_n 2, 1) := by decide +kernel
theorem dX4_item_48 : decode cX4_item 48 = .ok (.iastore, 1) := by decide +kernel
theorem dX4_item_49 : decode cX4_item 49 = .ok (.goto 18, 3) := by decide +kernel
theorem dX4_item_52 : decode cX4_item 52 = .ok (.aload_n 0, 1) := by decide +kernel
theorem dX4_item_53 : decode cX4_item 53 = .ok (.aload_n 0, 1) := by decide +kernel
theorem dX4_item_54 : decode cX4_item 54 = .ok (.ldc_w 289, 3) := by decide +kernel
theorem dX4_item_57 : decode cX4_item 57 = .ok (.invokevirtual 245, 3) := by decide +kernel
theorem dX4_item_60 : decode cX4_item 60 = .ok (.invokevirtual 249, 3) := by decide +kernel
theorem dX4_item_63 : decode cX4_item 63 = .ok (.aload_n 0, 1) := by decide +kernel
theorem dX4_item_64 : decode cX4_item 64 = .ok (.invokevirtual 291, 3) := by decide +kernel
theorem dX4_item_67 : decode cX4_item 67 = .ok (.return_, 1) := by decide +kernel
theorem dX4_text_0 : decode cX4_text 0 = .ok (.aload_n 0, 1) := by decide +kernel
theorem dX4_text_1 : decode cX4_text 1 = .ok (.invokevirtual 168, 3) := by decide +kernel
theorem dX4_text_4 : decode cX4_text 4 = .ok (.aload_n 0, 1) := by decide +kernel
theorem dX4_text_5 : decode cX4_text 5 = .ok (.iconst 0, 1) := by decide +kernel
theorem dX4_text_6 : decode cX4_text 6 = .ok (.putfield 229, 3) := by decide +kernel
theorem dX4_text_9 : decode cX4_text 9 = .ok (.aload_n 0, 1) := by decide +kernel
theorem dX4_text_10 : decode cX4_text 10 = .ok (.iconst 0, 1) := by decide +kernel
theorem dX4_text_11 : decode cX4_text 11 = .ok (.putfield 220, 3) := by decide +kernel
theorem dX4_text_14 : decode cX4_text 14 = .ok (.aload_n 0, 1) := by decide +kernel
theorem dX4_text_15 : decode cX4_text 15 = .ok (.invokevirtual 242, 3) := by decide +kernel
theorem dX4_text_18 : decode cX4_text 18 = .ok (.aload_n 0, 1) := by decide +kernel
theorem dX4_text_19 : decode cX4_text 19 = .ok (.invokevirtual 294, 3) := by decide +kernel
theorem dX4_text_22 : decode cX4_text 22 = .ok (.iconst 1, 1) := by decide +kernel
theorem dX4_text_23 : decode cX4_text 23 = .ok (.istore_n 1, 1) := by decide +kernel
theorem dX4_text_24 : decode cX4_text 24 = .ok (.aload_n 0, 1) := by decide +kernel
theorem dX4_text_25 : decode cX4_text 25 = .ok (.getfield 229, 3) := by decide +kernel
theorem dX4_text_28 : decode cX4_text 28 = .ok (.ifCond .ne 35, 3) := by decide +kernel
theorem dX4_text_31 : decode cX4_text 31 = .ok (.aload_n 0, 1) := by decide +kernel
theorem dX4_text_32 : decode cX4_text 32 = .ok (.getfield 223, 3) := by decide +kernel
theorem dX4_text_35 : decode cX4_text 35 = .ok (.aload_n 0, 1) := by decide +kernel
theorem dX4_text_36 : decode cX4_text 36 = .ok (.getfield 217, 3) := by decide +kernel
theorem dX4_text_39 : decode cX4_text 39 = .ok (.if_icmp .ge 24, 3) := by decide +kernel
theorem dX4_text_42 : decode cX4_text 42 = .ok (.aload_n 0, 1) := by decide +kernel
theorem dX4_text_43 : decode cX4_text 43 = .ok (.aload_n 0, 1) := by decide +kernel
theorem dX4_text_44 : decode cX4_text 44 = .ok (.ldc_w 297, 3) := by decide +kernel
theorem dX4_text_47 : decode cX4_text 47 = .ok (.invokevirtual 245, 3) := by decide +kernel
theorem dX4_text_50 : decode cX4_text 50 = .ok (.invokevirtual 249, 3) := by decide +kernel
theorem dX4_text_53 : decode cX4_text 53 = .ok (.aload_n 0, 1) := by decide +kernel
theorem dX4_text_54 : decode cX4_text 54 = .ok (.invokevirtual 294, 3) := by decide +kernel
theorem dX4_text_57 : decode cX4_text 57 = .ok (.iinc 1 1, 3) := by decide +kernel
theorem dX4_text_60 : decode cX4_text 60 = .ok (.goto (-36), 3) := by decide +kernel
theorem dX4_text_63 : decode cX4_text 63 = .ok (.aload_n 0, 1) := by decide +kernel
theorem dX4_text_64 : decode cX4_text 64 = .ok (.iconst 0, 1) := by decide +kernel
theorem dX4_text_65 : decode cX4_text 65 = .ok (.putfield 217, 3) := by decide +kernel
theorem dX4_text_68 : decode cX4_text 68 = .ok (.aload_n 0, 1) := by decide +kernel
theorem dX4_text_69 : decode cX4_text 69 = .ok (.getfield 229, 3) := by decide +kernel
theorem dX4_text_72 : decode cX4_text 72 = .ok (.ifCond .eq 14, 3) := by decide +kernel
theorem dX4_text_75 : decode cX4_text 75 = .ok (.aload_n 0, 1) := by decide +kernel
theorem dX4_text_76 : decode cX4_text 76 = .ok (.invokevirtual 160, 3) := by decide +kernel
theorem dX4_text_79 : decode cX4_text 79 = .ok (.iconst (-1), 1) := by decide +kernel
theorem dX4_text_80 : decode cX4_text 80 = .ok (.aload_n 0, 1) := by decide +kernel
theorem dX4_text_81 : decode cX4_text 81 = .ok (.getfield 223, 3) := by decide +kernel
theorem dX4_text_84 : decode cX4_text 84 = .ok (.isub, 1) := by decide +kernel
theorem dX4_text_85 : decode cX4_text 85 = .ok (.ireturn, 1) := by decide +kernel
theorem dX4_text_86 : decode cX4_text 86 = .ok (.iload_n 1, 1) := by decide +kernel
theorem dX4_text_87 : decode cX4_text 87 = .ok (.ireturn, 1) := by decide +kernel
theorem dX4_isSpot_0 : decode cX4_isSpot 0 = .ok (.iload_n 0, 1) := by decide +kernel
theorem dX4_isSpot_1 : decode cX4_isSpot 1 = .ok (.i2l, 1) := by decide +kernel
theorem dX4_isSpot_2 : decode cX4_isSpot 2 = .ok (.lconst 0, 1) := by decide +kernel
theorem dX4_isSpot_3 : decode cX4_isSpot 3 = .ok (.ldc2_w 85, 3) := by decide +kernel
theorem dX4_isSpot_6 : decode cX4_isSpot 6 = .ok (.invokestatic 42, 3) := by decide +kernel
theorem dX4_isSpot_9 : decode cX4_isSpot 9 = .ok (.ireturn, 1) := by decide +kernel
theorem dX4_hold_0 : decode cX4_hold 0 = .ok (.iload_n 1, 1) := by decide +kernel
theorem dX4_hold_1 : decode cX4_hold 1 = .ok (.invokestatic 299, 3) := by decide +kernel
theorem dX4_hold_4 : decode cX4_hold 4 = .ok (.ifCond .eq 16, 3) := by decide +kernel
theorem dX4_hold_7 : decode cX4_hold 7 = .ok (.iload_n 2, 1) := by decide +kernel
theorem dX4_hold_8 : decode cX4_hold 8 = .ok (.iconst (-1), 1) := by decide +kernel
theorem dX4_hold_9 : decode cX4_hold 9 = .ok (.if_icmp .eq 17, 3) := by decide +kernel
theorem dX4_hold_12 : decode cX4_hold 12 = .ok (.aload_n 0, 1) := by decide +kernel
theorem dX4_hold_13 : decode cX4_hold 13 = .ok (.iload_n 2, 1) := by decide +kernel
theorem dX4_hold_14 : decode cX4_hold 14 = .ok (.invokevirtual 82, 3) := by decide +kernel
theorem dX4_hold_17 : decode cX4_hold 17 = .ok (.ifCond .ne 9, 3) := by decide +kernel
theorem dX4_hold_20 : decode cX4_hold 20 = .ok (.aload_n 0, 1) := by decide +kernel
theorem dX4_hold_21 : decode cX4_hold 21 = .ok (.iconst 0, 1) := by decide +kernel
theorem dX4_hold_22 : decode cX4_hold 22 = .ok (.invokevirtual 76, 3) := by decide +kernel
theorem dX4_hold_25 : decode cX4_hold 25 = .ok (.ireturn, 1) := by decide +kernel
theorem dX4_hold_26 : decode cX4_hold 26 = .ok (.aload_n 0, 1) := by decide +kernel
theorem dX4_hold_27 : decode cX4_hold 27 = .ok (.getfield 9, 3) := by decide +kernel
theorem dX4_hold_30 : decode cX4_hold 30 = .ok (.bipush 125, 2) := by decide +kernel
theorem dX4_hold_32 : decode cX4_hold 32 = .ok (.iload_n 1, 1) := by decide +kernel
theorem dX4_hold_33 : decode cX4_hold 33 = .ok (.iadd, 1) := by decide +kernel
theorem dX4_hold_34 : decode cX4_hold 34 = .ok (.iload_n 2, 1) := by decide +kernel
theorem dX4_hold_35 : decode cX4_hold 35 = .ok (.iastore, 1) := by decide +kernel
theorem dX4_hold_36 : decode cX4_hold 36 = .ok (.iconst 1, 1) := by decide +kernel
theorem dX4_hold_37 : decode cX4_hold 37 = .ok (.ireturn, 1) := by decide +kernel
theorem dX4_as_0 : decode cX4_as 0 = .ok (.iload_n 1, 1) := by decide +kernel
theorem dX4_as_1 : decode cX4_as 1 = .ok (.invokestatic 299, 3) := by decide +kernel
theorem dX4_as_4 : decode cX4_as 4 = .ok (.ifCond .eq 10, 3) := by decide +kernel
theorem dX4_as_7 : decode cX4_as 7 = .ok (.iload_n 2, 1) := by decide +kernel
theorem dX4_as_8 : decode cX4_as 8 = .ok (.invokestatic 100, 3) := by decide +kernel
theorem dX4_as_11 : decode cX4_as 11 = .ok (.ifCond .ne 9, 3) := by decide +kernel
theorem dX4_as_14 : decode cX4_as 14 = .ok (.aload_n 0, 1) := by decide +kernel
theorem dX4_as_15 : decode cX4_as 15 = .ok (.iconst 0, 1) := by decide +kernel
theorem dX4_as_16 : decode cX4_as 16 = .ok (.invokevirtual 76, 3) := by decide +kernel
theorem dX4_as_19 : decode cX4_as 19 = .ok (.ireturn, 1) := by decide +kernel
theorem dX4_as_20 : decode cX4_as 20 = .ok (.aload_n 0, 1) := by decide +kernel
theorem dX4_as_21 : decode cX4_as 21 = .ok (.getfield 9, 3) := by decide +kernel
theorem dX4_as_24 : decode cX4_as 24 = .ok (.bipush 125, 2) := by decide +kernel
theorem dX4_as_26 : decode cX4_as 26 = .ok (.iload_n 1, 1) := by decide +kernel
theorem dX4_as_27 : decode cX4_as 27 = .ok (.iadd, 1) := by decide +kernel
theorem dX4_as_28 : decode cX4_as 28 = .ok (.iaload, 1) := by decide +kernel
theorem dX4_as_29 : decode cX4_as 29 = .ok (.istore_n 3, 1) := by decide +kernel
theorem dX4_as_30 : decode cX4_as 30 = .ok (.iload_n 3, 1) := by decide +kernel
theorem dX4_as_31 : decode cX4_as 31 = .ok (.ifCond .ge 9, 3) := by decide +kernel
theorem dX4_as_34 : decode cX4_as 34 = .ok (.aload_n 0, 1) := by decide +kernel
theorem dX4_as_35 : decode cX4_as 35 = .ok (.iconst 5, 1) := by decide +kernel
theorem dX4_as_36 : decode cX4_as 36 = .ok (.invokevirtual 76, 3) := by decide +kernel
theorem dX4_as_39 : decode cX4_as 39 = .ok (.ireturn, 1) := by decide +kernel
theorem dX4_as_40 : decode cX4_as 40 = .ok (.aload_n 0, 1) := by decide +kernel
theorem dX4_as_41 : decode cX4_as 41 = .ok (.iload_n 3, 1) := by decide +kernel
theorem dX4_as_42 : decode cX4_as 42 = .ok (.iconst 0, 1) := by decide +kernel
theorem dX4_as_43 : decode cX4_as 43 = .ok (.invokevirtual 54, 3) := by decide +kernel
theorem dX4_as_46 : decode cX4_as 46 = .ok (.iload_n 2, 1) := by decide +kernel
theorem dX4_as_47 : decode cX4_as 47 = .ok (.invokestatic 302, 3) := by decide +kernel
theorem dX4_as_50 : decode cX4_as 50 = .ok (.ifCond .eq 7, 3) := by decide +kernel
theorem dX4_as_53 : decode cX4_as 53 = .ok (.iload_n 3, 1) := by decide +kernel
theorem dX4_as_54 : decode cX4_as 54 = .ok (.goto 8, 3) := by decide +kernel
theorem dX4_as_57 : decode cX4_as 57 = .ok (.aload_n 0, 1) := by decide +kernel
theorem dX4_as_58 : decode cX4_as 58 = .ok (.iconst 2, 1) := by decide +kernel
theorem dX4_as_59 : decode cX4_as 59 = .ok (.invokevirtual 76, 3) := by decide +kernel
theorem dX4_as_62 : decode cX4_as 62 = .ok (.ireturn, 1) := by decide +kernel
theorem dX4_isSheet_0 : decode cX4_isSheet 0 = .ok (.iload_n 0, 1) := by decide +kernel
theorem dX4_isSheet_1 : decode cX4_isSheet 1 = .ok (.i2l, 1) := by decide +kernel
theorem dX4_isSheet_2 : decode cX4_isSheet 2 = .ok (.lconst 0, 1) := by decide +kernel
theorem dX4_isSheet_3 : decode cX4_isSheet 3 = .ok (.ldc2_w 74, 3) := by decide +kernel
theorem dX4_isSheet_6 : decode cX4_isSheet 6 = .ok (.invokestatic 42, 3) := by decide +kernel
theorem dX4_isSheet_9 : decode cX4_isSheet 9 = .ok (.ireturn, 1) := by decide +kernel
theorem dX4_sheet_0 : decode cX4_sheet 0 = .ok (.iload_n 2, 1) := by decide +kernel
theorem dX4_sheet_1 : decode cX4_sheet 1 = .ok (.ifCond .eq 21, 3) := by decide +kernel
theorem dX4_sheet_4 : decode cX4_sheet 4 = .ok (.iload_n 2, 1) := by decide +kernel
theorem dX4_sheet_5 : decode cX4_sheet 5 = .ok (.bipush 8, 2) := by decide +kernel
theorem dX4_sheet_7 : decode cX4_sheet 7 = .ok (.if_icmp .eq 15, 3) := by decide +kernel
theorem dX4_sheet_10 : decode cX4_sheet 10 = .ok (.iload_n 2, 1) := by decide +kernel
theorem dX4_sheet_11 : decode cX4_sheet 11 = .ok (.bipush 16, 2) := by decide +kernel
theorem dX4_sheet_13 : decode cX4_sheet 13 = .ok (.if_icmp .eq 9, 3) := by decide +kernel
theorem dX4_sheet_16 : decode cX4_sheet 16 = .ok (.iload_n 2, 1) := by decide +kernel
theorem dX4_sheet_17 : decode cX4_sheet 17 = .ok (.bipush 32, 2) := by decide +kernel
theorem dX4_sheet_19 : decode cX4_sheet 19 = .ok (.if_icmp .ne 7, 3) := by decide +kernel
theorem dX4_sheet_22 : decode cX4_sheet 22 = .ok (.iconst 1, 1) := by decide +kernel
theorem dX4_sheet_23 : decode cX4_sheet 23 = .ok (.goto 4, 3) := by decide +kernel
theorem dX4_sheet_26 : decode cX4_sheet 26 = .ok (.iconst 0, 1) := by decide +kernel
theorem dX4_sheet_27 : decode cX4_sheet 27 = .ok (.istore 4, 2) := by decide +kernel
theorem dX4_sheet_29 : decode cX4_sheet 29 = .ok (.iload_n 1, 1) := by decide +kernel
theorem dX4_sheet_30 : decode cX4_sheet 30 = .ok (.invokestatic 305, 3) := by decide +kernel
theorem dX4_sheet_33 : decode cX4_sheet 33 = .ok (.ifCond .eq 8, 3) := by decide +kernel
theorem dX4_sheet_36 : decode cX4_sheet 36 = .ok (.iload 4, 2) := by decide +kernel
theorem dX4_sheet_38 : decode cX4_sheet 38 = .ok (.ifCond .ne 9, 3) := by decide +kernel
theorem dX4_sheet_41 : decode cX4_sheet 41 = .ok (.aload_n 0, 1) := by decide +kernel
theorem dX4_sheet_42 : decode cX4_sheet 42 = .ok (.iconst 0, 1) := by decide +kernel
theorem dX4_sheet_43 : decode cX4_sheet 43 = .ok (.invokevirtual 76, 3) := by decide +kernel
theorem dX4_sheet_46 : decode cX4_sheet 46 = .ok (.ireturn, 1) := by decide +kernel
theorem dX4_sheet_47 : decode cX4_sheet 47 = .ok (.iload_n 3, 1) := by decide +kernel
theorem dX4_sheet_48 : decode cX4_sheet 48 = .ok (.ifCond .ge 10, 3) := by decide +kernel
theorem dX4_sheet_51 : decode cX4_sheet 51 = .ok (.aload_n 0, 1) := by decide +kernel
theorem dX4_sheet_52 : decode cX4_sheet 52 = .ok (.bipush 6, 2) := by decide +kernel
theorem dX4_sheet_54 : decode cX4_sheet 54 = .ok (.invokevirtual 76, 3) := by decide +kernel
theorem dX4_sheet_57 : decode cX4_sheet 57 = .ok (.ireturn, 1) := by decide +kernel
theorem dX4_sheet_58 : decode cX4_sheet 58 = .ok (.iload_n 3, 1) := by decide +kernel
theorem dX4_sheet_59 : decode cX4_sheet 59 = .ok (.bipush 40, 2) := by decide +kernel
theorem dX4_sheet_61 : decode cX4_sheet 61 = .ok (.if_icmp .le 9, 3) := by decide +kernel
theorem dX4_sheet_64 : decode cX4_sheet 64 = .ok (.aload_n 0, 1) := by decide +kernel
theorem dX4_sheet_65 : decode cX4_sheet 65 = .ok (.iconst 0, 1) := by decide +kernel
theorem dX4_sheet_66 : decode cX4_sheet 66 = .ok (.invokevirtual 76, 3) := by decide +kernel
theorem dX4_sheet_69 : decode cX4_sheet 69 = .ok (.ireturn, 1) := by decide +kernel
theorem dX4_sheet_70 : decode cX4_sheet 70 = .ok (.aload_n 0, 1) := by decide +kernel
theorem dX4_sheet_71 : decode cX4_sheet 71 = .ok (.getfield 25, 3) := by decide +kernel
theorem dX4_sheet_74 : decode cX4_sheet 74 = .ok (.iload_n 1, 1) := by decide +kernel
theorem dX4_sheet_75 : decode cX4_sheet 75 = .ok (.iload_n 2, 1) := by decide +kernel
theorem dX4_sheet_76 : decode cX4_sheet 76 = .ok (.iastore, 1) := by decide +kernel
theorem dX4_sheet_77 : decode cX4_sheet 77 = .ok (.aload_n 0, 1) := by decide +kernel
theorem dX4_sheet_78 : decode cX4_sheet 78 = .ok (.getfield 28, 3) := by decide +kernel
theorem dX4_sheet_81 : decode cX4_sheet 81 = .ok (.iload_n 1, 1) := by decide +kernel
theorem dX4_sheet_82 : decode cX4_sheet 82 = .ok (.iload_n 2, 1) := by decide +kernel
theorem dX4_sheet_83 : decode cX4_sheet 83 = .ok (.ifCond .ne 7, 3) := by decide +kernel
theorem dX4_sheet_86 : decode cX4_sheet 86 = .ok (.iconst 0, 1) := by decide +kernel
theorem dX4_sheet_87 : decode cX4_sheet 87 = .ok (.goto 4, 3) := by decide +kernel
theorem dX4_sheet_90 : decode cX4_sheet 90 = .ok (.iload_n 3, 1) := by decide +kernel
theorem dX4_sheet_91 : decode cX4_sheet 91 = .ok (.iastore, 1) := by decide +kernel
theorem dX4_sheet_92 : decode cX4_sheet 92 = .ok (.iconst 0, 1) := by decide +kernel
theorem dX4_sheet_93 : decode cX4_sheet 93 = .ok (.istore 5, 2) := by decide +kernel
theorem dX4_sheet_95 : decode cX4_sheet 95 = .ok (.iload 5, 2) := by decide +kernel
theorem dX4_sheet_97 : decode cX4_sheet 97 = .ok (.bipush 40, 2) := by decide +kernel
theorem dX4_sheet_99 : decode cX4_sheet 99 = .ok (.if_icmp .ge 22, 3) := by decide +kernel
theorem dX4_sheet_102 : decode cX4_sheet 102 = .ok (.aload_n 0, 1) := by decide +kernel
theorem dX4_sheet_103 : decode cX4_sheet 103 = .ok (.getfield 31, 3) := by decide +kernel
theorem dX4_sheet_106 : decode cX4_sheet 106 = .ok (.bipush 40, 2) := by decide +kernel
theorem dX4_sheet_108 : decode cX4_sheet 108 = .ok (.iload_n 1, 1) := by decide +kernel
theorem dX4_sheet_109 : decode cX4_sheet 109 = .ok (.imul, 1) := by decide +kernel
theorem dX4_sheet_110 : decode cX4_sheet 110 = .ok (.iload 5, 2) := by decide +kernel
theorem dX4_sheet_112 : decode cX4_sheet 112 = .ok (.iadd, 1) := by decide +kernel
theorem dX4_sheet_113 : decode cX4_sheet 113 = .ok (.iconst 0, 1) := by decide +kernel
theorem dX4_sheet_114 : decode cX4_sheet 114 = .ok (.iastore, 1) := by decide +kernel
theorem dX4_sheet_115 : decode cX4_sheet 115 = .ok (.iinc 5 1, 3) := by decide +kernel
theorem dX4_sheet_118 : decode cX4_sheet 118 = .ok (.goto (-23), 3) := by decide +kernel
theorem dX4_sheet_121 : decode cX4_sheet 121 = .ok (.aload_n 0, 1) := by decide +kernel
theorem dX4_sheet_122 : decode cX4_sheet 122 = .ok (.getfield 28, 3) := by decide +kernel
theorem dX4_sheet_125 : decode cX4_sheet 125 = .ok (.iload_n 1, 1) := by decide +kernel
theorem dX4_sheet_126 : decode cX4_sheet 126 = .ok (.iaload, 1) := by decide +kernel
theorem dX4_sheet_127 : decode cX4_sheet 127 = .ok (.ireturn, 1) := by decide +kernel
theorem dX4_lacks_0 : decode cX4_lacks 0 = .ok (.iload_n 1, 1) := by decide +kernel
theorem dX4_lacks_1 : decode cX4_lacks 1 = .ok (.invokestatic 305, 3) := by decide +kernel
theorem dX4_lacks_4 : decode cX4_lacks 4 = .ok (.ifCond .ne 7, 3) := by decide +kernel
theorem dX4_lacks_7 : decode cX4_lacks 7 = .ok (.iconst 0, 1) := by decide +kernel
theorem dX4_lacks_8 : decode cX4_lacks 8 = .ok (.goto 17, 3) := by decide +kernel
theorem dX4_lacks_11 : decode cX4_lacks 11 = .ok (.aload_n 0, 1) := by decide +kernel
theorem dX4_lacks_12 : decode cX4_lacks 12 = .ok (.getfield 25, 3) := by decide +kernel
theorem dX4_lacks_15 : decode cX4_lacks 15 = .ok (.iload_n 1, 1) := by decide +kernel
theorem dX4_lacks_16 : decode cX4_lacks 16 = .ok (.iaload, 1) := by decide +kernel
theorem dX4_lacks_17 : decode cX4_lacks 17 = .ok (.ifCond .ne 7, 3) := by decide +kernel
theorem dX4_lacks_20 : decode cX4_lacks 20 = .ok (.iconst 5, 1) := by decide +kernel
theorem dX4_lacks_21 : decode cX4_lacks 21 = .ok (.goto 4, 3) := by decide +kernel
theorem dX4_lacks_24 : decode cX4_lacks 24 = .ok (.iconst (-1), 1) := by decide +kernel
theorem dX4_lacks_25 : decode cX4_lacks 25 = .ok (.ireturn, 1) := by decide +kernel
theorem dX4_write_0 : decode cX4_write 0 = .ok (.aload_n 0, 1) := by decide +kernel
theorem dX4_write_1 : decode cX4_write 1 = .ok (.iload_n 1, 1) := by decide +kernel
theorem dX4_write_2 : decode cX4_write 2 = .ok (.invokevirtual 192, 3) := by decide +kernel
theorem dX4_write_5 : decode cX4_write 5 = .ok (.istore 4, 2) := by decide +kernel
theorem dX4_write_7 : decode cX4_write 7 = .ok (.iload 4, 2) := by decide +kernel
theorem dX4_write_9 : decode cX4_write 9 = .ok (.ifCond .lt 10, 3) := by decide +kernel
theorem dX4_write_12 : decode cX4_write 12 = .ok (.aload_n 0, 1) := by decide +kernel
theorem dX4_write_13 : decode cX4_write 13 = .ok (.iload 4, 2) := by decide +kernel
theorem dX4_write_15 : decode cX4_write 15 = .ok (.invokevirtual 76, 3) := by decide +kernel
theorem dX4_write_18 : decode cX4_write 18 = .ok (.ireturn, 1) := by decide +kernel
theorem dX4_write_19 : decode cX4_write 19 = .ok (.iload_n 2, 1) := by decide +kernel
theorem dX4_write_20 : decode cX4_write 20 = .ok (.i2l, 1) := by decide +kernel
theorem dX4_write_21 : decode cX4_write 21 = .ok (.lconst 0, 1) := by decide +kernel
theorem dX4_write_22 : decode cX4_write 22 = .ok (.aload_n 0, 1) := by decide +kernel
theorem dX4_write_23 : decode cX4_write 23 = .ok (.getfield 28, 3) := by decide +kernel
theorem dX4_write_26 : decode cX4_write 26 = .ok (.iload_n 1, 1) := by decide +kernel
theorem dX4_write_27 : decode cX4_write 27 = .ok (.iaload, 1) := by decide +kernel
theorem dX4_write_28 : decode cX4_write 28 = .ok (.iconst 1, 1) := by decide +kernel
theorem dX4_write_29 : decode cX4_write 29 = .ok (.isub, 1) := by decide +kernel
theorem dX4_write_30 : decode cX4_write 30 = .ok (.i2l, 1) := by decide +kernel
theorem dX4_write_31 : decode cX4_write 31 = .ok (.invokestatic 42, 3) := by decide +kernel
theorem dX4_write_34 : decode cX4_write 34 = .ok (.ifCond .ne 9, 3) := by decide +kernel
theorem dX4_write_37 : decode cX4_write 37 = .ok (.aload_n 0, 1) := by decide +kernel
theorem dX4_write_38 : decode cX4_write 38 = .ok (.iconst 0, 1) := by decide +kernel
theorem dX4_write_39 : decode cX4_write 39 = .ok (.invokevirtual 76, 3) := by decide +kernel
theorem dX4_write_42 : decode cX4_write 42 = .ok (.ireturn, 1) := by decide +kernel
theorem dX4_write_43 : decode cX4_write 43 = .ok (.aload_n 0, 1) := by decide +kernel
theorem dX4_write_44 : decode cX4_write 44 = .ok (.getfield 31, 3) := by decide +kernel
theorem dX4_write_47 : decode cX4_write 47 = .ok (.bipush 40, 2) := by decide +kernel
theorem dX4_write_49 : decode cX4_write 49 = .ok (.iload_n 1, 1) := by decide +kernel
theorem dX4_write_50 : decode cX4_write 50 = .ok (.imul, 1) := by decide +kernel
theorem dX4_write_51 : decode cX4_write 51 = .ok (.iload_n 2, 1) := by decide +kernel
theorem dX4_write_52 : decode cX4_write 52 = .ok (.iadd, 1) := by decide +kernel
theorem dX4_write_53 : decode cX4_write 53 = .ok (.aload_n 0, 1) := by decide +kernel
theorem dX4_write_54 : decode cX4_write 54 = .ok (.getfield 25, 3) := by decide +kernel
theorem dX4_write_57 : decode cX4_write 57 = .ok (.iload_n 1, 1) := by decide +kernel
theorem dX4_write_58 : decode cX4_write 58 = .ok (.iaload, 1) := by decide +kernel
theorem dX4_write_59 : decode cX4_write 59 = .ok (.bipush 8, 2) := by decide +kernel
theorem dX4_write_61 : decode cX4_write 61 = .ok (.if_icmp .ne 8, 3) := by decide +kernel
theorem dX4_write_64 : decode cX4_write 64 = .ok (.iload_n 3, 1) := by decide +kernel
theorem dX4_write_65 : decode cX4_write 65 = .ok (.i2b, 1) := by decide +kernel
theorem dX4_write_66 : decode cX4_write 66 = .ok (.goto 20, 3) := by decide +kernel
theorem dX4_write_69 : decode cX4_write 69 = .ok (.aload_n 0, 1) := by decide +kernel
theorem dX4_write_70 : decode cX4_write 70 = .ok (.getfield 25, 3) := by decide +kernel
theorem dX4_write_73 : decode cX4_write 73 = .ok (.iload_n 1, 1) := by decide +kernel
theorem dX4_write_74 : decode cX4_write 74 = .ok (.iaload, 1) := by decide +kernel
theorem dX4_write_75 : decode cX4_write 75 = .ok (.bipush 16, 2) := by decide +kernel
theorem dX4_write_77 : decode cX4_write 77 = .ok (.if_icmp .ne 8, 3) := by decide +kernel
theorem dX4_write_80 : decode cX4_write 80 = .ok (.iload_n 3, 1) := by decide +kernel
theorem dX4_write_81 : decode cX4_write 81 = .ok (.i2s, 1) := by decide +kernel
theorem dX4_write_82 : decode cX4_write 82 = .ok (.goto 4, 3) := by decide +kernel
theorem dX4_write_85 : decode cX4_write 85 = .ok (.iload_n 3, 1) := by decide +kernel
theorem dX4_write_86 : decode cX4_write 86 = .ok (.iastore, 1) := by decide +kernel
theorem dX4_write_87 : decode cX4_write 87 = .ok (.iconst 1, 1) := by decide +kernel
theorem dX4_write_88 : decode cX4_write 88 = .ok (.ireturn, 1) := by decide +kernel
theorem dX4_copy_0 : decode cX4_copy 0 = .ok (.iload_n 1, 1) := by decide +kernel
theorem dX4_copy_1 : decode cX4_copy 1 = .ok (.invokestatic 305, 3) := by decide +kernel
theorem dX4_copy_4 : decode cX4_copy 4 = .ok (.ifCond .eq 10, 3) := by decide +kernel
theorem dX4_copy_7 : decode cX4_copy 7 = .ok (.iload_n 3, 1) := by decide +kernel
theorem dX4_copy_8 : decode cX4_copy 8 = .ok (.invokestatic 305, 3) := by decide +kernel
theorem dX4_copy_11 : decode cX4_copy 11 = .ok (.ifCond .ne 9, 3) := by decide +kernel
theorem dX4_copy_14 : decode cX4_copy 14 = .ok (.aload_n 0, 1) := by decide +kernel
theorem dX4_copy_15 : decode cX4_copy 15 = .ok (.iconst 0, 1) := by decide +kernel
theorem dX4_copy_16 : decode cX4_copy 16 = .ok (.invokevirtual 76, 3) := by decide +kernel
theorem dX4_copy_19 : decode cX4_copy 19 = .ok (.ireturn, 1) := by decide +kernel
theorem dX4_copy_20 : decode cX4_copy 20 = .ok (.aload_n 0, 1) := by decide +kernel
theorem dX4_copy_21 : decode cX4_copy 21 = .ok (.getfield 25, 3) := by decide +kernel
theorem dX4_copy_24 : decode cX4_copy 24 = .ok (.iload_n 1, 1) := by decide +kernel
theorem dX4_copy_25 : decode cX4_copy 25 = .ok (.iaload, 1) := by decide +kernel
theorem dX4_copy_26 : decode cX4_copy 26 = .ok (.ifCond .eq 12, 3) := by decide +kernel
theorem dX4_copy_29 : decode cX4_copy 29 = .ok (.aload_n 0, 1) := by decide +kernel
theorem dX4_copy_30 : decode cX4_copy 30 = .ok (.getfield 25, 3) := by decide +kernel
theorem dX4_copy_33 : decode cX4_copy 33 = .ok (.iload_n 3, 1) := by decide +kernel
theorem dX4_copy_34 : decode cX4_copy 34 = .ok (.iaload, 1) := by decide +kernel
theorem dX4_copy_35 : decode cX4_copy 35 = .ok (.ifCond .ne 9, 3) := by decide +kernel
theorem dX4_copy_38 : decode cX4_copy 38 = .ok (.aload_n 0, 1) := by decide +kernel
theorem dX4_copy_39 : decode cX4_copy 39 = .ok (.iconst 5, 1) := by decide +kernel
theorem dX4_copy_40 : decode cX4_copy 40 = .ok (.invokevirtual 76, 3) := by decide +kernel
theorem dX4_copy_43 : decode cX4_copy 43 = .ok (.ireturn, 1) := by decide +kernel
theorem dX4_copy_44 : decode cX4_copy 44 = .ok (.aload_n 0, 1) := by decide +kernel
theorem dX4_copy_45 : decode cX4_copy 45 = .ok (.getfield 25, 3) := by decide +kernel
theorem dX4_copy_48 : decode cX4_copy 48 = .ok (.iload_n 1, 1) := by decide +kernel
theorem dX4_copy_49 : decode cX4_copy 49 = .ok (.iaload, 1) := by decide +kernel
theorem dX4_copy_50 : decode cX4_copy 50 = .ok (.aload_n 0, 1) := by decide +kernel
theorem dX4_copy_51 : decode cX4_copy 51 = .ok (.getfield 25, 3) := by decide +kernel
theorem dX4_copy_54 : decode cX4_copy 54 = .ok (.iload_n 3, 1) := by decide +kernel
theorem dX4_copy_55 : decode cX4_copy 55 = .ok (.iaload, 1) := by decide +kernel
theorem dX4_copy_56 : decode cX4_copy 56 = .ok (.if_icmp .eq 9, 3) := by decide +kernel
theorem dX4_copy_59 : decode cX4_copy 59 = .ok (.aload_n 0, 1) := by decide +kernel
theorem dX4_copy_60 : decode cX4_copy 60 = .ok (.iconst 2, 1) := by decide +kernel
theorem dX4_copy_61 : decode cX4_copy 61 = .ok (.invokevirtual 76, 3) := by decide +kernel
theorem dX4_copy_64 : decode cX4_copy 64 = .ok (.ireturn, 1) := by decide +kernel
theorem dX4_copy_65 : decode cX4_copy 65 = .ok (.iload 5, 2) := by decide +kernel
theorem dX4_copy_67 : decode cX4_copy 67 = .ok (.ifCond .lt 51, 3) := by decide +kernel
theorem dX4_copy_70 : decode cX4_copy 70 = .ok (.iload_n 2, 1) := by decide +kernel
theorem dX4_copy_71 : decode cX4_copy 71 = .ok (.ifCond .lt 47, 3) := by decide +kernel
theorem dX4_copy_74 : decode cX4_copy 74 = .ok (.iload 4, 2) := by decide +kernel
theorem dX4_copy_76 : decode cX4_copy 76 = .ok (.ifCond .lt 42, 3) := by decide +kernel
theorem dX4_copy_79 : decode cX4_copy 79 = .ok (.iload_n 2, 1) := by decide +kernel
theorem dX4_copy_80 : decode cX4_copy 80 = .ok (.i2l, 1) := by decide +kernel
theorem dX4_copy_81 : decode cX4_copy 81 = .ok (.iload 5, 2) := by decide +kernel
theorem dX4_copy_83 : decode cX4_copy 83 = .ok (.i2l, 1) := by decide +kernel
theorem dX4_copy_84 : decode cX4_copy 84 = .ok (.ladd, 1) := by decide +kernel
theorem dX4_copy_85 : decode cX4_copy 85 = .ok (.aload_n 0, 1) := by decide +kernel
theorem dX4_copy_86 : decode cX4_copy 86 = .ok (.getfield 28, 3) := by decide +kernel
theorem dX4_copy_89 : decode cX4_copy 89 = .ok (.iload_n 1, 1) := by decide +kernel
theorem dX4_copy_90 : decode cX4_copy 90 = .ok (.iaload, 1) := by decide +kernel
theorem dX4_copy_91 : decode cX4_copy 91 = .ok (.i2l, 1) := by decide +kernel
theorem dX4_copy_92 : decode cX4_copy 92 = .ok (.lcmp, 1) := by decide +kernel
theorem dX4_copy_93 : decode cX4_copy 93 = .ok (.ifCond .gt 25, 3) := by decide +kernel
theorem dX4_copy_96 : decode cX4_copy 96 = .ok (.iload 4, 2) := by decide +kernel
theorem dX4_copy_98 : decode cX4_copy 98 = .ok (.i2l, 1) := by decide +kernel
theorem dX4_copy_99 : decode cX4_copy 99 = .ok (.iload 5, 2) := by decide +kernel
theorem dX4_copy_101 : decode cX4_copy 101 = .ok (.i2l, 1) := by decide +kernel
theorem dX4_copy_102 : decode cX4_copy 102 = .ok (.ladd, 1) := by decide +kernel
theorem dX4_copy_103 : decode cX4_copy 103 = .ok (.aload_n 0, 1) := by decide +kernel
theorem dX4_copy_104 : decode cX4_copy 104 = .ok (.getfield 28, 3) := by decide +kernel
theorem dX4_copy_107 : decode cX4_copy 107 = .ok (.iload_n 3, 1) := by decide +kernel
theorem dX4_copy_108 : decode cX4_copy 108 = .ok (.iaload, 1) := by decide +kernel
theorem dX4_copy_109 : decode cX4_copy 109 = .ok (.i2l, 1) := by decide +kernel
theorem dX4_copy_110 : decode cX4_copy 110 = .ok (.lcmp, 1) := by decide +kernel
theorem dX4_copy_111 : decode cX4_copy 111 = .ok (.ifCond .gt 7, 3) := by decide +kernel
theorem dX4_copy_114 : decode cX4_copy 114 = .ok (.iconst 1, 1) := by decide +kernel
theorem dX4_copy_115 : decode cX4_copy 115 = .ok (.goto 4, 3) := by decide +kernel
theorem dX4_copy_118 : decode cX4_copy 118 = .ok (.iconst 0, 1) := by decide +kernel
theorem dX4_copy_119 : decode cX4_copy 119 = .ok (.istore 6, 2) := by decide +kernel
theorem dX4_copy_121 : decode cX4_copy 121 = .ok (.iload 6, 2) := by decide +kernel
theorem dX4_copy_123 : decode cX4_copy 123 = .ok (.ifCond .ne 9, 3) := by decide +kernel
theorem dX4_copy_126 : decode cX4_copy 126 = .ok (.aload_n 0, 1) := by decide +kernel
theorem dX4_copy_127 : decode cX4_copy 127 = .ok (.iconst 0, 1) := by decide +kernel
theorem dX4_copy_128 : decode cX4_copy 128 = .ok (.invokevirtual 76, 3) := by decide +kernel
theorem dX4_copy_131 : decode cX4_copy 131 = .ok (.ireturn, 1) := by decide +kernel
theorem dX4_copy_132 : decode cX4_copy 132 = .ok (.iconst 0, 1) := by decide +kernel
theorem dX4_copy_133 : decode cX4_copy 133 = .ok (.istore 7, 2) := by decide +kernel
theorem dX4_copy_135 : decode cX4_copy 135 = .ok (.iload 7, 2) := by decide +kernel
theorem dX4_copy_137 : decode cX4_copy 137 = .ok (.iload 5, 2) := by decide +kernel
theorem dX4_copy_139 : decode cX4_copy 139 = .ok (.if_icmp .ge 30, 3) := by decide +kernel
theorem dX4_copy_142 : decode cX4_copy 142 = .ok (.aload_n 0, 1) := by decide +kernel
theorem dX4_copy_143 : decode cX4_copy 143 = .ok (.getfield 34, 3) := by decide +kernel
theorem dX4_copy_146 : decode cX4_copy 146 = .ok (.iload 7, 2) := by decide +kernel
theorem dX4_copy_148 : decode cX4_copy 148 = .ok (.aload_n 0, 1) := by decide +kernel
theorem dX4_copy_149 : decode cX4_copy 149 = .ok (.getfield 31, 3) := by decide +kernel
theorem dX4_copy_152 : decode cX4_copy 152 = .ok (.bipush 40, 2) := by decide +kernel
theorem dX4_copy_154 : decode cX4_copy 154 = .ok (.iload_n 1, 1) := by decide +kernel
theorem dX4_copy_155 : decode cX4_copy 155 = .ok (.imul, 1) := by decide +kernel
theorem dX4_copy_156 : decode cX4_copy 156 = .ok (.iload_n 2, 1) := by decide +kernel
theorem dX4_copy_157 : decode cX4_copy 157 = .ok (.iadd, 1) := by decide +kernel
theorem dX4_copy_158 : decode cX4_copy 158 = .ok (.iload 7, 2) := by decide +kernel
theorem dX4_copy_160 : decode cX4_copy 160 = .ok (.iadd, 1) := by decide +kernel
theorem dX4_copy_161 : decode cX4_copy 161 = .ok (.iaload, 1) := by decide +kernel
theorem dX4_copy_162 : decode cX4_copy 162 = .ok (.iastore, 1) := by decide +kernel
theorem dX4_copy_163 : decode cX4_copy 163 = .ok (.iinc 7 1, 3) := by decide +kernel
theorem dX4_copy_166 : decode cX4_copy 166 = .ok (.goto (-31), 3) := by decide +kernel
theorem dX4_copy_169 : decode cX4_copy 169 = .ok (.iconst 0, 1) := by decide +kernel
theorem dX4_copy_170 : decode cX4_copy 170 = .ok (.istore 7, 2) := by decide +kernel
theorem dX4_copy_172 : decode cX4_copy 172 = .ok (.iload 7, 2) := by decide +kernel
theorem dX4_copy_174 : decode cX4_copy 174 = .ok (.iload 5, 2) := by decide +kernel
theorem dX4_copy_176 : decode cX4_copy 176 = .ok (.if_icmp .ge 31, 3) := by decide +kernel
theorem dX4_copy_179 : decode cX4_copy 179 = .ok (.aload_n 0, 1) := by decide +kernel
theorem dX4_copy_180 : decode cX4_copy 180 = .ok (.getfield 31, 3) := by decide +kernel
theorem dX4_copy_183 : decode cX4_copy 183 = .ok (.bipush 40, 2) := by decide +kernel
theorem dX4_copy_185 : decode cX4_copy 185 = .ok (.iload_n 3, 1) := by decide +kernel
theorem dX4_copy_186 : decode cX4_copy 186 = .ok (.imul, 1) := by decide +kernel
theorem dX4_copy_187 : decode cX4_copy 187 = .ok (.iload 4, 2) := by decide +kernel
theorem dX4_copy_189 : decode cX4_copy 189 = .ok (.iadd, 1) := by decide +kernel
theorem dX4_copy_190 : decode cX4_copy 190 = .ok (.iload 7, 2) := by decide +kernel
theorem dX4_copy_192 : decode cX4_copy 192 = .ok (.iadd, 1) := by decide +kernel
theorem dX4_copy_193 : decode cX4_copy 193 = .ok (.aload_n 0, 1) := by decide +kernel
theorem dX4_copy_194 : decode cX4_copy 194 = .ok (.getfield 34, 3) := by decide +kernel
theorem dX4_copy_197 : decode cX4_copy 197 = .ok (.iload 7, 2) := by decide +kernel
theorem dX4_copy_199 : decode cX4_copy 199 = .ok (.iaload, 1) := by decide +kernel
theorem dX4_copy_200 : decode cX4_copy 200 = .ok (.iastore, 1) := by decide +kernel
theorem dX4_copy_201 : decode cX4_copy 201 = .ok (.iinc 7 1, 3) := by decide +kernel
theorem dX4_copy_204 : decode cX4_copy 204 = .ok (.goto (-32), 3) := by decide +kernel
theorem dX4_copy_207 : decode cX4_copy 207 = .ok (.iload 5, 2) := by decide +kernel
theorem dX4_copy_209 : decode cX4_copy 209 = .ok (.ireturn, 1) := by decide +kernel
theorem dX4_load_0 : decode cX4_load 0 = .ok (.aload_n 0, 1) := by decide +kernel
theorem dX4_load_1 : decode cX4_load 1 = .ok (.iload_n 1, 1) := by decide +kernel
theorem dX4_load_2 : decode cX4_load 2 = .ok (.invokevirtual 192, 3) := by decide +kernel
theorem dX4_load_5 : decode cX4_load 5 = .ok (.istore_n 2, 1) := by decide +kernel
theorem dX4_load_6 : decode cX4_load 6 = .ok (.iload_n 2, 1) := by decide +kernel
theorem dX4_load_7 : decode cX4_load 7 = .ok (.ifCond .lt 9, 3) := by decide +kernel
theorem dX4_load_10 : decode cX4_load 10 = .ok (.aload_n 0, 1) := by decide +kernel
theorem dX4_load_11 : decode cX4_load 11 = .ok (.iload_n 2, 1) := by decide +kernel
theorem dX4_load_12 : decode cX4_load 12 = .ok (.invokevirtual 76, 3) := by decide +kernel
theorem dX4_load_15 : decode cX4_load 15 = .ok (.ireturn, 1) := by decide +kernel
theorem dX4_load_16 : decode cX4_load 16 = .ok (.iconst 0, 1) := by decide +kernel
theorem dX4_load_17 : decode cX4_load 17 = .ok (.istore_n 3, 1) := by decide +kernel
theorem dX4_load_18 : decode cX4_load 18 = .ok (.iload_n 3, 1) := by decide +kernel
theorem dX4_load_19 : decode cX4_load 19 = .ok (.aload_n 0, 1) := by decide +kernel
theorem dX4_load_20 : decode cX4_load 20 = .ok (.getfield 28, 3) := by decide +kernel
theorem dX4_load_23 : decode cX4_load 23 = .ok (.iload_n 1, 1) := by decide +kernel
theorem dX4_load_24 : decode cX4_load 24 = .ok (.iaload, 1) := by decide +kernel
theorem dX4_load_25 : decode cX4_load 25 = .ok (.if_icmp .ge 58, 3) := by decide +kernel
theorem dX4_load_28 : decode cX4_load 28 = .ok (.iload_n 3, 1) := by decide +kernel
theorem dX4_load_29 : decode cX4_load 29 = .ok (.aload_n 0, 1) := by decide +kernel
theorem dX4_load_30 : decode cX4_load 30 = .ok (.getfield 9, 3) := by decide +kernel
theorem dX4_load_33 : decode cX4_load 33 = .ok (.iconst 2, 1) := by decide +kernel
theorem dX4_load_34 : decode cX4_load 34 = .ok (.iaload, 1) := by decide +kernel
theorem dX4_load_35 : decode cX4_load 35 = .ok (.if_icmp .ge 48, 3) := by decide +kernel
theorem dX4_load_38 : decode cX4_load 38 = .ok (.aload_n 0, 1) := by decide +kernel
theorem dX4_load_39 : decode cX4_load 39 = .ok (.getfield 31, 3) := by decide +kernel
theorem dX4_load_42 : decode cX4_load 42 = .ok (.bipush 40, 2) := by decide +kernel
theorem dX4_load_44 : decode cX4_load 44 = .ok (.iload_n 1, 1) := by decide +kernel
theorem dX4_load_45 : decode cX4_load 45 = .ok (.imul, 1) := by decide +kernel
theorem dX4_load_46 : decode cX4_load 46 = .ok (.iload_n 3, 1) := by decide +kernel
theorem dX4_load_47 : decode cX4_load 47 = .ok (.iadd, 1) := by decide +kernel
theorem dX4_load_48 : decode cX4_load 48 = .ok (.iaload, 1) := by decide +kernel
theorem dX4_load_49 : decode cX4_load 49 = .ok (.i2l, 1) := by decide +kernel
theorem dX4_load_50 : decode cX4_load 50 = .ok (.lconst 1, 1) := by decide +kernel
theorem dX4_load_51 : decode cX4_load 51 = .ok (.ldc2_w 52, 3) := by decide +kernel
theorem dX4_load_54 : decode cX4_load 54 = .ok (.invokestatic 42, 3) := by decide +kernel
theorem dX4_load_57 : decode cX4_load 57 = .ok (.ifCond .eq 26, 3) := by decide +kernel
theorem dX4_load_60 : decode cX4_load 60 = .ok (.aload_n 0, 1) := by decide +kernel
theorem dX4_load_61 : decode cX4_load 61 = .ok (.iload_n 3, 1) := by decide +kernel
theorem dX4_load_62 : decode cX4_load 62 = .ok (.iconst 3, 1) := by decide +kernel
theorem dX4_load_63 : decode cX4_load 63 = .ok (.aload_n 0, 1) := by decide +kernel
theorem dX4_load_64 : decode cX4_load 64 = .ok (.getfield 31, 3) := by decide +kernel
theorem dX4_load_67 : decode cX4_load 67 = .ok (.bipush 40, 2) := by decide +kernel
theorem dX4_load_69 : decode cX4_load 69 = .ok (.iload_n 1, 1) := by decide +kernel
theorem dX4_load_70 : decode cX4_load 70 = .ok (.imul, 1) := by decide +kernel
theorem dX4_load_71 : decode cX4_load 71 = .ok (.iload_n 3, 1) := by decide +kernel
theorem dX4_load_72 : decode cX4_load 72 = .ok (.iadd, 1) := by decide +kernel
theorem dX4_load_73 : decode cX4_load 73 = .ok (.iaload, 1) := by decide +kernel
theorem dX4_load_74 : decode cX4_load 74 = .ok (.invokevirtual 66, 3) := by decide +kernel
theorem dX4_load_77 : decode cX4_load 77 = .ok (.iinc 3 1, 3) := by decide +kernel
theorem dX4_load_80 : decode cX4_load 80 = .ok (.goto (-62), 3) := by decide +kernel
theorem dX4_load_83 : decode cX4_load 83 = .ok (.iload_n 3, 1) := by decide +kernel
theorem dX4_load_84 : decode cX4_load 84 = .ok (.ireturn, 1) := by decide +kernel
theorem dX4_judge_0 : decode cX4_judge 0 = .ok (.aload_n 0, 1) := by decide +kernel
theorem dX4_judge_1 : decode cX4_judge 1 = .ok (.iload_n 1, 1) := by decide +kernel
theorem dX4_judge_2 : decode cX4_judge 2 = .ok (.invokevirtual 192, 3) := by decide +kernel
theorem dX4_judge_5 : decode cX4_judge 5 = .ok (.istore_n 2, 1) := by decide +kernel
theorem dX4_judge_6 : decode cX4_judge 6 = .ok (.iload_n 2, 1) := by decide +kernel
theorem dX4_judge_7 : decode cX4_judge 7 = .ok (.ifCond .lt 9, 3) := by decide +kernel
theorem dX4_judge_10 : decode cX4_judge 10 = .ok (.aload_n 0, 1) := by decide +kernel
theorem dX4_judge_11 : decode cX4_judge 11 = .ok (.iload_n 2, 1) := by decide +kernel
theorem dX4_judge_12 : decode cX4_judge 12 = .ok (.invokevirtual 76, 3) := by decide +kernel
theorem dX4_judge_15 : decode cX4_judge 15 = .ok (.ireturn, 1) := by decide +kernel
theorem dX4_judge_16 : decode cX4_judge 16 = .ok (.iconst 0, 1) := by decide +kernel
theorem dX4_judge_17 : decode cX4_judge 17 = .ok (.istore_n 3, 1) := by decide +kernel
theorem dX4_judge_18 : decode cX4_judge 18 = .ok (.iload_n 3, 1) := by decide +kernel
theorem dX4_judge_19 : decode cX4_judge 19 = .ok (.aload_n 0, 1) := by decide +kernel
theorem dX4_judge_20 : decode cX4_judge 20 = .ok (.getfield 28, 3) := by decide +kernel
theorem dX4_judge_23 : decode cX4_judge 23 = .ok (.iload_n 1, 1) := by decide +kernel
theorem dX4_judge_24 : decode cX4_judge 24 = .ok (.iaload, 1) := by decide +kernel
theorem dX4_judge_25 : decode cX4_judge 25 = .ok (.if_icmp .ge 37, 3) := by decide +kernel
theorem dX4_judge_28 : decode cX4_judge 28 = .ok (.iload_n 3, 1) := by decide +kernel
theorem dX4_judge_29 : decode cX4_judge 29 = .ok (.bipush 24, 2) := by decide +kernel
theorem dX4_judge_31 : decode cX4_judge 31 = .ok (.if_icmp .ge 31, 3) := by decide +kernel
theorem dX4_judge_34 : decode cX4_judge 34 = .ok (.aload_n 0, 1) := by decide +kernel
theorem dX4_judge_35 : decode cX4_judge 35 = .ok (.getfield 9, 3) := by decide +kernel
theorem dX4_judge_38 : decode cX4_judge 38 = .ok (.iconst 5, 1) := by decide +kernel
theorem dX4_judge_39 : decode cX4_judge 39 = .ok (.iload_n 3, 1) := by decide +kernel
theorem dX4_judge_40 : decode cX4_judge 40 = .ok (.iadd, 1) := by decide +kernel
theorem dX4_judge_41 : decode cX4_judge 41 = .ok (.iaload, 1) := by decide +kernel
theorem dX4_judge_42 : decode cX4_judge 42 = .ok (.aload_n 0, 1) := by decide +kernel
theorem dX4_judge_43 : decode cX4_judge 43 = .ok (.getfield 31, 3) := by decide +kernel
theorem dX4_judge_46 : decode cX4_judge 46 = .ok (.bipush 40, 2) := by decide +kernel
theorem dX4_judge_48 : decode cX4_judge 48 = .ok (.iload_n 1, 1) := by decide +kernel
theorem dX4_judge_49 : decode cX4_judge 49 = .ok (.imul, 1) := by decide +kernel
theorem dX4_judge_50 : decode cX4_judge 50 = .ok (.iload_n 3, 1) := by decide +kernel
theorem dX4_judge_51 : decode cX4_judge 51 = .ok (.iadd, 1) := by decide +kernel
theorem dX4_judge_52 : decode cX4_judge 52 = .ok (.iaload, 1) := by decide +kernel
theorem dX4_judge_53 : decode cX4_judge 53 = .ok (.if_icmp .ne 9, 3) := by decide +kernel
theorem dX4_judge_56 : decode cX4_judge 56 = .ok (.iinc 3 1, 3) := by decide +kernel
theorem dX4_judge_59 : decode cX4_judge 59 = .ok (.goto (-41), 3) := by decide +kernel
theorem dX4_judge_62 : decode cX4_judge 62 = .ok (.iload_n 3, 1) := by decide +kernel
theorem dX4_judge_63 : decode cX4_judge 63 = .ok (.aload_n 0, 1) := by decide +kernel
theorem dX4_judge_64 : decode cX4_judge 64 = .ok (.getfield 28, 3) := by decide +kernel
theorem dX4_judge_67 : decode cX4_judge 67 = .ok (.iload_n 1, 1) := by decide +kernel
theorem dX4_judge_68 : decode cX4_judge 68 = .ok (.iaload, 1) := by decide +kernel
theorem dX4_judge_69 : decode cX4_judge 69 = .ok (.if_icmp .ne 7, 3) := by decide +kernel
theorem dX4_judge_72 : decode cX4_judge 72 = .ok (.iconst 0, 1) := by decide +kernel
theorem dX4_judge_73 : decode cX4_judge 73 = .ok (.goto 6, 3) := by decide +kernel
theorem dX4_judge_76 : decode cX4_judge 76 = .ok (.iload_n 3, 1) := by decide +kernel
theorem dX4_judge_77 : decode cX4_judge 77 = .ok (.iconst 1, 1) := by decide +kernel
theorem dX4_judge_78 : decode cX4_judge 78 = .ok (.iadd, 1) := by decide +kernel
theorem dX4_judge_79 : decode cX4_judge 79 = .ok (.ireturn, 1) := by decide +kernel
theorem dX4_image_0 : decode cX4_image 0 = .ok (.aload_n 0, 1) := by decide +kernel
theorem dX4_image_1 : decode cX4_image 1 = .ok (.getfield 9, 3) := by decide +kernel
theorem dX4_image_4 : decode cX4_image 4 = .ok (.aload_n 0, 1) := by decide +kernel
theorem dX4_image_5 : decode cX4_image 5 = .ok (.getfield 13, 3) := by decide +kernel
theorem dX4_image_8 : decode cX4_image 8 = .ok (.invokestatic 38, 3) := by decide +kernel
theorem dX4_image_11 : decode cX4_image 11 = .ok (.aload_n 0, 1) := by decide +kernel
theorem dX4_image_12 : decode cX4_image 12 = .ok (.iconst 1, 1) := by decide +kernel
theorem dX4_image_13 : decode cX4_image 13 = .ok (.putfield 308, 3) := by decide +kernel
theorem dX4_image_16 : decode cX4_image 16 = .ok (.iconst 1, 1) := by decide +kernel
theorem dX4_image_17 : decode cX4_image 17 = .ok (.ireturn, 1) := by decide +kernel
theorem dX4_undo_0 : decode cX4_undo 0 = .ok (.aload_n 0, 1) := by decide +kernel
theorem dX4_undo_1 : decode cX4_undo 1 = .ok (.getfield 308, 3) := by decide +kernel
theorem dX4_undo_4 : decode cX4_undo 4 = .ok (.ifCond .ne 9, 3) := by decide +kernel
theorem dX4_undo_7 : decode cX4_undo 7 = .ok (.aload_n 0, 1) := by decide +kernel
theorem dX4_undo_8 : decode cX4_undo 8 = .ok (.iconst 3, 1) := by decide +kernel
theorem dX4_undo_9 : decode cX4_undo 9 = .ok (.invokevirtual 76, 3) := by decide +kernel
theorem dX4_undo_12 : decode cX4_undo 12 = .ok (.ireturn, 1) := by decide +kernel
theorem dX4_undo_13 : decode cX4_undo 13 = .ok (.aload_n 0, 1) := by decide +kernel
theorem dX4_undo_14 : decode cX4_undo 14 = .ok (.getfield 13, 3) := by decide +kernel
theorem dX4_undo_17 : decode cX4_undo 17 = .ok (.aload_n 0, 1) := by decide +kernel
theorem dX4_undo_18 : decode cX4_undo 18 = .ok (.getfield 9, 3) := by decide +kernel
theorem dX4_undo_21 : decode cX4_undo 21 = .ok (.invokestatic 38, 3) := by decide +kernel
theorem dX4_undo_24 : decode cX4_undo 24 = .ok (.aload_n 0, 1) := by decide +kernel
theorem dX4_undo_25 : decode cX4_undo 25 = .ok (.getfield 9, 3) := by decide +kernel
theorem dX4_undo_28 : decode cX4_undo 28 = .ok (.iconst 0, 1) := by decide +kernel
theorem dX4_undo_29 : decode cX4_undo 29 = .ok (.iaload, 1) := by decide +kernel
theorem dX4_undo_30 : decode cX4_undo 30 = .ok (.ireturn, 1) := by decide +kernel
theorem dX4_tear_0 : decode cX4_tear 0 = .ok (.aload_n 0, 1) := by decide +kernel
theorem dX4_tear_1 : decode cX4_tear 1 = .ok (.getfield 308, 3) := by decide +kernel
theorem dX4_tear_4 : decode cX4_tear 4 = .ok (.ifCond .eq 7, 3) := by decide +kernel
theorem dX4_tear_7 : decode cX4_tear 7 = .ok (.iconst 1, 1) := by decide +kernel
theorem dX4_tear_8 : decode cX4_tear 8 = .ok (.goto 4, 3) := by decide +kernel
theorem dX4_tear_11 : decode cX4_tear 11 = .ok (.iconst 0, 1) := by decide +kernel
theorem dX4_tear_12 : decode cX4_tear 12 = .ok (.istore_n 1, 1) := by decide +kernel
theorem dX4_tear_13 : decode cX4_tear 13 = .ok (.aload_n 0, 1) := by decide +kernel
theorem dX4_tear_14 : decode cX4_tear 14 = .ok (.iconst 0, 1) := by decide +kernel
theorem dX4_tear_15 : decode cX4_tear 15 = .ok (.putfield 308, 3) := by decide +kernel
theorem dX4_tear_18 : decode cX4_tear 18 = .ok (.iload_n 1, 1) := by decide +kernel
theorem dX4_tear_19 : decode cX4_tear 19 = .ok (.ireturn, 1) := by decide +kernel
theorem dX4_held_0 : decode cX4_held 0 = .ok (.iconst 0, 1) := by decide +kernel
theorem dX4_held_1 : decode cX4_held 1 = .ok (.istore_n 1, 1) := by decide +kernel
theorem dX4_held_2 : decode cX4_held 2 = .ok (.iconst 0, 1) := by decide +kernel
theorem dX4_held_3 : decode cX4_held 3 = .ok (.istore_n 2, 1) := by decide +kernel
theorem dX4_held_4 : decode cX4_held 4 = .ok (.iload_n 2, 1) := by decide +kernel
theorem dX4_held_5 : decode cX4_held 5 = .ok (.bipush 10, 2) := by decide +kernel
theorem dX4_held_7 : decode cX4_held 7 = .ok (.if_icmp .ge 29, 3) := by decide +kernel
theorem dX4_held_10 : decode cX4_held 10 = .ok (.iload_n 1, 1) := by decide +kernel
theorem dX4_held_11 : decode cX4_held 11 = .ok (.aload_n 0, 1) := by decide +kernel
theorem dX4_held_12 : decode cX4_held 12 = .ok (.getfield 9, 3) := by decide +kernel
theorem dX4_held_15 : decode cX4_held 15 = .ok (.bipush 125, 2) := by decide +kernel
theorem dX4_held_17 : decode cX4_held 17 = .ok (.iload_n 2, 1) := by decide +kernel
theorem dX4_held_18 : decode cX4_held 18 = .ok (.iadd, 1) := by decide +kernel
theorem dX4_held_19 : decode cX4_held 19 = .ok (.iaload, 1) := by decide +kernel
theorem dX4_held_20 : decode cX4_held 20 = .ok (.ifCond .ge 7, 3) := by decide +kernel
theorem dX4_held_23 : decode cX4_held 23 = .ok (.iconst 0, 1) := by decide +kernel
theorem dX4_held_24 : decode cX4_held 24 = .ok (.goto 4, 3) := by decide +kernel
theorem dX4_held_27 : decode cX4_held 27 = .ok (.iconst 1, 1) := by decide +kernel
theorem dX4_held_28 : decode cX4_held 28 = .ok (.iadd, 1) := by decide +kernel
theorem dX4_held_29 : decode cX4_held 29 = .ok (.istore_n 1, 1) := by decide +kernel
theorem dX4_held_30 : decode cX4_held 30 = .ok (.iinc 2 1, 3) := by decide +kernel
theorem dX4_held_33 : decode cX4_held 33 = .ok (.goto (-29), 3) := by decide +kernel
theorem dX4_held_36 : decode cX4_held 36 = .ok (.iload_n 1, 1) := by decide +kernel
theorem dX4_held_37 : decode cX4_held 37 = .ok (.ireturn, 1) := by decide +kernel
theorem dX4_count_0 : decode cX4_count 0 = .ok (.iload_n 1, 1) := by decide +kernel
theorem dX4_count_1 : decode cX4_count 1 = .ok (.tableswitch 98 0 7 #[47, 54, 61, 69, 76, 81, 86, 93], 47) := by decide +kernel
theorem dX4_count_48 : decode cX4_count 48 = .ok (.aload_n 0, 1) := by decide +kernel
theorem dX4_count_49 : decode cX4_count 49 = .ok (.getfield 9, 3) := by decide +kernel
theorem dX4_count_52 : decode cX4_count 52 = .ok (.iconst 0, 1) := by decide +kernel
theorem dX4_count_53 : decode cX4_count 53 = .ok (.iaload, 1) := by decide +kernel
theorem dX4_count_54 : decode cX4_count 54 = .ok (.ireturn, 1) := by decide +kernel
theorem dX4_count_55 : decode cX4_count 55 = .ok (.aload_n 0, 1) := by decide +kernel
theorem dX4_count_56 : decode cX4_count 56 = .ok (.getfield 9, 3) := by decide +kernel
theorem dX4_count_59 : decode cX4_count 59 = .ok (.iconst 2, 1) := by decide +kernel
theorem dX4_count_60 : decode cX4_count 60 = .ok (.iaload, 1) := by decide +kernel
theorem dX4_count_61 : decode cX4_count 61 = .ok (.ireturn, 1) := by decide +kernel
theorem dX4_count_62 : decode cX4_count 62 = .ok (.aload_n 0, 1) := by decide +kernel
theorem dX4_count_63 : decode cX4_count 63 = .ok (.invokevirtual 141, 3) := by decide +kernel
theorem dX4_count_66 : decode cX4_count 66 = .ok (.invokestatic 144, 3) := by decide +kernel
theorem dX4_count_69 : decode cX4_count 69 = .ok (.ireturn, 1) := by decide +kernel
theorem dX4_count_70 : decode cX4_count 70 = .ok (.aload_n 0, 1) := by decide +kernel
theorem dX4_count_71 : decode cX4_count 71 = .ok (.getfield 9, 3) := by decide +kernel
theorem dX4_count_74 : decode cX4_count 74 = .ok (.iconst 4, 1) := by decide +kernel
theorem dX4_count_75 : decode cX4_count 75 = .ok (.iaload, 1) := by decide +kernel
theorem dX4_count_76 : decode cX4_count 76 = .ok (.ireturn, 1) := by decide +kernel
theorem dX4_count_77 : decode cX4_count 77 = .ok (.aload_n 0, 1) := by decide +kernel
theorem dX4_count_78 : decode cX4_count 78 = .ok (.invokevirtual 153, 3) := by decide +kernel
theorem dX4_count_81 : decode cX4_count 81 = .ok (.ireturn, 1) := by decide +kernel
theorem dX4_count_82 : decode cX4_count 82 = .ok (.aload_n 0, 1) := by decide +kernel
theorem dX4_count_83 : decode cX4_count 83 = .ok (.getfield 217, 3) := by decide +kernel
theorem dX4_count_86 : decode cX4_count 86 = .ok (.ireturn, 1) := by decide +kernel
theorem dX4_count_87 : decode cX4_count 87 = .ok (.aload_n 0, 1) := by decide +kernel
theorem dX4_count_88 : decode cX4_count 88 = .ok (.getfield 9, 3) := by decide +kernel
theorem dX4_count_91 : decode cX4_count 91 = .ok (.iconst 1, 1) := by decide +kernel
theorem dX4_count_92 : decode cX4_count 92 = .ok (.iaload, 1) := by decide +kernel
theorem dX4_count_93 : decode cX4_count 93 = .ok (.ireturn, 1) := by decide +kernel
theorem dX4_count_94 : decode cX4_count 94 = .ok (.aload_n 0, 1) := by decide +kernel
theorem dX4_count_95 : decode cX4_count 95 = .ok (.invokevirtual 311, 3) := by decide +kernel
theorem dX4_count_98 : decode cX4_count 98 = .ok (.ireturn, 1) := by decide +kernel
theorem dX4_count_99 : decode cX4_count 99 = .ok (.aload_n 0, 1) := by decide +kernel
theorem dX4_count_100 : decode cX4_count 100 = .ok (.iconst 0, 1) := by decide +kernel
theorem dX4_count_101 : decode cX4_count 101 = .ok (.invokevirtual 76, 3) := by decide +kernel
theorem dX4_count_104 : decode cX4_count 104 = .ok (.ireturn, 1) := by decide +kernel
theorem dX4_status_0 : decode cX4_status 0 = .ok (.iload_n 1, 1) := by decide +kernel
theorem dX4_status_1 : decode cX4_status 1 = .ok (.i2l, 1) := by decide +kernel
theorem dX4_status_2 : decode cX4_status 2 = .ok (.ldc2_w 314, 3) := by decide +kernel
theorem dX4_status_5 : decode cX4_status 5 = .ok (.ldc2_w 52, 3) := by decide +kernel
theorem dX4_status_8 : decode cX4_status 8 = .ok (.invokestatic 42, 3) := by decide +kernel
theorem dX4_status_11 : decode cX4_status 11 = .ok (.ifCond .ne 9, 3) := by decide +kernel
theorem dX4_status_14 : decode cX4_status 14 = .ok (.aload_n 0, 1) := by decide +kernel
theorem dX4_status_15 : decode cX4_status 15 = .ok (.iconst 0, 1) := by decide +kernel
theorem dX4_status_16 : decode cX4_status 16 = .ok (.invokevirtual 76, 3) := by decide +kernel
theorem dX4_status_19 : decode cX4_status 19 = .ok (.ireturn, 1) := by decide +kernel
theorem dX4_status_20 : decode cX4_status 20 = .ok (.iconst 0, 1) := by decide +kernel
theorem dX4_status_21 : decode cX4_status 21 = .ok (.istore_n 2, 1) := by decide +kernel
theorem dX4_status_22 : decode cX4_status 22 = .ok (.iconst 0, 1) := by decide +kernel
theorem dX4_status_23 : decode cX4_status 23 = .ok (.istore_n 3, 1) := by decide +kernel
theorem dX4_status_24 : decode cX4_status 24 = .ok (.iload_n 3, 1) := by decide +kernel
theorem dX4_status_25 : decode cX4_status 25 = .ok (.bipush 7, 2) := by decide +kernel
theorem dX4_status_27 : decode cX4_status 27 = .ok (.if_icmp .ge 31, 3) := by decide +kernel
theorem dX4_status_30 : decode cX4_status 30 = .ok (.iload_n 2, 1) := by decide +kernel
theorem dX4_status_31 : decode cX4_status 31 = .ok (.iload_n 1, 1) := by decide +kernel
theorem dX4_status_32 : decode cX4_status 32 = .ok (.ifCond .lt 8, 3) := by decide +kernel
theorem dX4_status_35 : decode cX4_status 35 = .ok (.iload_n 1, 1) := by decide +kernel
theorem dX4_status_36 : decode cX4_status 36 = .ok (.iload_n 3, 1) := by decide +kernel
theorem dX4_status_37 : decode cX4_status 37 = .ok (.if_icmp .ne 12, 3) := by decide +kernel
theorem dX4_status_40 : decode cX4_status 40 = .ok (.aload_n 0, 1) := by decide +kernel
theorem dX4_status_41 : decode cX4_status 41 = .ok (.getfield 19, 3) := by decide +kernel
theorem dX4_status_44 : decode cX4_status 44 = .ok (.iload_n 3, 1) := by decide +kernel
theorem dX4_status_45 : decode cX4_status 45 = .ok (.iaload, 1) := by decide +kernel
theorem dX4_status_46 : decode cX4_status 46 = .ok (.goto 4, 3) := by decide +kernel
theorem dX4_status_49 : decode cX4_status 49 = .ok (.iconst 0, 1) := by decide +kernel
theorem dX4_status_50 : decode cX4_status 50 = .ok (.iadd, 1) := by decide +kernel
theorem dX4_status_51 : decode cX4_status 51 = .ok (.istore_n 2, 1) := by decide +kernel
theorem dX4_status_52 : decode cX4_status 52 = .ok (.iinc 3 1, 3) := by decide +kernel
theorem dX4_status_55 : decode cX4_status 55 = .ok (.goto (-31), 3) := by decide +kernel
theorem dX4_status_58 : decode cX4_status 58 = .ok (.iload_n 2, 1) := by decide +kernel
theorem dX4_status_59 : decode cX4_status 59 = .ok (.ireturn, 1) := by decide +kernel
theorem dJ6_numberOfTrailingZeros_0f7a4_0 : decode cJ6_numberOfTrailingZeros_0f7a4 0 = .ok (.iload_n 0, 1) := by decide +kernel
theorem dJ6_numberOfTrailingZeros_0f7a4_1 : decode cJ6_numberOfTrailingZeros_0f7a4 1 = .ok (.iconst (-1), 1) := by decide +kernel
theorem dJ6_numberOfTrailingZeros_0f7a4_2 : decode cJ6_numberOfTrailingZeros_0f7a4 2 = .ok (.ixor, 1) := by decide +kernel
theorem dJ6_numberOfTrailingZeros_0f7a4_3 : decode cJ6_numberOfTrailingZeros_0f7a4 3 = .ok (.iload_n 0, 1) := by decide +kernel
theorem dJ6_numberOfTrailingZeros_0f7a4_4 : decode cJ6_numberOfTrailingZeros_0f7a4 4 = .ok (.iconst 1, 1) := by decide +kernel
theorem dJ6_numberOfTrailingZeros_0f7a4_5 : decode cJ6_numberOfTrailingZeros_0f7a4 5 = .ok (.isub, 1) := by decide +kernel
theorem dJ6_numberOfTrailingZeros_0f7a4_6 : decode cJ6_numberOfTrailingZeros_0f7a4 6 = .ok (.iand, 1) := by decide +kernel
theorem dJ6_numberOfTrailingZeros_0f7a4_7 : decode cJ6_numberOfTrailingZeros_0f7a4 7 = .ok (.istore_n 0, 1) := by decide +kernel
theorem dJ6_numberOfTrailingZeros_0f7a4_8 : decode cJ6_numberOfTrailingZeros_0f7a4 8 = .ok (.iload_n 0, 1) := by decide +kernel
theorem dJ6_numberOfTrailingZeros_0f7a4_9 : decode cJ6_numberOfTrailingZeros_0f7a4 9 = .ok (.ifCond .gt 8, 3) := by decide +kernel
theorem dJ6_numberOfTrailingZeros_0f7a4_12 : decode cJ6_numberOfTrailingZeros_0f7a4 12 = .ok (.iload_n 0, 1) := by decide +kernel
theorem dJ6_numberOfTrailingZeros_0f7a4_13 : decode cJ6_numberOfTrailingZeros_0f7a4 13 = .ok (.bipush 32, 2) := by decide +kernel
theorem dJ6_numberOfTrailingZeros_0f7a4_15 : decode cJ6_numberOfTrailingZeros_0f7a4 15 = .ok (.iand, 1) := by decide +kernel
theorem dJ6_numberOfTrailingZeros_0f7a4_16 : decode cJ6_numberOfTrailingZeros_0f7a4 16 = .ok (.ireturn, 1) := by decide +kernel
theorem dJ6_numberOfTrailingZeros_0f7a4_17 : decode cJ6_numberOfTrailingZeros_0f7a4 17 = .ok (.iconst 1, 1) := by decide +kernel
theorem dJ6_numberOfTrailingZeros_0f7a4_18 : decode cJ6_numberOfTrailingZeros_0f7a4 18 = .ok (.istore_n 1, 1) := by decide +kernel
theorem dJ6_numberOfTrailingZeros_0f7a4_19 : decode cJ6_numberOfTrailingZeros_0f7a4 19 = .ok (.iload_n 0, 1) := by decide +kernel
theorem dJ6_numberOfTrailingZeros_0f7a4_20 : decode cJ6_numberOfTrailingZeros_0f7a4 20 = .ok (.ldc_w 264, 3) := by decide +kernel
theorem dJ6_numberOfTrailingZeros_0f7a4_23 : decode cJ6_numberOfTrailingZeros_0f7a4 23 = .ok (.if_icmp .le 11, 3) := by decide +kernel
theorem dJ6_numberOfTrailingZeros_0f7a4_26 : decode cJ6_numberOfTrailingZeros_0f7a4 26 = .ok (.iinc 1 16, 3) := by decide +kernel
theorem dJ6_numberOfTrailingZeros_0f7a4_29 : decode cJ6_numberOfTrailingZeros_0f7a4 29 = .ok (.iload_n 0, 1) := by decide +kernel
theorem dJ6_numberOfTrailingZeros_0f7a4_30 : decode cJ6_numberOfTrailingZeros_0f7a4 30 = .ok (.bipush 16, 2) := by decide +kernel
theorem dJ6_numberOfTrailingZeros_0f7a4_32 : decode cJ6_numberOfTrailingZeros_0f7a4 32 = .ok (.iushr, 1) := by decide +kernel
theorem dJ6_numberOfTrailingZeros_0f7a4_33 : decode cJ6_numberOfTrailingZeros_0f7a4 33 = .ok (.istore_n 0, 1) := by decide +kernel
theorem dJ6_numberOfTrailingZeros_0f7a4_34 : decode cJ6_numberOfTrailingZeros_0f7a4 34 = .ok (.iload_n 0, 1) := by decide +kernel
theorem dJ6_numberOfTrailingZeros_0f7a4_35 : decode cJ6_numberOfTrailingZeros_0f7a4 35 = .ok (.sipush 256, 3) := by decide +kernel
theorem dJ6_numberOfTrailingZeros_0f7a4_38 : decode cJ6_numberOfTrailingZeros_0f7a4 38 = .ok (.if_icmp .le 11, 3) := by decide +kernel
theorem dJ6_numberOfTrailingZeros_0f7a4_41 : decode cJ6_numberOfTrailingZeros_0f7a4 41 = .ok (.iinc 1 8, 3) := by decide +kernel
theorem dJ6_numberOfTrailingZeros_0f7a4_44 : decode cJ6_numberOfTrailingZeros_0f7a4 44 = .ok (.iload_n 0, 1) := by decide +kernel
theorem dJ6_numberOfTrailingZeros_0f7a4_45 : decode cJ6_numberOfTrailingZeros_0f7a4 45 = .ok (.bipush 8, 2) := by decide +kernel
theorem dJ6_numberOfTrailingZeros_0f7a4_47 : decode cJ6_numberOfTrailingZeros_0f7a4 47 = .ok (.iushr, 1) := by decide +kernel
theorem dJ6_numberOfTrailingZeros_0f7a4_48 : decode cJ6_numberOfTrailingZeros_0f7a4 48 = .ok (.istore_n 0, 1) := by decide +kernel
theorem dJ6_numberOfTrailingZeros_0f7a4_49 : decode cJ6_numberOfTrailingZeros_0f7a4 49 = .ok (.iload_n 0, 1) := by decide +kernel
theorem dJ6_numberOfTrailingZeros_0f7a4_50 : decode cJ6_numberOfTrailingZeros_0f7a4 50 = .ok (.bipush 16, 2) := by decide +kernel
theorem dJ6_numberOfTrailingZeros_0f7a4_52 : decode cJ6_numberOfTrailingZeros_0f7a4 52 = .ok (.if_icmp .le 10, 3) := by decide +kernel
theorem dJ6_numberOfTrailingZeros_0f7a4_55 : decode cJ6_numberOfTrailingZeros_0f7a4 55 = .ok (.iinc 1 4, 3) := by decide +kernel
theorem dJ6_numberOfTrailingZeros_0f7a4_58 : decode cJ6_numberOfTrailingZeros_0f7a4 58 = .ok (.iload_n 0, 1) := by decide +kernel
theorem dJ6_numberOfTrailingZeros_0f7a4_59 : decode cJ6_numberOfTrailingZeros_0f7a4 59 = .ok (.iconst 4, 1) := by decide +kernel
theorem dJ6_numberOfTrailingZeros_0f7a4_60 : decode cJ6_numberOfTrailingZeros_0f7a4 60 = .ok (.iushr, 1) := by decide +kernel
theorem dJ6_numberOfTrailingZeros_0f7a4_61 : decode cJ6_numberOfTrailingZeros_0f7a4 61 = .ok (.istore_n 0, 1) := by decide +kernel
theorem dJ6_numberOfTrailingZeros_0f7a4_62 : decode cJ6_numberOfTrailingZeros_0f7a4 62 = .ok (.iload_n 0, 1) := by decide +kernel
theorem dJ6_numberOfTrailingZeros_0f7a4_63 : decode cJ6_numberOfTrailingZeros_0f7a4 63 = .ok (.iconst 4, 1) := by decide +kernel
theorem dJ6_numberOfTrailingZeros_0f7a4_64 : decode cJ6_numberOfTrailingZeros_0f7a4 64 = .ok (.if_icmp .le 10, 3) := by decide +kernel
theorem dJ6_numberOfTrailingZeros_0f7a4_67 : decode cJ6_numberOfTrailingZeros_0f7a4 67 = .ok (.iinc 1 2, 3) := by decide +kernel
theorem dJ6_numberOfTrailingZeros_0f7a4_70 : decode cJ6_numberOfTrailingZeros_0f7a4 70 = .ok (.iload_n 0, 1) := by decide +kernel
theorem dJ6_numberOfTrailingZeros_0f7a4_71 : decode cJ6_numberOfTrailingZeros_0f7a4 71 = .ok (.iconst 2, 1) := by decide +kernel
theorem dJ6_numberOfTrailingZeros_0f7a4_72 : decode cJ6_numberOfTrailingZeros_0f7a4 72 = .ok (.iushr, 1) := by decide +kernel
theorem dJ6_numberOfTrailingZeros_0f7a4_73 : decode cJ6_numberOfTrailingZeros_0f7a4 73 = .ok (.istore_n 0, 1) := by decide +kernel
theorem dJ6_numberOfTrailingZeros_0f7a4_74 : decode cJ6_numberOfTrailingZeros_0f7a4 74 = .ok (.iload_n 1, 1) := by decide +kernel
theorem dJ6_numberOfTrailingZeros_0f7a4_75 : decode cJ6_numberOfTrailingZeros_0f7a4 75 = .ok (.iload_n 0, 1) := by decide +kernel
theorem dJ6_numberOfTrailingZeros_0f7a4_76 : decode cJ6_numberOfTrailingZeros_0f7a4 76 = .ok (.iconst 1, 1) := by decide +kernel
theorem dJ6_numberOfTrailingZeros_0f7a4_77 : decode cJ6_numberOfTrailingZeros_0f7a4 77 = .ok (.iushr, 1) := by decide +kernel
theorem dJ6_numberOfTrailingZeros_0f7a4_78 : decode cJ6_numberOfTrailingZeros_0f7a4 78 = .ok (.iadd, 1) := by decide +kernel
theorem dJ6_numberOfTrailingZeros_0f7a4_79 : decode cJ6_numberOfTrailingZeros_0f7a4 79 = .ok (.ireturn, 1) := by decide +kernel
theorem dJ6_bitCount_0f7a4_0 : decode cJ6_bitCount_0f7a4 0 = .ok (.iload_n 0, 1) := by decide +kernel
theorem dJ6_bitCount_0f7a4_1 : decode cJ6_bitCount_0f7a4 1 = .ok (.iload_n 0, 1) := by decide +kernel
theorem dJ6_bitCount_0f7a4_2 : decode cJ6_bitCount_0f7a4 2 = .ok (.iconst 1, 1) := by decide +kernel
theorem dJ6_bitCount_0f7a4_3 : decode cJ6_bitCount_0f7a4 3 = .ok (.iushr, 1) := by decide +kernel
theorem dJ6_bitCount_0f7a4_4 : decode cJ6_bitCount_0f7a4 4 = .ok (.ldc_w 265, 3) := by decide +kernel
theorem dJ6_bitCount_0f7a4_7 : decode cJ6_bitCount_0f7a4 7 = .ok (.iand, 1) := by decide +kernel
theorem dJ6_bitCount_0f7a4_8 : decode cJ6_bitCount_0f7a4 8 = .ok (.isub, 1) := by decide +kernel
theorem dJ6_bitCount_0f7a4_9 : decode cJ6_bitCount_0f7a4 9 = .ok (.istore_n 0, 1) := by decide +kernel
theorem dJ6_bitCount_0f7a4_10 : decode cJ6_bitCount_0f7a4 10 = .ok (.iload_n 0, 1) := by decide +kernel
theorem dJ6_bitCount_0f7a4_11 : decode cJ6_bitCount_0f7a4 11 = .ok (.ldc_w 266, 3) := by decide +kernel
theorem dJ6_bitCount_0f7a4_14 : decode cJ6_bitCount_0f7a4 14 = .ok (.iand, 1) := by decide +kernel
theorem dJ6_bitCount_0f7a4_15 : decode cJ6_bitCount_0f7a4 15 = .ok (.iload_n 0, 1) := by decide +kernel
theorem dJ6_bitCount_0f7a4_16 : decode cJ6_bitCount_0f7a4 16 = .ok (.iconst 2, 1) := by decide +kernel
theorem dJ6_bitCount_0f7a4_17 : decode cJ6_bitCount_0f7a4 17 = .ok (.iushr, 1) := by decide +kernel
theorem dJ6_bitCount_0f7a4_18 : decode cJ6_bitCount_0f7a4 18 = .ok (.ldc_w 266, 3) := by decide +kernel
theorem dJ6_bitCount_0f7a4_21 : decode cJ6_bitCount_0f7a4 21 = .ok (.iand, 1) := by decide +kernel
theorem dJ6_bitCount_0f7a4_22 : decode cJ6_bitCount_0f7a4 22 = .ok (.iadd, 1) := by decide +kernel
theorem dJ6_bitCount_0f7a4_23 : decode cJ6_bitCount_0f7a4 23 = .ok (.istore_n 0, 1) := by decide +kernel
theorem dJ6_bitCount_0f7a4_24 : decode cJ6_bitCount_0f7a4 24 = .ok (.iload_n 0, 1) := by decide +kernel
theorem dJ6_bitCount_0f7a4_25 : decode cJ6_bitCount_0f7a4 25 = .ok (.iload_n 0, 1) := by decide +kernel
theorem dJ6_bitCount_0f7a4_26 : decode cJ6_bitCount_0f7a4 26 = .ok (.iconst 4, 1) := by decide +kernel
theorem dJ6_bitCount_0f7a4_27 : decode cJ6_bitCount_0f7a4 27 = .ok (.iushr, 1) := by decide +kernel
theorem dJ6_bitCount_0f7a4_28 : decode cJ6_bitCount_0f7a4 28 = .ok (.iadd, 1) := by decide +kernel
theorem dJ6_bitCount_0f7a4_29 : decode cJ6_bitCount_0f7a4 29 = .ok (.ldc_w 267, 3) := by decide +kernel
theorem dJ6_bitCount_0f7a4_32 : decode cJ6_bitCount_0f7a4 32 = .ok (.iand, 1) := by decide +kernel
theorem dJ6_bitCount_0f7a4_33 : decode cJ6_bitCount_0f7a4 33 = .ok (.istore_n 0, 1) := by decide +kernel
theorem dJ6_bitCount_0f7a4_34 : decode cJ6_bitCount_0f7a4 34 = .ok (.iload_n 0, 1) := by decide +kernel
theorem dJ6_bitCount_0f7a4_35 : decode cJ6_bitCount_0f7a4 35 = .ok (.iload_n 0, 1) := by decide +kernel
theorem dJ6_bitCount_0f7a4_36 : decode cJ6_bitCount_0f7a4 36 = .ok (.bipush 8, 2) := by decide +kernel
theorem dJ6_bitCount_0f7a4_38 : decode cJ6_bitCount_0f7a4 38 = .ok (.iushr, 1) := by decide +kernel
theorem dJ6_bitCount_0f7a4_39 : decode cJ6_bitCount_0f7a4 39 = .ok (.iadd, 1) := by decide +kernel
theorem dJ6_bitCount_0f7a4_40 : decode cJ6_bitCount_0f7a4 40 = .ok (.istore_n 0, 1) := by decide +kernel
theorem dJ6_bitCount_0f7a4_41 : decode cJ6_bitCount_0f7a4 41 = .ok (.iload_n 0, 1) := by decide +kernel
theorem dJ6_bitCount_0f7a4_42 : decode cJ6_bitCount_0f7a4 42 = .ok (.iload_n 0, 1) := by decide +kernel
theorem dJ6_bitCount_0f7a4_43 : decode cJ6_bitCount_0f7a4 43 = .ok (.bipush 16, 2) := by decide +kernel
theorem dJ6_bitCount_0f7a4_45 : decode cJ6_bitCount_0f7a4 45 = .ok (.iushr, 1) := by decide +kernel
theorem dJ6_bitCount_0f7a4_46 : decode cJ6_bitCount_0f7a4 46 = .ok (.iadd, 1) := by decide +kernel
theorem dJ6_bitCount_0f7a4_47 : decode cJ6_bitCount_0f7a4 47 = .ok (.istore_n 0, 1) := by decide +kernel
theorem dJ6_bitCount_0f7a4_48 : decode cJ6_bitCount_0f7a4 48 = .ok (.iload_n 0, 1) := by decide +kernel
theorem dJ6_bitCount_0f7a4_49 : decode cJ6_bitCount_0f7a4 49 = .ok (.bipush 63, 2) := by decide +kernel
theorem dJ6_bitCount_0f7a4_51 : decode cJ6_bitCount_0f7a4 51 = .ok (.iand, 1) := by decide +kernel
theorem dJ6_bitCount_0f7a4_52 : decode cJ6_bitCount_0f7a4 52 = .ok (.ireturn, 1) := by decide +kernel
theorem dJ9_max_7cf53_0 : decode cJ9_max_7cf53 0 = .ok (.iload_n 0, 1) := by decide +kernel
theorem dJ9_max_7cf53_1 : decode cJ9_max_7cf53 1 = .ok (.iload_n 1, 1) := by decide +kernel
theorem dJ9_max_7cf53_2 : decode cJ9_max_7cf53 2 = .ok (.if_icmp .lt 7, 3) := by decide +kernel
theorem dJ9_max_7cf53_5 : decode cJ9_max_7cf53 5 = .ok (.iload_n 0, 1) := by decide +kernel
theorem dJ9_max_7cf53_6 : decode cJ9_max_7cf53 6 = .ok (.goto 4, 3) := by decide +kernel
theorem dJ9_max_7cf53_9 : decode cJ9_max_7cf53 9 = .ok (.iload_n 1, 1) := by decide +kernel
theorem dJ9_max_7cf53_10 : decode cJ9_max_7cf53 10 = .ok (.ireturn, 1) := by decide +kernel
theorem dJ9_min_7cf53_0 : decode cJ9_min_7cf53 0 = .ok (.iload_n 0, 1) := by decide +kernel
theorem dJ9_min_7cf53_1 : decode cJ9_min_7cf53 1 = .ok (.iload_n 1, 1) := by decide +kernel
theorem dJ9_min_7cf53_2 : decode cJ9_min_7cf53 2 = .ok (.if_icmp .gt 7, 3) := by decide +kernel
theorem dJ9_min_7cf53_5 : decode cJ9_min_7cf53 5 = .ok (.iload_n 0, 1) := by decide +kernel
theorem dJ9_min_7cf53_6 : decode cJ9_min_7cf53 6 = .ok (.goto 4, 3) := by decide +kernel
theorem dJ9_min_7cf53_9 : decode cJ9_min_7cf53 9 = .ok (.iload_n 1, 1) := by decide +kernel
theorem dJ9_min_7cf53_10 : decode cJ9_min_7cf53 10 = .ok (.ireturn, 1) := by decide +kernel
theorem dJ0_length_8abf5_0 : decode cJ0_length_8abf5 0 = .ok (.aload_n 0, 1) := by decide +kernel
theorem dJ0_length_8abf5_1 : decode cJ0_length_8abf5 1 = .ok (.getfield 9, 3) := by decide +kernel
theorem dJ0_length_8abf5_4 : decode cJ0_length_8abf5 4 = .ok (.arraylength, 1) := by decide +kernel
theorem dJ0_length_8abf5_5 : decode cJ0_length_8abf5 5 = .ok (.aload_n 0, 1) := by decide +kernel
theorem dJ0_length_8abf5_6 : decode cJ0_length_8abf5 6 = .ok (.invokevirtual 335, 3) := by decide +kernel
theorem dJ0_length_8abf5_9 : decode cJ0_length_8abf5 9 = .ok (.ishr, 1) := by decide +kernel
theorem dJ0_length_8abf5_10 : decode cJ0_length_8abf5 10 = .ok (.ireturn, 1) := by decide +kernel
theorem dJ0_charAt_5068e_0 : decode cJ0_charAt_5068e 0 = .ok (.aload_n 0, 1) := by decide +kernel
theorem dJ0_charAt_5068e_1 : decode cJ0_charAt_5068e 1 = .ok (.invokevirtual 492, 3) := by decide +kernel
theorem dJ0_charAt_5068e_4 : decode cJ0_charAt_5068e 4 = .ok (.ifCond .eq 12, 3) := by decide +kernel
theorem dJ0_charAt_5068e_7 : decode cJ0_charAt_5068e 7 = .ok (.aload_n 0, 1) := by decide +kernel
theorem dJ0_charAt_5068e_8 : decode cJ0_charAt_5068e 8 = .ok (.getfield 9, 3) := by decide +kernel
theorem dJ0_charAt_5068e_11 : decode cJ0_charAt_5068e 11 = .ok (.iload_n 1, 1) := by decide +kernel
theorem dJ0_charAt_5068e_12 : decode cJ0_charAt_5068e 12 = .ok (.invokestatic 495, 3) := by decide +kernel
theorem dJ0_charAt_5068e_15 : decode cJ0_charAt_5068e 15 = .ok (.ireturn, 1) := by decide +kernel
theorem dJ0_charAt_5068e_16 : decode cJ0_charAt_5068e 16 = .ok (.aload_n 0, 1) := by decide +kernel
theorem dJ0_charAt_5068e_17 : decode cJ0_charAt_5068e 17 = .ok (.getfield 9, 3) := by decide +kernel
theorem dJ0_charAt_5068e_20 : decode cJ0_charAt_5068e 20 = .ok (.iload_n 1, 1) := by decide +kernel
theorem dJ0_charAt_5068e_21 : decode cJ0_charAt_5068e 21 = .ok (.invokestatic 498, 3) := by decide +kernel
theorem dJ0_charAt_5068e_24 : decode cJ0_charAt_5068e 24 = .ok (.ireturn, 1) := by decide +kernel
theorem dJ0_coder_7d493_0 : decode cJ0_coder_7d493 0 = .ok (.getstatic 38, 3) := by decide +kernel
theorem dJ0_coder_7d493_3 : decode cJ0_coder_7d493 3 = .ok (.ifCond .eq 10, 3) := by decide +kernel
theorem dJ0_coder_7d493_6 : decode cJ0_coder_7d493 6 = .ok (.aload_n 0, 1) := by decide +kernel
theorem dJ0_coder_7d493_7 : decode cJ0_coder_7d493 7 = .ok (.getfield 15, 3) := by decide +kernel
theorem dJ0_coder_7d493_10 : decode cJ0_coder_7d493 10 = .ok (.goto 4, 3) := by decide +kernel
theorem dJ0_coder_7d493_13 : decode cJ0_coder_7d493 13 = .ok (.iconst 1, 1) := by decide +kernel
theorem dJ0_coder_7d493_14 : decode cJ0_coder_7d493 14 = .ok (.ireturn, 1) := by decide +kernel
theorem dJ0_isLatin1_aae02_0 : decode cJ0_isLatin1_aae02 0 = .ok (.getstatic 38, 3) := by decide +kernel
theorem dJ0_isLatin1_aae02_3 : decode cJ0_isLatin1_aae02 3 = .ok (.ifCond .eq 14, 3) := by decide +kernel
theorem dJ0_isLatin1_aae02_6 : decode cJ0_isLatin1_aae02 6 = .ok (.aload_n 0, 1) := by decide +kernel
theorem dJ0_isLatin1_aae02_7 : decode cJ0_isLatin1_aae02 7 = .ok (.getfield 15, 3) := by decide +kernel
theorem dJ0_isLatin1_aae02_10 : decode cJ0_isLatin1_aae02 10 = .ok (.ifCond .ne 7, 3) := by decide +kernel
theorem dJ0_isLatin1_aae02_13 : decode cJ0_isLatin1_aae02 13 = .ok (.iconst 1, 1) := by decide +kernel
theorem dJ0_isLatin1_aae02_14 : decode cJ0_isLatin1_aae02 14 = .ok (.goto 4, 3) := by decide +kernel
theorem dJ0_isLatin1_aae02_17 : decode cJ0_isLatin1_aae02 17 = .ok (.iconst 0, 1) := by decide +kernel
theorem dJ0_isLatin1_aae02_18 : decode cJ0_isLatin1_aae02 18 = .ok (.ireturn, 1) := by decide +kernel
theorem dJ0_checkIndex_df160_0 : decode cJ0_checkIndex_df160 0 = .ok (.iload_n 0, 1) := by decide +kernel
theorem dJ0_checkIndex_df160_1 : decode cJ0_checkIndex_df160 1 = .ok (.iload_n 1, 1) := by decide +kernel
theorem dJ0_checkIndex_df160_2 : decode cJ0_checkIndex_df160 2 = .ok (.getstatic 1053, 3) := by decide +kernel
theorem dJ0_checkIndex_df160_5 : decode cJ0_checkIndex_df160 5 = .ok (.invokestatic 1059, 3) := by decide +kernel
theorem dJ0_checkIndex_df160_8 : decode cJ0_checkIndex_df160 8 = .ok (.pop, 1) := by decide +kernel
theorem dJ0_checkIndex_df160_9 : decode cJ0_checkIndex_df160 9 = .ok (.return_, 1) := by decide +kernel
theorem dJ1_charAt_3b067_0 : decode cJ1_charAt_3b067 0 = .ok (.iload_n 1, 1) := by decide +kernel
theorem dJ1_charAt_3b067_1 : decode cJ1_charAt_3b067 1 = .ok (.aload_n 0, 1) := by decide +kernel
theorem dJ1_charAt_3b067_2 : decode cJ1_charAt_3b067 2 = .ok (.arraylength, 1) := by decide +kernel
theorem dJ1_charAt_3b067_3 : decode cJ1_charAt_3b067 3 = .ok (.invokestatic 9, 3) := by decide +kernel
theorem dJ1_charAt_3b067_6 : decode cJ1_charAt_3b067 6 = .ok (.aload_n 0, 1) := by decide +kernel
theorem dJ1_charAt_3b067_7 : decode cJ1_charAt_3b067 7 = .ok (.iload_n 1, 1) := by decide +kernel
theorem dJ1_charAt_3b067_8 : decode cJ1_charAt_3b067 8 = .ok (.baload, 1) := by decide +kernel
theorem dJ1_charAt_3b067_9 : decode cJ1_charAt_3b067 9 = .ok (.sipush 255, 3) := by decide +kernel
theorem dJ1_charAt_3b067_12 : decode cJ1_charAt_3b067 12 = .ok (.iand, 1) := by decide +kernel
theorem dJ1_charAt_3b067_13 : decode cJ1_charAt_3b067 13 = .ok (.i2c, 1) := by decide +kernel
theorem dJ1_charAt_3b067_14 : decode cJ1_charAt_3b067 14 = .ok (.ireturn, 1) := by decide +kernel
theorem dJ2_getChar_3b067_0 : decode cJ2_getChar_3b067 0 = .ok (.getstatic 44, 3) := by decide +kernel
theorem dJ2_getChar_3b067_3 : decode cJ2_getChar_3b067 3 = .ok (.ifCond .ne 25, 3) := by decide +kernel
theorem dJ2_getChar_3b067_6 : decode cJ2_getChar_3b067 6 = .ok (.iload_n 1, 1) := by decide +kernel
theorem dJ2_getChar_3b067_7 : decode cJ2_getChar_3b067 7 = .ok (.ifCond .lt 11, 3) := by decide +kernel
theorem dJ2_getChar_3b067_10 : decode cJ2_getChar_3b067 10 = .ok (.iload_n 1, 1) := by decide +kernel
theorem dJ2_getChar_3b067_11 : decode cJ2_getChar_3b067 11 = .ok (.aload_n 0, 1) := by decide +kernel
theorem dJ2_getChar_3b067_12 : decode cJ2_getChar_3b067 12 = .ok (.invokestatic 48, 3) := by decide +kernel
theorem dJ2_getChar_3b067_15 : decode cJ2_getChar_3b067 15 = .ok (.if_icmp .lt 13, 3) := by decide +kernel
theorem dJ2_getChar_3b067_18 : decode cJ2_getChar_3b067 18 = .ok (.new 52, 3) := by decide +kernel
theorem dJ2_getChar_3b067_21 : decode cJ2_getChar_3b067 21 = .ok (.dup, 1) := by decide +kernel
theorem dJ2_getChar_3b067_22 : decode cJ2_getChar_3b067 22 = .ok (.ldc 54, 2) := by decide +kernel
theorem dJ2_getChar_3b067_24 : decode cJ2_getChar_3b067 24 = .ok (.invokespecial 56, 3) := by decide +kernel
theorem dJ2_getChar_3b067_27 : decode cJ2_getChar_3b067 27 = .ok (.athrow, 1) := by decide +kernel
theorem dJ2_getChar_3b067_28 : decode cJ2_getChar_3b067 28 = .ok (.iload_n 1, 1) := by decide +kernel
theorem dJ2_getChar_3b067_29 : decode cJ2_getChar_3b067 29 = .ok (.iconst 1, 1) := by decide +kernel
theorem dJ2_getChar_3b067_30 : decode cJ2_getChar_3b067 30 = .ok (.ishl, 1) := by decide +kernel
theorem dJ2_getChar_3b067_31 : decode cJ2_getChar_3b067 31 = .ok (.istore_n 1, 1) := by decide +kernel
theorem dJ2_getChar_3b067_32 : decode cJ2_getChar_3b067 32 = .ok (.aload_n 0, 1) := by decide +kernel
theorem dJ2_getChar_3b067_33 : decode cJ2_getChar_3b067 33 = .ok (.iload_n 1, 1) := by decide +kernel
theorem dJ2_getChar_3b067_34 : decode cJ2_getChar_3b067 34 = .ok (.iinc 1 1, 3) := by decide +kernel
theorem dJ2_getChar_3b067_37 : decode cJ2_getChar_3b067 37 = .ok (.baload, 1) := by decide +kernel
theorem dJ2_getChar_3b067_38 : decode cJ2_getChar_3b067 38 = .ok (.sipush 255, 3) := by decide +kernel
theorem dJ2_getChar_3b067_41 : decode cJ2_getChar_3b067 41 = .ok (.iand, 1) := by decide +kernel
theorem dJ2_getChar_3b067_42 : decode cJ2_getChar_3b067 42 = .ok (.getstatic 59, 3) := by decide +kernel
theorem dJ2_getChar_3b067_45 : decode cJ2_getChar_3b067 45 = .ok (.ishl, 1) := by decide +kernel
theorem dJ2_getChar_3b067_46 : decode cJ2_getChar_3b067 46 = .ok (.aload_n 0, 1) := by decide +kernel
theorem dJ2_getChar_3b067_47 : decode cJ2_getChar_3b067 47 = .ok (.iload_n 1, 1) := by decide +kernel
theorem dJ2_getChar_3b067_48 : decode cJ2_getChar_3b067 48 = .ok (.baload, 1) := by decide +kernel
theorem dJ2_getChar_3b067_49 : decode cJ2_getChar_3b067 49 = .ok (.sipush 255, 3) := by decide +kernel
theorem dJ2_getChar_3b067_52 : decode cJ2_getChar_3b067 52 = .ok (.iand, 1) := by decide +kernel
theorem dJ2_getChar_3b067_53 : decode cJ2_getChar_3b067 53 = .ok (.getstatic 63, 3) := by decide +kernel
theorem dJ2_getChar_3b067_56 : decode cJ2_getChar_3b067 56 = .ok (.ishl, 1) := by decide +kernel
theorem dJ2_getChar_3b067_57 : decode cJ2_getChar_3b067 57 = .ok (.ior, 1) := by decide +kernel
theorem dJ2_getChar_3b067_58 : decode cJ2_getChar_3b067 58 = .ok (.i2c, 1) := by decide +kernel
theorem dJ2_getChar_3b067_59 : decode cJ2_getChar_3b067 59 = .ok (.ireturn, 1) := by decide +kernel
theorem dJ2_length_9d52b_0 : decode cJ2_length_9d52b 0 = .ok (.aload_n 0, 1) := by decide +kernel
theorem dJ2_length_9d52b_1 : decode cJ2_length_9d52b 1 = .ok (.arraylength, 1) := by decide +kernel
theorem dJ2_length_9d52b_2 : decode cJ2_length_9d52b 2 = .ok (.iconst 1, 1) := by decide +kernel
theorem dJ2_length_9d52b_3 : decode cJ2_length_9d52b 3 = .ok (.ishr, 1) := by decide +kernel
theorem dJ2_length_9d52b_4 : decode cJ2_length_9d52b 4 = .ok (.ireturn, 1) := by decide +kernel
theorem dJ2_charAt_3b067_0 : decode cJ2_charAt_3b067 0 = .ok (.iload_n 1, 1) := by decide +kernel
theorem dJ2_charAt_3b067_1 : decode cJ2_charAt_3b067 1 = .ok (.aload_n 0, 1) := by decide +kernel
theorem dJ2_charAt_3b067_2 : decode cJ2_charAt_3b067 2 = .ok (.invokestatic 67, 3) := by decide +kernel
theorem dJ2_charAt_3b067_5 : decode cJ2_charAt_3b067 5 = .ok (.aload_n 0, 1) := by decide +kernel
theorem dJ2_charAt_3b067_6 : decode cJ2_charAt_3b067 6 = .ok (.iload_n 1, 1) := by decide +kernel
theorem dJ2_charAt_3b067_7 : decode cJ2_charAt_3b067 7 = .ok (.invokestatic 71, 3) := by decide +kernel
theorem dJ2_charAt_3b067_10 : decode cJ2_charAt_3b067 10 = .ok (.ireturn, 1) := by decide +kernel
theorem dJ2_checkIndex_2214a_0 : decode cJ2_checkIndex_2214a 0 = .ok (.iload_n 0, 1) := by decide +kernel
theorem dJ2_checkIndex_2214a_1 : decode cJ2_checkIndex_2214a 1 = .ok (.aload_n 1, 1) := by decide +kernel
theorem dJ2_checkIndex_2214a_2 : decode cJ2_checkIndex_2214a 2 = .ok (.invokestatic 48, 3) := by decide +kernel
theorem dJ2_checkIndex_2214a_5 : decode cJ2_checkIndex_2214a 5 = .ok (.invokestatic 414, 3) := by decide +kernel
theorem dJ2_checkIndex_2214a_8 : decode cJ2_checkIndex_2214a 8 = .ok (.return_, 1) := by decide +kernel
theorem dJ3_checkIndex_8e157_0 : decode cJ3_checkIndex_8e157 0 = .ok (.iload_n 0, 1) := by decide +kernel
theorem dJ3_checkIndex_8e157_1 : decode cJ3_checkIndex_8e157 1 = .ok (.ifCond .lt 8, 3) := by decide +kernel
theorem dJ3_checkIndex_8e157_4 : decode cJ3_checkIndex_8e157 4 = .ok (.iload_n 0, 1) := by decide +kernel
theorem dJ3_checkIndex_8e157_5 : decode cJ3_checkIndex_8e157 5 = .ok (.iload_n 1, 1) := by decide +kernel
theorem dJ3_checkIndex_8e157_6 : decode cJ3_checkIndex_8e157 6 = .ok (.if_icmp .lt 10, 3) := by decide +kernel
theorem dJ3_checkIndex_8e157_9 : decode cJ3_checkIndex_8e157 9 = .ok (.aload_n 2, 1) := by decide +kernel
theorem dJ3_checkIndex_8e157_10 : decode cJ3_checkIndex_8e157 10 = .ok (.iload_n 0, 1) := by decide +kernel
theorem dJ3_checkIndex_8e157_11 : decode cJ3_checkIndex_8e157 11 = .ok (.iload_n 1, 1) := by decide +kernel
theorem dJ3_checkIndex_8e157_12 : decode cJ3_checkIndex_8e157 12 = .ok (.invokestatic 95, 3) := by decide +kernel
theorem dJ3_checkIndex_8e157_15 : decode cJ3_checkIndex_8e157 15 = .ok (.athrow, 1) := by decide +kernel
theorem dJ3_checkIndex_8e157_16 : decode cJ3_checkIndex_8e157 16 = .ok (.iload_n 0, 1) := by decide +kernel
theorem dJ3_checkIndex_8e157_17 : decode cJ3_checkIndex_8e157 17 = .ok (.ireturn, 1) := by decide +kernel
