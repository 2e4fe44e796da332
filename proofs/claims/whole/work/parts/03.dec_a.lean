theorem dX0_init_0 : decode cX0_init 0 = .ok (.aload_n 0, 1) := by decide +kernel
theorem dX0_init_1 : decode cX0_init 1 = .ok (.invokespecial 3, 3) := by decide +kernel
theorem dX0_init_4 : decode cX0_init 4 = .ok (.aload_n 0, 1) := by decide +kernel
theorem dX0_init_5 : decode cX0_init 5 = .ok (.iconst 4, 1) := by decide +kernel
theorem dX0_init_6 : decode cX0_init 6 = .ok (.bipush 40, 2) := by decide +kernel
theorem dX0_init_8 : decode cX0_init 8 = .ok (.multianewarray 11 2, 4) := by decide +kernel
theorem dX0_init_12 : decode cX0_init 12 = .ok (.putfield 13, 3) := by decide +kernel
theorem dX0_init_15 : decode cX0_init 15 = .ok (.aload_n 0, 1) := by decide +kernel
theorem dX0_init_16 : decode cX0_init 16 = .ok (.iconst 4, 1) := by decide +kernel
theorem dX0_init_17 : decode cX0_init 17 = .ok (.newarray .int, 2) := by decide +kernel
theorem dX0_init_19 : decode cX0_init 19 = .ok (.putfield 16, 3) := by decide +kernel
theorem dX0_init_22 : decode cX0_init 22 = .ok (.aload_n 0, 1) := by decide +kernel
theorem dX0_init_23 : decode cX0_init 23 = .ok (.iconst 4, 1) := by decide +kernel
theorem dX0_init_24 : decode cX0_init 24 = .ok (.newarray .int, 2) := by decide +kernel
theorem dX0_init_26 : decode cX0_init 26 = .ok (.putfield 20, 3) := by decide +kernel
theorem dX0_init_29 : decode cX0_init 29 = .ok (.return_, 1) := by decide +kernel
theorem dX0_isSheet_0 : decode cX0_isSheet 0 = .ok (.iload_n 0, 1) := by decide +kernel
theorem dX0_isSheet_1 : decode cX0_isSheet 1 = .ok (.iconst 0, 1) := by decide +kernel
theorem dX0_isSheet_2 : decode cX0_isSheet 2 = .ok (.iconst 3, 1) := by decide +kernel
theorem dX0_isSheet_3 : decode cX0_isSheet 3 = .ok (.invokestatic 23, 3) := by decide +kernel
theorem dX0_isSheet_6 : decode cX0_isSheet 6 = .ok (.ireturn, 1) := by decide +kernel
theorem dX0_isWidth_0 : decode cX0_isWidth 0 = .ok (.iload_n 0, 1) := by decide +kernel
theorem dX0_isWidth_1 : decode cX0_isWidth 1 = .ok (.ifCond .eq 21, 3) := by decide +kernel
theorem dX0_isWidth_4 : decode cX0_isWidth 4 = .ok (.iload_n 0, 1) := by decide +kernel
theorem dX0_isWidth_5 : decode cX0_isWidth 5 = .ok (.bipush 8, 2) := by decide +kernel
theorem dX0_isWidth_7 : decode cX0_isWidth 7 = .ok (.if_icmp .eq 15, 3) := by decide +kernel
theorem dX0_isWidth_10 : decode cX0_isWidth 10 = .ok (.iload_n 0, 1) := by decide +kernel
theorem dX0_isWidth_11 : decode cX0_isWidth 11 = .ok (.bipush 16, 2) := by decide +kernel
theorem dX0_isWidth_13 : decode cX0_isWidth 13 = .ok (.if_icmp .eq 9, 3) := by decide +kernel
theorem dX0_isWidth_16 : decode cX0_isWidth 16 = .ok (.iload_n 0, 1) := by decide +kernel
theorem dX0_isWidth_17 : decode cX0_isWidth 17 = .ok (.bipush 32, 2) := by decide +kernel
theorem dX0_isWidth_19 : decode cX0_isWidth 19 = .ok (.if_icmp .ne 7, 3) := by decide +kernel
theorem dX0_isWidth_22 : decode cX0_isWidth 22 = .ok (.iconst 1, 1) := by decide +kernel
theorem dX0_isWidth_23 : decode cX0_isWidth 23 = .ok (.goto 4, 3) := by decide +kernel
theorem dX0_isWidth_26 : decode cX0_isWidth 26 = .ok (.iconst 0, 1) := by decide +kernel
theorem dX0_isWidth_27 : decode cX0_isWidth 27 = .ok (.ireturn, 1) := by decide +kernel
theorem dX0_isMissing_0 : decode cX0_isMissing 0 = .ok (.aload_n 0, 1) := by decide +kernel
theorem dX0_isMissing_1 : decode cX0_isMissing 1 = .ok (.getfield 16, 3) := by decide +kernel
theorem dX0_isMissing_4 : decode cX0_isMissing 4 = .ok (.iload_n 1, 1) := by decide +kernel
theorem dX0_isMissing_5 : decode cX0_isMissing 5 = .ok (.iaload, 1) := by decide +kernel
theorem dX0_isMissing_6 : decode cX0_isMissing 6 = .ok (.ifCond .ne 7, 3) := by decide +kernel
theorem dX0_isMissing_9 : decode cX0_isMissing 9 = .ok (.iconst 1, 1) := by decide +kernel
theorem dX0_isMissing_10 : decode cX0_isMissing 10 = .ok (.goto 4, 3) := by decide +kernel
theorem dX0_isMissing_13 : decode cX0_isMissing 13 = .ok (.iconst 0, 1) := by decide +kernel
theorem dX0_isMissing_14 : decode cX0_isMissing 14 = .ok (.ireturn, 1) := by decide +kernel
theorem dX0_findingOf_0 : decode cX0_findingOf 0 = .ok (.iload_n 1, 1) := by decide +kernel
theorem dX0_findingOf_1 : decode cX0_findingOf 1 = .ok (.invokestatic 27, 3) := by decide +kernel
theorem dX0_findingOf_4 : decode cX0_findingOf 4 = .ok (.ifCond .ne 6, 3) := by decide +kernel
theorem dX0_findingOf_7 : decode cX0_findingOf 7 = .ok (.ldc 31, 2) := by decide +kernel
theorem dX0_findingOf_9 : decode cX0_findingOf 9 = .ok (.ireturn, 1) := by decide +kernel
theorem dX0_findingOf_10 : decode cX0_findingOf 10 = .ok (.aload_n 0, 1) := by decide +kernel
theorem dX0_findingOf_11 : decode cX0_findingOf 11 = .ok (.iload_n 1, 1) := by decide +kernel
theorem dX0_findingOf_12 : decode cX0_findingOf 12 = .ok (.invokevirtual 32, 3) := by decide +kernel
theorem dX0_findingOf_15 : decode cX0_findingOf 15 = .ok (.ifCond .eq 8, 3) := by decide +kernel
theorem dX0_findingOf_18 : decode cX0_findingOf 18 = .ok (.ldc 35, 2) := by decide +kernel
theorem dX0_findingOf_20 : decode cX0_findingOf 20 = .ok (.goto 4, 3) := by decide +kernel
theorem dX0_findingOf_23 : decode cX0_findingOf 23 = .ok (.iconst 0, 1) := by decide +kernel
theorem dX0_findingOf_24 : decode cX0_findingOf 24 = .ok (.ireturn, 1) := by decide +kernel
theorem dX0_lay_0 : decode cX0_lay 0 = .ok (.aload_n 0, 1) := by decide +kernel
theorem dX0_lay_1 : decode cX0_lay 1 = .ok (.getfield 16, 3) := by decide +kernel
theorem dX0_lay_4 : decode cX0_lay 4 = .ok (.iload_n 1, 1) := by decide +kernel
theorem dX0_lay_5 : decode cX0_lay 5 = .ok (.iload_n 2, 1) := by decide +kernel
theorem dX0_lay_6 : decode cX0_lay 6 = .ok (.iastore, 1) := by decide +kernel
theorem dX0_lay_7 : decode cX0_lay 7 = .ok (.aload_n 0, 1) := by decide +kernel
theorem dX0_lay_8 : decode cX0_lay 8 = .ok (.getfield 20, 3) := by decide +kernel
theorem dX0_lay_11 : decode cX0_lay 11 = .ok (.iload_n 1, 1) := by decide +kernel
theorem dX0_lay_12 : decode cX0_lay 12 = .ok (.iload_n 2, 1) := by decide +kernel
theorem dX0_lay_13 : decode cX0_lay 13 = .ok (.ifCond .ne 7, 3) := by decide +kernel
theorem dX0_lay_16 : decode cX0_lay 16 = .ok (.iconst 0, 1) := by decide +kernel
theorem dX0_lay_17 : decode cX0_lay 17 = .ok (.goto 4, 3) := by decide +kernel
theorem dX0_lay_20 : decode cX0_lay 20 = .ok (.iload_n 3, 1) := by decide +kernel
theorem dX0_lay_21 : decode cX0_lay 21 = .ok (.iastore, 1) := by decide +kernel
theorem dX0_lay_22 : decode cX0_lay 22 = .ok (.iconst 0, 1) := by decide +kernel
theorem dX0_lay_23 : decode cX0_lay 23 = .ok (.istore 4, 2) := by decide +kernel
theorem dX0_lay_25 : decode cX0_lay 25 = .ok (.iload 4, 2) := by decide +kernel
theorem dX0_lay_27 : decode cX0_lay 27 = .ok (.bipush 40, 2) := by decide +kernel
theorem dX0_lay_29 : decode cX0_lay 29 = .ok (.if_icmp .ge 19, 3) := by decide +kernel
theorem dX0_lay_32 : decode cX0_lay 32 = .ok (.aload_n 0, 1) := by decide +kernel
theorem dX0_lay_33 : decode cX0_lay 33 = .ok (.getfield 13, 3) := by decide +kernel
theorem dX0_lay_36 : decode cX0_lay 36 = .ok (.iload_n 1, 1) := by decide +kernel
theorem dX0_lay_37 : decode cX0_lay 37 = .ok (.aaload, 1) := by decide +kernel
theorem dX0_lay_38 : decode cX0_lay 38 = .ok (.iload 4, 2) := by decide +kernel
theorem dX0_lay_40 : decode cX0_lay 40 = .ok (.iconst 0, 1) := by decide +kernel
theorem dX0_lay_41 : decode cX0_lay 41 = .ok (.iastore, 1) := by decide +kernel
theorem dX0_lay_42 : decode cX0_lay 42 = .ok (.iinc 4 1, 3) := by decide +kernel
theorem dX0_lay_45 : decode cX0_lay 45 = .ok (.goto (-20), 3) := by decide +kernel
theorem dX0_lay_48 : decode cX0_lay 48 = .ok (.aload_n 0, 1) := by decide +kernel
theorem dX0_lay_49 : decode cX0_lay 49 = .ok (.getfield 20, 3) := by decide +kernel
theorem dX0_lay_52 : decode cX0_lay 52 = .ok (.iload_n 1, 1) := by decide +kernel
theorem dX0_lay_53 : decode cX0_lay 53 = .ok (.iaload, 1) := by decide +kernel
theorem dX0_lay_54 : decode cX0_lay 54 = .ok (.ireturn, 1) := by decide +kernel
theorem dX0_put_0 : decode cX0_put 0 = .ok (.bipush 32, 2) := by decide +kernel
theorem dX0_put_2 : decode cX0_put 2 = .ok (.aload_n 0, 1) := by decide +kernel
theorem dX0_put_3 : decode cX0_put 3 = .ok (.getfield 16, 3) := by decide +kernel
theorem dX0_put_6 : decode cX0_put 6 = .ok (.iload_n 1, 1) := by decide +kernel
theorem dX0_put_7 : decode cX0_put 7 = .ok (.iaload, 1) := by decide +kernel
theorem dX0_put_8 : decode cX0_put 8 = .ok (.isub, 1) := by decide +kernel
theorem dX0_put_9 : decode cX0_put 9 = .ok (.istore 4, 2) := by decide +kernel
theorem dX0_put_11 : decode cX0_put 11 = .ok (.aload_n 0, 1) := by decide +kernel
theorem dX0_put_12 : decode cX0_put 12 = .ok (.getfield 13, 3) := by decide +kernel
theorem dX0_put_15 : decode cX0_put 15 = .ok (.iload_n 1, 1) := by decide +kernel
theorem dX0_put_16 : decode cX0_put 16 = .ok (.aaload, 1) := by decide +kernel
theorem dX0_put_17 : decode cX0_put 17 = .ok (.iload_n 2, 1) := by decide +kernel
theorem dX0_put_18 : decode cX0_put 18 = .ok (.iload_n 3, 1) := by decide +kernel
theorem dX0_put_19 : decode cX0_put 19 = .ok (.iload 4, 2) := by decide +kernel
theorem dX0_put_21 : decode cX0_put 21 = .ok (.ishl, 1) := by decide +kernel
theorem dX0_put_22 : decode cX0_put 22 = .ok (.iload 4, 2) := by decide +kernel
theorem dX0_put_24 : decode cX0_put 24 = .ok (.ishr, 1) := by decide +kernel
theorem dX0_put_25 : decode cX0_put 25 = .ok (.iastore, 1) := by decide +kernel
theorem dX0_put_26 : decode cX0_put 26 = .ok (.return_, 1) := by decide +kernel
theorem dX0_hasPart_0 : decode cX0_hasPart 0 = .ok (.iload_n 3, 1) := by decide +kernel
theorem dX0_hasPart_1 : decode cX0_hasPart 1 = .ok (.ifCond .lt 33, 3) := by decide +kernel
theorem dX0_hasPart_4 : decode cX0_hasPart 4 = .ok (.iload_n 3, 1) := by decide +kernel
theorem dX0_hasPart_5 : decode cX0_hasPart 5 = .ok (.aload_n 0, 1) := by decide +kernel
theorem dX0_hasPart_6 : decode cX0_hasPart 6 = .ok (.getfield 20, 3) := by decide +kernel
theorem dX0_hasPart_9 : decode cX0_hasPart 9 = .ok (.iload_n 1, 1) := by decide +kernel
theorem dX0_hasPart_10 : decode cX0_hasPart 10 = .ok (.iaload, 1) := by decide +kernel
theorem dX0_hasPart_11 : decode cX0_hasPart 11 = .ok (.if_icmp .gt 23, 3) := by decide +kernel
theorem dX0_hasPart_14 : decode cX0_hasPart 14 = .ok (.iload_n 2, 1) := by decide +kernel
theorem dX0_hasPart_15 : decode cX0_hasPart 15 = .ok (.ifCond .lt 19, 3) := by decide +kernel
theorem dX0_hasPart_18 : decode cX0_hasPart 18 = .ok (.iload_n 2, 1) := by decide +kernel
theorem dX0_hasPart_19 : decode cX0_hasPart 19 = .ok (.aload_n 0, 1) := by decide +kernel
theorem dX0_hasPart_20 : decode cX0_hasPart 20 = .ok (.getfield 20, 3) := by decide +kernel
theorem dX0_hasPart_23 : decode cX0_hasPart 23 = .ok (.iload_n 1, 1) := by decide +kernel
theorem dX0_hasPart_24 : decode cX0_hasPart 24 = .ok (.iaload, 1) := by decide +kernel
theorem dX0_hasPart_25 : decode cX0_hasPart 25 = .ok (.iload_n 3, 1) := by decide +kernel
theorem dX0_hasPart_26 : decode cX0_hasPart 26 = .ok (.isub, 1) := by decide +kernel
theorem dX0_hasPart_27 : decode cX0_hasPart 27 = .ok (.if_icmp .gt 7, 3) := by decide +kernel
theorem dX0_hasPart_30 : decode cX0_hasPart 30 = .ok (.iconst 1, 1) := by decide +kernel
theorem dX0_hasPart_31 : decode cX0_hasPart 31 = .ok (.goto 4, 3) := by decide +kernel
theorem dX0_hasPart_34 : decode cX0_hasPart 34 = .ok (.iconst 0, 1) := by decide +kernel
theorem dX0_hasPart_35 : decode cX0_hasPart 35 = .ok (.ireturn, 1) := by decide +kernel
theorem dX1_init_0 : decode cX1_init 0 = .ok (.aload_n 0, 1) := by decide +kernel
theorem dX1_init_1 : decode cX1_init 1 = .ok (.invokespecial 3, 3) := by decide +kernel
theorem dX1_init_4 : decode cX1_init 4 = .ok (.aload_n 0, 1) := by decide +kernel
theorem dX1_init_5 : decode cX1_init 5 = .ok (.iconst 3, 1) := by decide +kernel
theorem dX1_init_6 : decode cX1_init 6 = .ok (.bipush 24, 2) := by decide +kernel
theorem dX1_init_8 : decode cX1_init 8 = .ok (.multianewarray 9 2, 4) := by decide +kernel
theorem dX1_init_12 : decode cX1_init 12 = .ok (.putfield 11, 3) := by decide +kernel
theorem dX1_init_15 : decode cX1_init 15 = .ok (.aload_n 0, 1) := by decide +kernel
theorem dX1_init_16 : decode cX1_init 16 = .ok (.bipush 6, 2) := by decide +kernel
theorem dX1_init_18 : decode cX1_init 18 = .ok (.bipush 8, 2) := by decide +kernel
theorem dX1_init_20 : decode cX1_init 20 = .ok (.multianewarray 9 2, 4) := by decide +kernel
theorem dX1_init_24 : decode cX1_init 24 = .ok (.putfield 16, 3) := by decide +kernel
theorem dX1_init_27 : decode cX1_init 27 = .ok (.aload_n 0, 1) := by decide +kernel
theorem dX1_init_28 : decode cX1_init 28 = .ok (.bipush 10, 2) := by decide +kernel
theorem dX1_init_30 : decode cX1_init 30 = .ok (.newarray .int, 2) := by decide +kernel
theorem dX1_init_32 : decode cX1_init 32 = .ok (.putfield 19, 3) := by decide +kernel
theorem dX1_init_35 : decode cX1_init 35 = .ok (.aload_n 0, 1) := by decide +kernel
theorem dX1_init_36 : decode cX1_init 36 = .ok (.bipush 8, 2) := by decide +kernel
theorem dX1_init_38 : decode cX1_init 38 = .ok (.putfield 23, 3) := by decide +kernel
theorem dX1_init_41 : decode cX1_init 41 = .ok (.aload_n 0, 1) := by decide +kernel
theorem dX1_init_42 : decode cX1_init 42 = .ok (.iconst 1, 1) := by decide +kernel
theorem dX1_init_43 : decode cX1_init 43 = .ok (.putfield 27, 3) := by decide +kernel
theorem dX1_init_46 : decode cX1_init 46 = .ok (.iconst 0, 1) := by decide +kernel
theorem dX1_init_47 : decode cX1_init 47 = .ok (.istore_n 1, 1) := by decide +kernel
theorem dX1_init_48 : decode cX1_init 48 = .ok (.iload_n 1, 1) := by decide +kernel
theorem dX1_init_49 : decode cX1_init 49 = .ok (.bipush 24, 2) := by decide +kernel
theorem dX1_init_51 : decode cX1_init 51 = .ok (.if_icmp .ge 18, 3) := by decide +kernel
theorem dX1_init_54 : decode cX1_init 54 = .ok (.aload_n 0, 1) := by decide +kernel
theorem dX1_init_55 : decode cX1_init 55 = .ok (.getfield 11, 3) := by decide +kernel
theorem dX1_init_58 : decode cX1_init 58 = .ok (.iconst 0, 1) := by decide +kernel
theorem dX1_init_59 : decode cX1_init 59 = .ok (.aaload, 1) := by decide +kernel
theorem dX1_init_60 : decode cX1_init 60 = .ok (.iload_n 1, 1) := by decide +kernel
theorem dX1_init_61 : decode cX1_init 61 = .ok (.iconst (-1), 1) := by decide +kernel
theorem dX1_init_62 : decode cX1_init 62 = .ok (.iastore, 1) := by decide +kernel
theorem dX1_init_63 : decode cX1_init 63 = .ok (.iinc 1 1, 3) := by decide +kernel
theorem dX1_init_66 : decode cX1_init 66 = .ok (.goto (-18), 3) := by decide +kernel
theorem dX1_init_69 : decode cX1_init 69 = .ok (.iconst 0, 1) := by decide +kernel
theorem dX1_init_70 : decode cX1_init 70 = .ok (.istore_n 1, 1) := by decide +kernel
theorem dX1_init_71 : decode cX1_init 71 = .ok (.iload_n 1, 1) := by decide +kernel
theorem dX1_init_72 : decode cX1_init 72 = .ok (.bipush 10, 2) := by decide +kernel
theorem dX1_init_74 : decode cX1_init 74 = .ok (.if_icmp .ge 16, 3) := by decide +kernel
theorem dX1_init_77 : decode cX1_init 77 = .ok (.aload_n 0, 1) := by decide +kernel
theorem dX1_init_78 : decode cX1_init 78 = .ok (.getfield 19, 3) := by decide +kernel
theorem dX1_init_81 : decode cX1_init 81 = .ok (.iload_n 1, 1) := by decide +kernel
theorem dX1_init_82 : decode cX1_init 82 = .ok (.iconst (-1), 1) := by decide +kernel
theorem dX1_init_83 : decode cX1_init 83 = .ok (.iastore, 1) := by decide +kernel
theorem dX1_init_84 : decode cX1_init 84 = .ok (.iinc 1 1, 3) := by decide +kernel
theorem dX1_init_87 : decode cX1_init 87 = .ok (.goto (-16), 3) := by decide +kernel
theorem dX1_init_90 : decode cX1_init 90 = .ok (.return_, 1) := by decide +kernel
theorem dX1_become_0 : decode cX1_become 0 = .ok (.iconst 0, 1) := by decide +kernel
theorem dX1_become_1 : decode cX1_become 1 = .ok (.istore_n 2, 1) := by decide +kernel
theorem dX1_become_2 : decode cX1_become 2 = .ok (.iload_n 2, 1) := by decide +kernel
theorem dX1_become_3 : decode cX1_become 3 = .ok (.iconst 3, 1) := by decide +kernel
theorem dX1_become_4 : decode cX1_become 4 = .ok (.if_icmp .ge 28, 3) := by decide +kernel
theorem dX1_become_7 : decode cX1_become 7 = .ok (.aload_n 1, 1) := by decide +kernel
theorem dX1_become_8 : decode cX1_become 8 = .ok (.getfield 11, 3) := by decide +kernel
theorem dX1_become_11 : decode cX1_become 11 = .ok (.iload_n 2, 1) := by decide +kernel
theorem dX1_become_12 : decode cX1_become 12 = .ok (.aaload, 1) := by decide +kernel
theorem dX1_become_13 : decode cX1_become 13 = .ok (.iconst 0, 1) := by decide +kernel
theorem dX1_become_14 : decode cX1_become 14 = .ok (.aload_n 0, 1) := by decide +kernel
theorem dX1_become_15 : decode cX1_become 15 = .ok (.getfield 11, 3) := by decide +kernel
theorem dX1_become_18 : decode cX1_become 18 = .ok (.iload_n 2, 1) := by decide +kernel
theorem dX1_become_19 : decode cX1_become 19 = .ok (.aaload, 1) := by decide +kernel
theorem dX1_become_20 : decode cX1_become 20 = .ok (.iconst 0, 1) := by decide +kernel
theorem dX1_become_21 : decode cX1_become 21 = .ok (.bipush 24, 2) := by decide +kernel
theorem dX1_become_23 : decode cX1_become 23 = .ok (.invokestatic 30, 3) := by decide +kernel
theorem dX1_become_26 : decode cX1_become 26 = .ok (.iinc 2 1, 3) := by decide +kernel
theorem dX1_become_29 : decode cX1_become 29 = .ok (.goto (-27), 3) := by decide +kernel
theorem dX1_become_32 : decode cX1_become 32 = .ok (.iconst 0, 1) := by decide +kernel
theorem dX1_become_33 : decode cX1_become 33 = .ok (.istore_n 2, 1) := by decide +kernel
theorem dX1_become_34 : decode cX1_become 34 = .ok (.iload_n 2, 1) := by decide +kernel
theorem dX1_become_35 : decode cX1_become 35 = .ok (.bipush 6, 2) := by decide +kernel
theorem dX1_become_37 : decode cX1_become 37 = .ok (.if_icmp .ge 28, 3) := by decide +kernel
theorem dX1_become_40 : decode cX1_become 40 = .ok (.aload_n 1, 1) := by decide +kernel
theorem dX1_become_41 : decode cX1_become 41 = .ok (.getfield 16, 3) := by decide +kernel
theorem dX1_become_44 : decode cX1_become 44 = .ok (.iload_n 2, 1) := by decide +kernel
theorem dX1_become_45 : decode cX1_become 45 = .ok (.aaload, 1) := by decide +kernel
theorem dX1_become_46 : decode cX1_become 46 = .ok (.iconst 0, 1) := by decide +kernel
theorem dX1_become_47 : decode cX1_become 47 = .ok (.aload_n 0, 1) := by decide +kernel
theorem dX1_become_48 : decode cX1_become 48 = .ok (.getfield 16, 3) := by decide +kernel
theorem dX1_become_51 : decode cX1_become 51 = .ok (.iload_n 2, 1) := by decide +kernel
theorem dX1_become_52 : decode cX1_become 52 = .ok (.aaload, 1) := by decide +kernel
theorem dX1_become_53 : decode cX1_become 53 = .ok (.iconst 0, 1) := by decide +kernel
theorem dX1_become_54 : decode cX1_become 54 = .ok (.bipush 8, 2) := by decide +kernel
theorem dX1_become_56 : decode cX1_become 56 = .ok (.invokestatic 30, 3) := by decide +kernel
theorem dX1_become_59 : decode cX1_become 59 = .ok (.iinc 2 1, 3) := by decide +kernel
theorem dX1_become_62 : decode cX1_become 62 = .ok (.goto (-28), 3) := by decide +kernel
theorem dX1_become_65 : decode cX1_become 65 = .ok (.aload_n 1, 1) := by decide +kernel
theorem dX1_become_66 : decode cX1_become 66 = .ok (.getfield 19, 3) := by decide +kernel
theorem dX1_become_69 : decode cX1_become 69 = .ok (.iconst 0, 1) := by decide +kernel
theorem dX1_become_70 : decode cX1_become 70 = .ok (.aload_n 0, 1) := by decide +kernel
theorem dX1_become_71 : decode cX1_become 71 = .ok (.getfield 19, 3) := by decide +kernel
theorem dX1_become_74 : decode cX1_become 74 = .ok (.iconst 0, 1) := by decide +kernel
theorem dX1_become_75 : decode cX1_become 75 = .ok (.bipush 10, 2) := by decide +kernel
theorem dX1_become_77 : decode cX1_become 77 = .ok (.invokestatic 30, 3) := by decide +kernel
theorem dX1_become_80 : decode cX1_become 80 = .ok (.aload_n 0, 1) := by decide +kernel
theorem dX1_become_81 : decode cX1_become 81 = .ok (.aload_n 1, 1) := by decide +kernel
theorem dX1_become_82 : decode cX1_become 82 = .ok (.getfield 36, 3) := by decide +kernel
theorem dX1_become_85 : decode cX1_become 85 = .ok (.putfield 36, 3) := by decide +kernel
theorem dX1_become_88 : decode cX1_become 88 = .ok (.aload_n 0, 1) := by decide +kernel
theorem dX1_become_89 : decode cX1_become 89 = .ok (.aload_n 1, 1) := by decide +kernel
theorem dX1_become_90 : decode cX1_become 90 = .ok (.getfield 23, 3) := by decide +kernel
theorem dX1_become_93 : decode cX1_become 93 = .ok (.putfield 23, 3) := by decide +kernel
theorem dX1_become_96 : decode cX1_become 96 = .ok (.aload_n 0, 1) := by decide +kernel
theorem dX1_become_97 : decode cX1_become 97 = .ok (.aload_n 1, 1) := by decide +kernel
theorem dX1_become_98 : decode cX1_become 98 = .ok (.getfield 39, 3) := by decide +kernel
theorem dX1_become_101 : decode cX1_become 101 = .ok (.putfield 39, 3) := by decide +kernel
theorem dX1_become_104 : decode cX1_become 104 = .ok (.aload_n 0, 1) := by decide +kernel
theorem dX1_become_105 : decode cX1_become 105 = .ok (.aload_n 1, 1) := by decide +kernel
theorem dX1_become_106 : decode cX1_become 106 = .ok (.getfield 42, 3) := by decide +kernel
theorem dX1_become_109 : decode cX1_become 109 = .ok (.putfield 42, 3) := by decide +kernel
theorem dX1_become_112 : decode cX1_become 112 = .ok (.aload_n 0, 1) := by decide +kernel
theorem dX1_become_113 : decode cX1_become 113 = .ok (.aload_n 1, 1) := by decide +kernel
theorem dX1_become_114 : decode cX1_become 114 = .ok (.getfield 27, 3) := by decide +kernel
theorem dX1_become_117 : decode cX1_become 117 = .ok (.putfield 27, 3) := by decide +kernel
theorem dX1_become_120 : decode cX1_become 120 = .ok (.return_, 1) := by decide +kernel
theorem dX1_isWalker_0 : decode cX1_isWalker 0 = .ok (.iload_n 1, 1) := by decide +kernel
theorem dX1_isWalker_1 : decode cX1_isWalker 1 = .ok (.iconst 0, 1) := by decide +kernel
theorem dX1_isWalker_2 : decode cX1_isWalker 2 = .ok (.aload_n 0, 1) := by decide +kernel
theorem dX1_isWalker_3 : decode cX1_isWalker 3 = .ok (.getfield 36, 3) := by decide +kernel
theorem dX1_isWalker_6 : decode cX1_isWalker 6 = .ok (.iconst 1, 1) := by decide +kernel
theorem dX1_isWalker_7 : decode cX1_isWalker 7 = .ok (.isub, 1) := by decide +kernel
theorem dX1_isWalker_8 : decode cX1_isWalker 8 = .ok (.invokestatic 45, 3) := by decide +kernel
theorem dX1_isWalker_11 : decode cX1_isWalker 11 = .ok (.ireturn, 1) := by decide +kernel
theorem dX1_isWalkerOrNobody_0 : decode cX1_isWalkerOrNobody 0 = .ok (.iload_n 1, 1) := by decide +kernel
theorem dX1_isWalkerOrNobody_1 : decode cX1_isWalkerOrNobody 1 = .ok (.iconst (-1), 1) := by decide +kernel
theorem dX1_isWalkerOrNobody_2 : decode cX1_isWalkerOrNobody 2 = .ok (.aload_n 0, 1) := by decide +kernel
theorem dX1_isWalkerOrNobody_3 : decode cX1_isWalkerOrNobody 3 = .ok (.getfield 36, 3) := by decide +kernel
theorem dX1_isWalkerOrNobody_6 : decode cX1_isWalkerOrNobody 6 = .ok (.iconst 1, 1) := by decide +kernel
theorem dX1_isWalkerOrNobody_7 : decode cX1_isWalkerOrNobody 7 = .ok (.isub, 1) := by decide +kernel
theorem dX1_isWalkerOrNobody_8 : decode cX1_isWalkerOrNobody 8 = .ok (.invokestatic 45, 3) := by decide +kernel
theorem dX1_isWalkerOrNobody_11 : decode cX1_isWalkerOrNobody 11 = .ok (.ireturn, 1) := by decide +kernel
theorem dX1_hasRoom_0 : decode cX1_hasRoom 0 = .ok (.aload_n 0, 1) := by decide +kernel
theorem dX1_hasRoom_1 : decode cX1_hasRoom 1 = .ok (.getfield 36, 3) := by decide +kernel
theorem dX1_hasRoom_4 : decode cX1_hasRoom 4 = .ok (.bipush 8, 2) := by decide +kernel
theorem dX1_hasRoom_6 : decode cX1_hasRoom 6 = .ok (.if_icmp .ge 7, 3) := by decide +kernel
theorem dX1_hasRoom_9 : decode cX1_hasRoom 9 = .ok (.iconst 1, 1) := by decide +kernel
theorem dX1_hasRoom_10 : decode cX1_hasRoom 10 = .ok (.goto 4, 3) := by decide +kernel
theorem dX1_hasRoom_13 : decode cX1_hasRoom 13 = .ok (.iconst 0, 1) := by decide +kernel
theorem dX1_hasRoom_14 : decode cX1_hasRoom 14 = .ok (.ireturn, 1) := by decide +kernel
theorem dX1_add_0 : decode cX1_add 0 = .ok (.aload_n 0, 1) := by decide +kernel
theorem dX1_add_1 : decode cX1_add 1 = .ok (.getfield 36, 3) := by decide +kernel
theorem dX1_add_4 : decode cX1_add 4 = .ok (.istore_n 3, 1) := by decide +kernel
theorem dX1_add_5 : decode cX1_add 5 = .ok (.aload_n 0, 1) := by decide +kernel
theorem dX1_add_6 : decode cX1_add 6 = .ok (.getfield 16, 3) := by decide +kernel
theorem dX1_add_9 : decode cX1_add 9 = .ok (.iconst 0, 1) := by decide +kernel
theorem dX1_add_10 : decode cX1_add 10 = .ok (.aaload, 1) := by decide +kernel
theorem dX1_add_11 : decode cX1_add 11 = .ok (.iload_n 3, 1) := by decide +kernel
theorem dX1_add_12 : decode cX1_add 12 = .ok (.iload_n 1, 1) := by decide +kernel
theorem dX1_add_13 : decode cX1_add 13 = .ok (.iastore, 1) := by decide +kernel
theorem dX1_add_14 : decode cX1_add 14 = .ok (.aload_n 0, 1) := by decide +kernel
theorem dX1_add_15 : decode cX1_add 15 = .ok (.getfield 16, 3) := by decide +kernel
theorem dX1_add_18 : decode cX1_add 18 = .ok (.iconst 1, 1) := by decide +kernel
theorem dX1_add_19 : decode cX1_add 19 = .ok (.aaload, 1) := by decide +kernel
theorem dX1_add_20 : decode cX1_add 20 = .ok (.iload_n 3, 1) := by decide +kernel
theorem dX1_add_21 : decode cX1_add 21 = .ok (.iload_n 2, 1) := by decide +kernel
theorem dX1_add_22 : decode cX1_add 22 = .ok (.iastore, 1) := by decide +kernel
theorem dX1_add_23 : decode cX1_add 23 = .ok (.aload_n 0, 1) := by decide +kernel
theorem dX1_add_24 : decode cX1_add 24 = .ok (.getfield 16, 3) := by decide +kernel
theorem dX1_add_27 : decode cX1_add 27 = .ok (.iconst 2, 1) := by decide +kernel
theorem dX1_add_28 : decode cX1_add 28 = .ok (.aaload, 1) := by decide +kernel
theorem dX1_add_29 : decode cX1_add 29 = .ok (.iload_n 3, 1) := by decide +kernel
theorem dX1_add_30 : decode cX1_add 30 = .ok (.iconst 1, 1) := by decide +kernel
theorem dX1_add_31 : decode cX1_add 31 = .ok (.iastore, 1) := by decide +kernel
theorem dX1_add_32 : decode cX1_add 32 = .ok (.aload_n 0, 1) := by decide +kernel
theorem dX1_add_33 : decode cX1_add 33 = .ok (.getfield 16, 3) := by decide +kernel
theorem dX1_add_36 : decode cX1_add 36 = .ok (.iconst 3, 1) := by decide +kernel
theorem dX1_add_37 : decode cX1_add 37 = .ok (.aaload, 1) := by decide +kernel
theorem dX1_add_38 : decode cX1_add 38 = .ok (.iload_n 3, 1) := by decide +kernel
theorem dX1_add_39 : decode cX1_add 39 = .ok (.iconst 1, 1) := by decide +kernel
theorem dX1_add_40 : decode cX1_add 40 = .ok (.iastore, 1) := by decide +kernel
theorem dX1_add_41 : decode cX1_add 41 = .ok (.aload_n 0, 1) := by decide +kernel
theorem dX1_add_42 : decode cX1_add 42 = .ok (.getfield 16, 3) := by decide +kernel
theorem dX1_add_45 : decode cX1_add 45 = .ok (.iconst 4, 1) := by decide +kernel
theorem dX1_add_46 : decode cX1_add 46 = .ok (.aaload, 1) := by decide +kernel
theorem dX1_add_47 : decode cX1_add 47 = .ok (.iload_n 3, 1) := by decide +kernel
theorem dX1_add_48 : decode cX1_add 48 = .ok (.iconst 4, 1) := by decide +kernel
theorem dX1_add_49 : decode cX1_add 49 = .ok (.iastore, 1) := by decide +kernel
theorem dX1_add_50 : decode cX1_add 50 = .ok (.aload_n 0, 1) := by decide +kernel
theorem dX1_add_51 : decode cX1_add 51 = .ok (.getfield 16, 3) := by decide +kernel
theorem dX1_add_54 : decode cX1_add 54 = .ok (.iconst 5, 1) := by decide +kernel
theorem dX1_add_55 : decode cX1_add 55 = .ok (.aaload, 1) := by decide +kernel
theorem dX1_add_56 : decode cX1_add 56 = .ok (.iload_n 3, 1) := by decide +kernel
theorem dX1_add_57 : decode cX1_add 57 = .ok (.iconst 0, 1) := by decide +kernel
theorem dX1_add_58 : decode cX1_add 58 = .ok (.iastore, 1) := by decide +kernel
theorem dX1_add_59 : decode cX1_add 59 = .ok (.aload_n 0, 1) := by decide +kernel
theorem dX1_add_60 : decode cX1_add 60 = .ok (.dup, 1) := by decide +kernel
theorem dX1_add_61 : decode cX1_add 61 = .ok (.getfield 36, 3) := by decide +kernel
theorem dX1_add_64 : decode cX1_add 64 = .ok (.iconst 1, 1) := by decide +kernel
theorem dX1_add_65 : decode cX1_add 65 = .ok (.iadd, 1) := by decide +kernel
theorem dX1_add_66 : decode cX1_add 66 = .ok (.putfield 36, 3) := by decide +kernel
theorem dX1_add_69 : decode cX1_add 69 = .ok (.iload_n 3, 1) := by decide +kernel
theorem dX1_add_70 : decode cX1_add 70 = .ok (.ireturn, 1) := by decide +kernel
theorem dX1_put_0 : decode cX1_put 0 = .ok (.aload_n 0, 1) := by decide +kernel
theorem dX1_put_1 : decode cX1_put 1 = .ok (.getfield 11, 3) := by decide +kernel
theorem dX1_put_4 : decode cX1_put 4 = .ok (.iconst 0, 1) := by decide +kernel
theorem dX1_put_5 : decode cX1_put 5 = .ok (.aaload, 1) := by decide +kernel
theorem dX1_put_6 : decode cX1_put 6 = .ok (.iload_n 1, 1) := by decide +kernel
theorem dX1_put_7 : decode cX1_put 7 = .ok (.iload_n 2, 1) := by decide +kernel
theorem dX1_put_8 : decode cX1_put 8 = .ok (.iastore, 1) := by decide +kernel
theorem dX1_put_9 : decode cX1_put 9 = .ok (.aload_n 0, 1) := by decide +kernel
theorem dX1_put_10 : decode cX1_put 10 = .ok (.getfield 11, 3) := by decide +kernel
theorem dX1_put_13 : decode cX1_put 13 = .ok (.iconst 1, 1) := by decide +kernel
theorem dX1_put_14 : decode cX1_put 14 = .ok (.aaload, 1) := by decide +kernel
theorem dX1_put_15 : decode cX1_put 15 = .ok (.iload_n 1, 1) := by decide +kernel
theorem dX1_put_16 : decode cX1_put 16 = .ok (.iload_n 3, 1) := by decide +kernel
theorem dX1_put_17 : decode cX1_put 17 = .ok (.iastore, 1) := by decide +kernel
theorem dX1_put_18 : decode cX1_put 18 = .ok (.aload_n 0, 1) := by decide +kernel
theorem dX1_put_19 : decode cX1_put 19 = .ok (.getfield 11, 3) := by decide +kernel
theorem dX1_put_22 : decode cX1_put 22 = .ok (.iconst 2, 1) := by decide +kernel
theorem dX1_put_23 : decode cX1_put 23 = .ok (.aaload, 1) := by decide +kernel
theorem dX1_put_24 : decode cX1_put 24 = .ok (.iload_n 1, 1) := by decide +kernel
theorem dX1_put_25 : decode cX1_put 25 = .ok (.iload 4, 2) := by decide +kernel
theorem dX1_put_27 : decode cX1_put 27 = .ok (.iastore, 1) := by decide +kernel
theorem dX1_put_28 : decode cX1_put 28 = .ok (.return_, 1) := by decide +kernel
theorem dX1_clear_0 : decode cX1_clear 0 = .ok (.aload_n 0, 1) := by decide +kernel
theorem dX1_clear_1 : decode cX1_clear 1 = .ok (.iload_n 1, 1) := by decide +kernel
theorem dX1_clear_2 : decode cX1_clear 2 = .ok (.iconst (-1), 1) := by decide +kernel
theorem dX1_clear_3 : decode cX1_clear 3 = .ok (.iconst 0, 1) := by decide +kernel
theorem dX1_clear_4 : decode cX1_clear 4 = .ok (.iconst 0, 1) := by decide +kernel
theorem dX1_clear_5 : decode cX1_clear 5 = .ok (.invokevirtual 49, 3) := by decide +kernel
theorem dX1_clear_8 : decode cX1_clear 8 = .ok (.return_, 1) := by decide +kernel
theorem dX1_strides_0 : decode cX1_strides 0 = .ok (.aload_n 0, 1) := by decide +kernel
theorem dX1_strides_1 : decode cX1_strides 1 = .ok (.getfield 16, 3) := by decide +kernel
theorem dX1_strides_4 : decode cX1_strides 4 = .ok (.iconst 3, 1) := by decide +kernel
theorem dX1_strides_5 : decode cX1_strides 5 = .ok (.aaload, 1) := by decide +kernel
theorem dX1_strides_6 : decode cX1_strides 6 = .ok (.iload_n 1, 1) := by decide +kernel
theorem dX1_strides_7 : decode cX1_strides 7 = .ok (.iaload, 1) := by decide +kernel
theorem dX1_strides_8 : decode cX1_strides 8 = .ok (.istore_n 2, 1) := by decide +kernel
theorem dX1_strides_9 : decode cX1_strides 9 = .ok (.iload_n 2, 1) := by decide +kernel
theorem dX1_strides_10 : decode cX1_strides 10 = .ok (.aload_n 0, 1) := by decide +kernel
theorem dX1_strides_11 : decode cX1_strides 11 = .ok (.getfield 42, 3) := by decide +kernel
theorem dX1_strides_14 : decode cX1_strides 14 = .ok (.iconst 2, 1) := by decide +kernel
theorem dX1_strides_15 : decode cX1_strides 15 = .ok (.irem, 1) := by decide +kernel
theorem dX1_strides_16 : decode cX1_strides 16 = .ok (.iadd, 1) := by decide +kernel
theorem dX1_strides_17 : decode cX1_strides 17 = .ok (.istore_n 3, 1) := by decide +kernel
theorem dX1_strides_18 : decode cX1_strides 18 = .ok (.iconst 1, 1) := by decide +kernel
theorem dX1_strides_19 : decode cX1_strides 19 = .ok (.iload_n 2, 1) := by decide +kernel
theorem dX1_strides_20 : decode cX1_strides 20 = .ok (.iconst 2, 1) := by decide +kernel
theorem dX1_strides_21 : decode cX1_strides 21 = .ok (.idiv, 1) := by decide +kernel
theorem dX1_strides_22 : decode cX1_strides 22 = .ok (.iadd, 1) := by decide +kernel
theorem dX1_strides_23 : decode cX1_strides 23 = .ok (.istore 4, 2) := by decide +kernel
theorem dX1_strides_25 : decode cX1_strides 25 = .ok (.aload_n 0, 1) := by decide +kernel
theorem dX1_strides_26 : decode cX1_strides 26 = .ok (.getfield 16, 3) := by decide +kernel
theorem dX1_strides_29 : decode cX1_strides 29 = .ok (.iconst 0, 1) := by decide +kernel
theorem dX1_strides_30 : decode cX1_strides 30 = .ok (.aaload, 1) := by decide +kernel
theorem dX1_strides_31 : decode cX1_strides 31 = .ok (.iload_n 1, 1) := by decide +kernel
theorem dX1_strides_32 : decode cX1_strides 32 = .ok (.iaload, 1) := by decide +kernel
theorem dX1_strides_33 : decode cX1_strides 33 = .ok (.tableswitch 55 1 6 #[39, 45, 47, 50, 55, 41], 39) := by decide +kernel
theorem dX1_strides_72 : decode cX1_strides 72 = .ok (.iload_n 3, 1) := by decide +kernel
theorem dX1_strides_73 : decode cX1_strides 73 = .ok (.ireturn, 1) := by decide +kernel
theorem dX1_strides_74 : decode cX1_strides 74 = .ok (.iconst 2, 1) := by decide +kernel
theorem dX1_strides_75 : decode cX1_strides 75 = .ok (.iload_n 3, 1) := by decide +kernel
theorem dX1_strides_76 : decode cX1_strides 76 = .ok (.imul, 1) := by decide +kernel
theorem dX1_strides_77 : decode cX1_strides 77 = .ok (.ireturn, 1) := by decide +kernel
theorem dX1_strides_78 : decode cX1_strides 78 = .ok (.iconst 1, 1) := by decide +kernel
theorem dX1_strides_79 : decode cX1_strides 79 = .ok (.ireturn, 1) := by decide +kernel
theorem dX1_strides_80 : decode cX1_strides 80 = .ok (.iload 4, 2) := by decide +kernel
theorem dX1_strides_82 : decode cX1_strides 82 = .ok (.ireturn, 1) := by decide +kernel
theorem dX1_strides_83 : decode cX1_strides 83 = .ok (.iload 4, 2) := by decide +kernel
theorem dX1_strides_85 : decode cX1_strides 85 = .ok (.iconst 2, 1) := by decide +kernel
theorem dX1_strides_86 : decode cX1_strides 86 = .ok (.iadd, 1) := by decide +kernel
theorem dX1_strides_87 : decode cX1_strides 87 = .ok (.ireturn, 1) := by decide +kernel
theorem dX1_strides_88 : decode cX1_strides 88 = .ok (.iload_n 2, 1) := by decide +kernel
theorem dX1_strides_89 : decode cX1_strides 89 = .ok (.ireturn, 1) := by decide +kernel
theorem dX1_presses_0 : decode cX1_presses 0 = .ok (.aload_n 0, 1) := by decide +kernel
theorem dX1_presses_1 : decode cX1_presses 1 = .ok (.getfield 16, 3) := by decide +kernel
theorem dX1_presses_4 : decode cX1_presses 4 = .ok (.iconst 4, 1) := by decide +kernel
theorem dX1_presses_5 : decode cX1_presses 5 = .ok (.aaload, 1) := by decide +kernel
theorem dX1_presses_6 : decode cX1_presses 6 = .ok (.iload_n 1, 1) := by decide +kernel
theorem dX1_presses_7 : decode cX1_presses 7 = .ok (.iaload, 1) := by decide +kernel
theorem dX1_presses_8 : decode cX1_presses 8 = .ok (.istore_n 2, 1) := by decide +kernel
theorem dX1_presses_9 : decode cX1_presses 9 = .ok (.iload_n 2, 1) := by decide +kernel
theorem dX1_presses_10 : decode cX1_presses 10 = .ok (.iconst 3, 1) := by decide +kernel
theorem dX1_presses_11 : decode cX1_presses 11 = .ok (.iadd, 1) := by decide +kernel
theorem dX1_presses_12 : decode cX1_presses 12 = .ok (.iconst 1, 1) := by decide +kernel
theorem dX1_presses_13 : decode cX1_presses 13 = .ok (.iadd, 1) := by decide +kernel
theorem dX1_presses_14 : decode cX1_presses 14 = .ok (.istore_n 3, 1) := by decide +kernel
theorem dX1_presses_15 : decode cX1_presses 15 = .ok (.aload_n 0, 1) := by decide +kernel
theorem dX1_presses_16 : decode cX1_presses 16 = .ok (.getfield 16, 3) := by decide +kernel
theorem dX1_presses_19 : decode cX1_presses 19 = .ok (.iconst 0, 1) := by decide +kernel
theorem dX1_presses_20 : decode cX1_presses 20 = .ok (.aaload, 1) := by decide +kernel
theorem dX1_presses_21 : decode cX1_presses 21 = .ok (.iload_n 1, 1) := by decide +kernel
theorem dX1_presses_22 : decode cX1_presses 22 = .ok (.iaload, 1) := by decide +kernel
theorem dX1_presses_23 : decode cX1_presses 23 = .ok (.tableswitch 94 1 6 #[37, 51, 60, 67, 92, 41], 37) := by decide +kernel
theorem dX1_presses_60 : decode cX1_presses 60 = .ok (.iload_n 2, 1) := by decide +kernel
theorem dX1_presses_61 : decode cX1_presses 61 = .ok (.iconst 2, 1) := by decide +kernel
theorem dX1_presses_62 : decode cX1_presses 62 = .ok (.idiv, 1) := by decide +kernel
theorem dX1_presses_63 : decode cX1_presses 63 = .ok (.ireturn, 1) := by decide +kernel
theorem dX1_presses_64 : decode cX1_presses 64 = .ok (.iconst 0, 1) := by decide +kernel
theorem dX1_presses_65 : decode cX1_presses 65 = .ok (.iload_n 2, 1) := by decide +kernel
theorem dX1_presses_66 : decode cX1_presses 66 = .ok (.iconst 2, 1) := by decide +kernel
theorem dX1_presses_67 : decode cX1_presses 67 = .ok (.idiv, 1) := by decide +kernel
theorem dX1_presses_68 : decode cX1_presses 68 = .ok (.iconst 1, 1) := by decide +kernel
theorem dX1_presses_69 : decode cX1_presses 69 = .ok (.isub, 1) := by decide +kernel
theorem dX1_presses_70 : decode cX1_presses 70 = .ok (.invokestatic 53, 3) := by decide +kernel
theorem dX1_presses_73 : decode cX1_presses 73 = .ok (.ireturn, 1) := by decide +kernel
theorem dX1_presses_74 : decode cX1_presses 74 = .ok (.bipush 9, 2) := by decide +kernel
theorem dX1_presses_76 : decode cX1_presses 76 = .ok (.iload_n 2, 1) := by decide +kernel
theorem dX1_presses_77 : decode cX1_presses 77 = .ok (.iconst 3, 1) := by decide +kernel
theorem dX1_presses_78 : decode cX1_presses 78 = .ok (.iadd, 1) := by decide +kernel
theorem dX1_presses_79 : decode cX1_presses 79 = .ok (.invokestatic 59, 3) := by decide +kernel
theorem dX1_presses_82 : decode cX1_presses 82 = .ok (.ireturn, 1) := by decide +kernel
theorem dX1_presses_83 : decode cX1_presses 83 = .ok (.bipush 9, 2) := by decide +kernel
theorem dX1_presses_85 : decode cX1_presses 85 = .ok (.iload_n 3, 1) := by decide +kernel
theorem dX1_presses_86 : decode cX1_presses 86 = .ok (.invokestatic 59, 3) := by decide +kernel
theorem dX1_presses_89 : decode cX1_presses 89 = .ok (.ireturn, 1) := by decide +kernel
theorem dX1_presses_90 : decode cX1_presses 90 = .ok (.bipush 9, 2) := by decide +kernel
theorem dX1_presses_92 : decode cX1_presses 92 = .ok (.aload_n 0, 1) := by decide +kernel
theorem dX1_presses_93 : decode cX1_presses 93 = .ok (.getfield 16, 3) := by decide +kernel
theorem dX1_presses_96 : decode cX1_presses 96 = .ok (.iconst 3, 1) := by decide +kernel
theorem dX1_presses_97 : decode cX1_presses 97 = .ok (.aaload, 1) := by decide +kernel
theorem dX1_presses_98 : decode cX1_presses 98 = .ok (.iload_n 1, 1) := by decide +kernel
theorem dX1_presses_99 : decode cX1_presses 99 = .ok (.iaload, 1) := by decide +kernel
theorem dX1_presses_100 : decode cX1_presses 100 = .ok (.iconst 3, 1) := by decide +kernel
theorem dX1_presses_101 : decode cX1_presses 101 = .ok (.if_icmp .le 7, 3) := by decide +kernel
theorem dX1_presses_104 : decode cX1_presses 104 = .ok (.iload_n 3, 1) := by decide +kernel
theorem dX1_presses_105 : decode cX1_presses 105 = .ok (.goto 6, 3) := by decide +kernel
theorem dX1_presses_108 : decode cX1_presses 108 = .ok (.iload_n 3, 1) := by decide +kernel
theorem dX1_presses_109 : decode cX1_presses 109 = .ok (.iconst 2, 1) := by decide +kernel
theorem dX1_presses_110 : decode cX1_presses 110 = .ok (.isub, 1) := by decide +kernel
theorem dX1_presses_111 : decode cX1_presses 111 = .ok (.invokestatic 59, 3) := by decide +kernel
theorem dX1_presses_114 : decode cX1_presses 114 = .ok (.ireturn, 1) := by decide +kernel
theorem dX1_presses_115 : decode cX1_presses 115 = .ok (.iconst 1, 1) := by decide +kernel
theorem dX1_presses_116 : decode cX1_presses 116 = .ok (.ireturn, 1) := by decide +kernel
theorem dX1_presses_117 : decode cX1_presses 117 = .ok (.iload_n 2, 1) := by decide +kernel
theorem dX1_presses_118 : decode cX1_presses 118 = .ok (.ireturn, 1) := by decide +kernel
theorem dX1_looks_0 : decode cX1_looks 0 = .ok (.aload_n 0, 1) := by decide +kernel
theorem dX1_looks_1 : decode cX1_looks 1 = .ok (.getfield 16, 3) := by decide +kernel
theorem dX1_looks_4 : decode cX1_looks 4 = .ok (.iconst 2, 1) := by decide +kernel
theorem dX1_looks_5 : decode cX1_looks 5 = .ok (.aaload, 1) := by decide +kernel
theorem dX1_looks_6 : decode cX1_looks 6 = .ok (.iload_n 1, 1) := by decide +kernel
theorem dX1_looks_7 : decode cX1_looks 7 = .ok (.iaload, 1) := by decide +kernel
theorem dX1_looks_8 : decode cX1_looks 8 = .ok (.istore_n 2, 1) := by decide +kernel
theorem dX1_looks_9 : decode cX1_looks 9 = .ok (.aload_n 0, 1) := by decide +kernel
theorem dX1_looks_10 : decode cX1_looks 10 = .ok (.getfield 16, 3) := by decide +kernel
theorem dX1_looks_13 : decode cX1_looks 13 = .ok (.iconst 0, 1) := by decide +kernel
theorem dX1_looks_14 : decode cX1_looks 14 = .ok (.aaload, 1) := by decide +kernel
theorem dX1_looks_15 : decode cX1_looks 15 = .ok (.iload_n 1, 1) := by decide +kernel
theorem dX1_looks_16 : decode cX1_looks 16 = .ok (.iaload, 1) := by decide +kernel
theorem dX1_looks_17 : decode cX1_looks 17 = .ok (.iconst 5, 1) := by decide +kernel
theorem dX1_looks_18 : decode cX1_looks 18 = .ok (.if_icmp .ne 9, 3) := by decide +kernel
theorem dX1_looks_21 : decode cX1_looks 21 = .ok (.iconst 1, 1) := by decide +kernel
theorem dX1_looks_22 : decode cX1_looks 22 = .ok (.iload_n 2, 1) := by decide +kernel
theorem dX1_looks_23 : decode cX1_looks 23 = .ok (.isub, 1) := by decide +kernel
theorem dX1_looks_24 : decode cX1_looks 24 = .ok (.goto 4, 3) := by decide +kernel
theorem dX1_looks_27 : decode cX1_looks 27 = .ok (.iload_n 2, 1) := by decide +kernel
theorem dX1_looks_28 : decode cX1_looks 28 = .ok (.ireturn, 1) := by decide +kernel
theorem dX1_passHours_0 : decode cX1_passHours 0 = .ok (.iconst 0, 1) := by decide +kernel
theorem dX1_passHours_1 : decode cX1_passHours 1 = .ok (.istore_n 3, 1) := by decide +kernel
theorem dX1_passHours_2 : decode cX1_passHours 2 = .ok (.iload_n 3, 1) := by decide +kernel
theorem dX1_passHours_3 : decode cX1_passHours 3 = .ok (.iload_n 1, 1) := by decide +kernel
theorem dX1_passHours_4 : decode cX1_passHours 4 = .ok (.if_icmp .ge 14, 3) := by decide +kernel
theorem dX1_passHours_7 : decode cX1_passHours 7 = .ok (.aload_n 0, 1) := by decide +kernel
theorem dX1_passHours_8 : decode cX1_passHours 8 = .ok (.iload_n 2, 1) := by decide +kernel
theorem dX1_passHours_9 : decode cX1_passHours 9 = .ok (.invokevirtual 62, 3) := by decide +kernel
theorem dX1_passHours_12 : decode cX1_passHours 12 = .ok (.iinc 3 1, 3) := by decide +kernel
theorem dX1_passHours_15 : decode cX1_passHours 15 = .ok (.goto (-13), 3) := by decide +kernel
theorem dX1_passHours_18 : decode cX1_passHours 18 = .ok (.return_, 1) := by decide +kernel
theorem dX1_passHour_0 : decode cX1_passHour 0 = .ok (.iconst 0, 1) := by decide +kernel
theorem dX1_passHour_1 : decode cX1_passHour 1 = .ok (.istore_n 2, 1) := by decide +kernel
theorem dX1_passHour_2 : decode cX1_passHour 2 = .ok (.iload_n 2, 1) := by decide +kernel
theorem dX1_passHour_3 : decode cX1_passHour 3 = .ok (.aload_n 0, 1) := by decide +kernel
theorem dX1_passHour_4 : decode cX1_passHour 4 = .ok (.getfield 36, 3) := by decide +kernel
theorem dX1_passHour_7 : decode cX1_passHour 7 = .ok (.if_icmp .ge 22, 3) := by decide +kernel
theorem dX1_passHour_10 : decode cX1_passHour 10 = .ok (.iload_n 1, 1) := by decide +kernel
theorem dX1_passHour_11 : decode cX1_passHour 11 = .ok (.iload_n 2, 1) := by decide +kernel
theorem dX1_passHour_12 : decode cX1_passHour 12 = .ok (.ishr, 1) := by decide +kernel
theorem dX1_passHour_13 : decode cX1_passHour 13 = .ok (.iconst 1, 1) := by decide +kernel
theorem dX1_passHour_14 : decode cX1_passHour 14 = .ok (.iand, 1) := by decide +kernel
theorem dX1_passHour_15 : decode cX1_passHour 15 = .ok (.ifCond .ne 8, 3) := by decide +kernel
theorem dX1_passHour_18 : decode cX1_passHour 18 = .ok (.aload_n 0, 1) := by decide +kernel
theorem dX1_passHour_19 : decode cX1_passHour 19 = .ok (.iload_n 2, 1) := by decide +kernel
theorem dX1_passHour_20 : decode cX1_passHour 20 = .ok (.invokevirtual 66, 3) := by decide +kernel
theorem dX1_passHour_23 : decode cX1_passHour 23 = .ok (.iinc 2 1, 3) := by decide +kernel
theorem dX1_passHour_26 : decode cX1_passHour 26 = .ok (.goto (-24), 3) := by decide +kernel
theorem dX1_passHour_29 : decode cX1_passHour 29 = .ok (.aload_n 0, 1) := by decide +kernel
theorem dX1_passHour_30 : decode cX1_passHour 30 = .ok (.ldc 69, 2) := by decide +kernel
theorem dX1_passHour_32 : decode cX1_passHour 32 = .ok (.aload_n 0, 1) := by decide +kernel
theorem dX1_passHour_33 : decode cX1_passHour 33 = .ok (.getfield 42, 3) := by decide +kernel
theorem dX1_passHour_36 : decode cX1_passHour 36 = .ok (.iconst 1, 1) := by decide +kernel
theorem dX1_passHour_37 : decode cX1_passHour 37 = .ok (.iadd, 1) := by decide +kernel
theorem dX1_passHour_38 : decode cX1_passHour 38 = .ok (.invokestatic 59, 3) := by decide +kernel
theorem dX1_passHour_41 : decode cX1_passHour 41 = .ok (.putfield 42, 3) := by decide +kernel
theorem dX1_passHour_44 : decode cX1_passHour 44 = .ok (.aload_n 0, 1) := by decide +kernel
theorem dX1_passHour_45 : decode cX1_passHour 45 = .ok (.getfield 42, 3) := by decide +kernel
theorem dX1_passHour_48 : decode cX1_passHour 48 = .ok (.bipush 6, 2) := by decide +kernel
theorem dX1_passHour_50 : decode cX1_passHour 50 = .ok (.irem, 1) := by decide +kernel
theorem dX1_passHour_51 : decode cX1_passHour 51 = .ok (.ifCond .ne 8, 3) := by decide +kernel
theorem dX1_passHour_54 : decode cX1_passHour 54 = .ok (.aload_n 0, 1) := by decide +kernel
theorem dX1_passHour_55 : decode cX1_passHour 55 = .ok (.invokevirtual 70, 3) := by decide +kernel
theorem dX1_passHour_58 : decode cX1_passHour 58 = .ok (.pop, 1) := by decide +kernel
theorem dX1_passHour_59 : decode cX1_passHour 59 = .ok (.return_, 1) := by decide +kernel
theorem dX1_goOn_0 : decode cX1_goOn 0 = .ok (.aload_n 0, 1) := by decide +kernel
theorem dX1_goOn_1 : decode cX1_goOn 1 = .ok (.getfield 16, 3) := by decide +kernel
theorem dX1_goOn_4 : decode cX1_goOn 4 = .ok (.iconst 2, 1) := by decide +kernel
theorem dX1_goOn_5 : decode cX1_goOn 5 = .ok (.aaload, 1) := by decide +kernel
theorem dX1_goOn_6 : decode cX1_goOn 6 = .ok (.iload_n 1, 1) := by decide +kernel
theorem dX1_goOn_7 : decode cX1_goOn 7 = .ok (.iaload, 1) := by decide +kernel
theorem dX1_goOn_8 : decode cX1_goOn 8 = .ok (.istore_n 2, 1) := by decide +kernel
theorem dX1_goOn_9 : decode cX1_goOn 9 = .ok (.aload_n 0, 1) := by decide +kernel
theorem dX1_goOn_10 : decode cX1_goOn 10 = .ok (.getfield 16, 3) := by decide +kernel
theorem dX1_goOn_13 : decode cX1_goOn 13 = .ok (.iconst 1, 1) := by decide +kernel
theorem dX1_goOn_14 : decode cX1_goOn 14 = .ok (.aaload, 1) := by decide +kernel
theorem dX1_goOn_15 : decode cX1_goOn 15 = .ok (.iload_n 1, 1) := by decide +kernel
theorem dX1_goOn_16 : decode cX1_goOn 16 = .ok (.iaload, 1) := by decide +kernel
theorem dX1_goOn_17 : decode cX1_goOn 17 = .ok (.iload_n 2, 1) := by decide +kernel
theorem dX1_goOn_18 : decode cX1_goOn 18 = .ok (.iconst 1, 1) := by decide +kernel
theorem dX1_goOn_19 : decode cX1_goOn 19 = .ok (.if_icmp .ne 11, 3) := by decide +kernel
theorem dX1_goOn_22 : decode cX1_goOn 22 = .ok (.aload_n 0, 1) := by decide +kernel
theorem dX1_goOn_23 : decode cX1_goOn 23 = .ok (.iload_n 1, 1) := by decide +kernel
theorem dX1_goOn_24 : decode cX1_goOn 24 = .ok (.invokevirtual 74, 3) := by decide +kernel
theorem dX1_goOn_27 : decode cX1_goOn 27 = .ok (.goto 9, 3) := by decide +kernel
theorem dX1_goOn_30 : decode cX1_goOn 30 = .ok (.aload_n 0, 1) := by decide +kernel
theorem dX1_goOn_31 : decode cX1_goOn 31 = .ok (.iload_n 1, 1) := by decide +kernel
theorem dX1_goOn_32 : decode cX1_goOn 32 = .ok (.invokevirtual 74, 3) := by decide +kernel
theorem dX1_goOn_35 : decode cX1_goOn 35 = .ok (.ineg, 1) := by decide +kernel
theorem dX1_goOn_36 : decode cX1_goOn 36 = .ok (.iadd, 1) := by decide +kernel
theorem dX1_goOn_37 : decode cX1_goOn 37 = .ok (.istore_n 3, 1) := by decide +kernel
theorem dX1_goOn_38 : decode cX1_goOn 38 = .ok (.iconst 0, 1) := by decide +kernel
theorem dX1_goOn_39 : decode cX1_goOn 39 = .ok (.bipush 23, 2) := by decide +kernel
theorem dX1_goOn_41 : decode cX1_goOn 41 = .ok (.iload_n 3, 1) := by decide +kernel
theorem dX1_goOn_42 : decode cX1_goOn 42 = .ok (.invokestatic 59, 3) := by decide +kernel
theorem dX1_goOn_45 : decode cX1_goOn 45 = .ok (.invokestatic 53, 3) := by decide +kernel
theorem dX1_goOn_48 : decode cX1_goOn 48 = .ok (.istore 4, 2) := by decide +kernel
theorem dX1_goOn_50 : decode cX1_goOn 50 = .ok (.aload_n 0, 1) := by decide +kernel
theorem dX1_goOn_51 : decode cX1_goOn 51 = .ok (.getfield 11, 3) := by decide +kernel
theorem dX1_goOn_54 : decode cX1_goOn 54 = .ok (.iconst 0, 1) := by decide +kernel
theorem dX1_goOn_55 : decode cX1_goOn 55 = .ok (.aaload, 1) := by decide +kernel
theorem dX1_goOn_56 : decode cX1_goOn 56 = .ok (.iload 4, 2) := by decide +kernel
theorem dX1_goOn_58 : decode cX1_goOn 58 = .ok (.iaload, 1) := by decide +kernel
theorem dX1_goOn_59 : decode cX1_goOn 59 = .ok (.iconst (-1), 1) := by decide +kernel
theorem dX1_goOn_60 : decode cX1_goOn 60 = .ok (.if_icmp .eq 31, 3) := by decide +kernel
theorem dX1_goOn_63 : decode cX1_goOn 63 = .ok (.aload_n 0, 1) := by decide +kernel
theorem dX1_goOn_64 : decode cX1_goOn 64 = .ok (.getfield 11, 3) := by decide +kernel
theorem dX1_goOn_67 : decode cX1_goOn 67 = .ok (.iconst 0, 1) := by decide +kernel
theorem dX1_goOn_68 : decode cX1_goOn 68 = .ok (.aaload, 1) := by decide +kernel
theorem dX1_goOn_69 : decode cX1_goOn 69 = .ok (.iload 4, 2) := by decide +kernel
theorem dX1_goOn_71 : decode cX1_goOn 71 = .ok (.iaload, 1) := by decide +kernel
theorem dX1_goOn_72 : decode cX1_goOn 72 = .ok (.iload_n 1, 1) := by decide +kernel
theorem dX1_goOn_73 : decode cX1_goOn 73 = .ok (.if_icmp .eq 18, 3) := by decide +kernel
theorem dX1_goOn_76 : decode cX1_goOn 76 = .ok (.aload_n 0, 1) := by decide +kernel
theorem dX1_goOn_77 : decode cX1_goOn 77 = .ok (.ldc 69, 2) := by decide +kernel
theorem dX1_goOn_79 : decode cX1_goOn 79 = .ok (.aload_n 0, 1) := by decide +kernel
theorem dX1_goOn_80 : decode cX1_goOn 80 = .ok (.getfield 39, 3) := by decide +kernel
theorem dX1_goOn_83 : decode cX1_goOn 83 = .ok (.iconst 1, 1) := by decide +kernel
theorem dX1_goOn_84 : decode cX1_goOn 84 = .ok (.iadd, 1) := by decide +kernel
theorem dX1_goOn_85 : decode cX1_goOn 85 = .ok (.invokestatic 59, 3) := by decide +kernel
theorem dX1_goOn_88 : decode cX1_goOn 88 = .ok (.putfield 39, 3) := by decide +kernel
theorem dX1_goOn_91 : decode cX1_goOn 91 = .ok (.aload_n 0, 1) := by decide +kernel
theorem dX1_goOn_92 : decode cX1_goOn 92 = .ok (.iload 4, 2) := by decide +kernel
theorem dX1_goOn_94 : decode cX1_goOn 94 = .ok (.iload_n 1, 1) := by decide +kernel
theorem dX1_goOn_95 : decode cX1_goOn 95 = .ok (.aload_n 0, 1) := by decide +kernel
theorem dX1_goOn_96 : decode cX1_goOn 96 = .ok (.iload_n 1, 1) := by decide +kernel
theorem dX1_goOn_97 : decode cX1_goOn 97 = .ok (.invokevirtual 78, 3) := by decide +kernel
theorem dX1_goOn_100 : decode cX1_goOn 100 = .ok (.aload_n 0, 1) := by decide +kernel
theorem dX1_goOn_101 : decode cX1_goOn 101 = .ok (.iload_n 1, 1) := by decide +kernel
theorem dX1_goOn_102 : decode cX1_goOn 102 = .ok (.invokevirtual 81, 3) := by decide +kernel
theorem dX1_goOn_105 : decode cX1_goOn 105 = .ok (.invokevirtual 49, 3) := by decide +kernel
theorem dX1_goOn_108 : decode cX1_goOn 108 = .ok (.aload_n 0, 1) := by decide +kernel
theorem dX1_goOn_109 : decode cX1_goOn 109 = .ok (.getfield 16, 3) := by decide +kernel
theorem dX1_goOn_112 : decode cX1_goOn 112 = .ok (.iconst 1, 1) := by decide +kernel
theorem dX1_goOn_113 : decode cX1_goOn 113 = .ok (.aaload, 1) := by decide +kernel
theorem dX1_goOn_114 : decode cX1_goOn 114 = .ok (.iload_n 1, 1) := by decide +kernel
theorem dX1_goOn_115 : decode cX1_goOn 115 = .ok (.iload 4, 2) := by decide +kernel
theorem dX1_goOn_117 : decode cX1_goOn 117 = .ok (.iastore, 1) := by decide +kernel
theorem dX1_goOn_118 : decode cX1_goOn 118 = .ok (.iload 4, 2) := by decide +kernel
theorem dX1_goOn_120 : decode cX1_goOn 120 = .ok (.iload_n 3, 1) := by decide +kernel
theorem dX1_goOn_121 : decode cX1_goOn 121 = .ok (.if_icmp .eq 14, 3) := by decide +kernel
theorem dX1_goOn_124 : decode cX1_goOn 124 = .ok (.aload_n 0, 1) := by decide +kernel
theorem dX1_goOn_125 : decode cX1_goOn 125 = .ok (.getfield 16, 3) := by decide +kernel
theorem dX1_goOn_128 : decode cX1_goOn 128 = .ok (.iconst 2, 1) := by decide +kernel
theorem dX1_goOn_129 : decode cX1_goOn 129 = .ok (.aaload, 1) := by decide +kernel
theorem dX1_goOn_130 : decode cX1_goOn 130 = .ok (.iload_n 1, 1) := by decide +kernel
theorem dX1_goOn_131 : decode cX1_goOn 131 = .ok (.iconst 1, 1) := by decide +kernel
theorem dX1_goOn_132 : decode cX1_goOn 132 = .ok (.iload_n 2, 1) := by decide +kernel
theorem dX1_goOn_133 : decode cX1_goOn 133 = .ok (.isub, 1) := by decide +kernel
theorem dX1_goOn_134 : decode cX1_goOn 134 = .ok (.iastore, 1) := by decide +kernel
theorem dX1_goOn_135 : decode cX1_goOn 135 = .ok (.aload_n 0, 1) := by decide +kernel
theorem dX1_goOn_136 : decode cX1_goOn 136 = .ok (.getfield 16, 3) := by decide +kernel
theorem dX1_goOn_139 : decode cX1_goOn 139 = .ok (.iconst 5, 1) := by decide +kernel
theorem dX1_goOn_140 : decode cX1_goOn 140 = .ok (.aaload, 1) := by decide +kernel
theorem dX1_goOn_141 : decode cX1_goOn 141 = .ok (.iload_n 1, 1) := by decide +kernel
theorem dX1_goOn_142 : decode cX1_goOn 142 = .ok (.ldc 69, 2) := by decide +kernel
theorem dX1_goOn_144 : decode cX1_goOn 144 = .ok (.aload_n 0, 1) := by decide +kernel
theorem dX1_goOn_145 : decode cX1_goOn 145 = .ok (.getfield 16, 3) := by decide +kernel
theorem dX1_goOn_148 : decode cX1_goOn 148 = .ok (.iconst 5, 1) := by decide +kernel
theorem dX1_goOn_149 : decode cX1_goOn 149 = .ok (.aaload, 1) := by decide +kernel
theorem dX1_goOn_150 : decode cX1_goOn 150 = .ok (.iload_n 1, 1) := by decide +kernel
theorem dX1_goOn_151 : decode cX1_goOn 151 = .ok (.iaload, 1) := by decide +kernel
theorem dX1_goOn_152 : decode cX1_goOn 152 = .ok (.iconst 1, 1) := by decide +kernel
theorem dX1_goOn_153 : decode cX1_goOn 153 = .ok (.iadd, 1) := by decide +kernel
theorem dX1_goOn_154 : decode cX1_goOn 154 = .ok (.invokestatic 59, 3) := by decide +kernel
theorem dX1_goOn_157 : decode cX1_goOn 157 = .ok (.iastore, 1) := by decide +kernel
theorem dX1_goOn_158 : decode cX1_goOn 158 = .ok (.return_, 1) := by decide +kernel
theorem dX1_comeTide_0 : decode cX1_comeTide 0 = .ok (.iconst 0, 1) := by decide +kernel
theorem dX1_comeTide_1 : decode cX1_comeTide 1 = .ok (.istore_n 1, 1) := by decide +kernel
theorem dX1_comeTide_2 : decode cX1_comeTide 2 = .ok (.iconst 0, 1) := by decide +kernel
theorem dX1_comeTide_3 : decode cX1_comeTide 3 = .ok (.istore_n 2, 1) := by decide +kernel
theorem dX1_comeTide_4 : decode cX1_comeTide 4 = .ok (.iload_n 2, 1) := by decide +kernel
theorem dX1_comeTide_5 : decode cX1_comeTide 5 = .ok (.aload_n 0, 1) := by decide +kernel
theorem dX1_comeTide_6 : decode cX1_comeTide 6 = .ok (.getfield 23, 3) := by decide +kernel
theorem dX1_comeTide_9 : decode cX1_comeTide 9 = .ok (.if_icmp .ge 63, 3) := by decide +kernel
theorem dX1_comeTide_12 : decode cX1_comeTide 12 = .ok (.iload_n 2, 1) := by decide +kernel
theorem dX1_comeTide_13 : decode cX1_comeTide 13 = .ok (.bipush 24, 2) := by decide +kernel
theorem dX1_comeTide_15 : decode cX1_comeTide 15 = .ok (.if_icmp .ge 57, 3) := by decide +kernel
theorem dX1_comeTide_18 : decode cX1_comeTide 18 = .ok (.aload_n 0, 1) := by decide +kernel
theorem dX1_comeTide_19 : decode cX1_comeTide 19 = .ok (.getfield 11, 3) := by decide +kernel
theorem dX1_comeTide_22 : decode cX1_comeTide 22 = .ok (.iconst 1, 1) := by decide +kernel
theorem dX1_comeTide_23 : decode cX1_comeTide 23 = .ok (.aaload, 1) := by decide +kernel
theorem dX1_comeTide_24 : decode cX1_comeTide 24 = .ok (.iload_n 2, 1) := by decide +kernel
theorem dX1_comeTide_25 : decode cX1_comeTide 25 = .ok (.iaload, 1) := by decide +kernel
theorem dX1_comeTide_26 : decode cX1_comeTide 26 = .ok (.bipush 8, 2) := by decide +kernel
theorem dX1_comeTide_28 : decode cX1_comeTide 28 = .ok (.if_icmp .lt 18, 3) := by decide +kernel
theorem dX1_comeTide_31 : decode cX1_comeTide 31 = .ok (.aload_n 0, 1) := by decide +kernel
theorem dX1_comeTide_32 : decode cX1_comeTide 32 = .ok (.getfield 11, 3) := by decide +kernel
theorem dX1_comeTide_35 : decode cX1_comeTide 35 = .ok (.iconst 1, 1) := by decide +kernel
theorem dX1_comeTide_36 : decode cX1_comeTide 36 = .ok (.aaload, 1) := by decide +kernel
theorem dX1_comeTide_37 : decode cX1_comeTide 37 = .ok (.iload_n 2, 1) := by decide +kernel
theorem dX1_comeTide_38 : decode cX1_comeTide 38 = .ok (.dup2, 1) := by decide +kernel
theorem dX1_comeTide_39 : decode cX1_comeTide 39 = .ok (.iaload, 1) := by decide +kernel
theorem dX1_comeTide_40 : decode cX1_comeTide 40 = .ok (.iconst 1, 1) := by decide +kernel
theorem dX1_comeTide_41 : decode cX1_comeTide 41 = .ok (.isub, 1) := by decide +kernel
theorem dX1_comeTide_42 : decode cX1_comeTide 42 = .ok (.iastore, 1) := by decide +kernel
theorem dX1_comeTide_43 : decode cX1_comeTide 43 = .ok (.goto 23, 3) := by decide +kernel
theorem dX1_comeTide_46 : decode cX1_comeTide 46 = .ok (.aload_n 0, 1) := by decide +kernel
theorem dX1_comeTide_47 : decode cX1_comeTide 47 = .ok (.getfield 11, 3) := by decide +kernel
theorem dX1_comeTide_50 : decode cX1_comeTide 50 = .ok (.iconst 0, 1) := by decide +kernel
theorem dX1_comeTide_51 : decode cX1_comeTide 51 = .ok (.aaload, 1) := by decide +kernel
theorem dX1_comeTide_52 : decode cX1_comeTide 52 = .ok (.iload_n 2, 1) := by decide +kernel
theorem dX1_comeTide_53 : decode cX1_comeTide 53 = .ok (.iaload, 1) := by decide +kernel
theorem dX1_comeTide_54 : decode cX1_comeTide 54 = .ok (.iconst (-1), 1) := by decide +kernel
theorem dX1_comeTide_55 : decode cX1_comeTide 55 = .ok (.if_icmp .eq 11, 3) := by decide +kernel
theorem dX1_comeTide_58 : decode cX1_comeTide 58 = .ok (.aload_n 0, 1) := by decide +kernel
theorem dX1_comeTide_59 : decode cX1_comeTide 59 = .ok (.iload_n 2, 1) := by decide +kernel
theorem dX1_comeTide_60 : decode cX1_comeTide 60 = .ok (.invokevirtual 84, 3) := by decide +kernel
theorem dX1_comeTide_63 : decode cX1_comeTide 63 = .ok (.iinc 1 1, 3) := by decide +kernel
theorem dX1_comeTide_66 : decode cX1_comeTide 66 = .ok (.iinc 2 1, 3) := by decide +kernel
theorem dX1_comeTide_69 : decode cX1_comeTide 69 = .ok (.goto (-65), 3) := by decide +kernel
theorem dX1_comeTide_72 : decode cX1_comeTide 72 = .ok (.iload_n 1, 1) := by decide +kernel
theorem dX1_comeTide_73 : decode cX1_comeTide 73 = .ok (.ireturn, 1) := by decide +kernel
theorem dX1_passDrawnHour_0 : decode cX1_passDrawnHour 0 = .ok (.aload_n 0, 1) := by decide +kernel
theorem dX1_passDrawnHour_1 : decode cX1_passDrawnHour 1 = .ok (.aload_n 0, 1) := by decide +kernel
theorem dX1_passDrawnHour_2 : decode cX1_passDrawnHour 2 = .ok (.invokevirtual 87, 3) := by decide +kernel
theorem dX1_passDrawnHour_5 : decode cX1_passDrawnHour 5 = .ok (.bipush 25, 2) := by decide +kernel
theorem dX1_passDrawnHour_7 : decode cX1_passDrawnHour 7 = .ok (.irem, 1) := by decide +kernel
theorem dX1_passDrawnHour_8 : decode cX1_passDrawnHour 8 = .ok (.putfield 23, 3) := by decide +kernel
theorem dX1_passDrawnHour_11 : decode cX1_passDrawnHour 11 = .ok (.aload_n 0, 1) := by decide +kernel
theorem dX1_passDrawnHour_12 : decode cX1_passDrawnHour 12 = .ok (.invokevirtual 87, 3) := by decide +kernel
theorem dX1_passDrawnHour_15 : decode cX1_passDrawnHour 15 = .ok (.bipush 8, 2) := by decide +kernel
theorem dX1_passDrawnHour_17 : decode cX1_passDrawnHour 17 = .ok (.irem, 1) := by decide +kernel
theorem dX1_passDrawnHour_18 : decode cX1_passDrawnHour 18 = .ok (.istore_n 1, 1) := by decide +kernel
theorem dX1_passDrawnHour_19 : decode cX1_passDrawnHour 19 = .ok (.aload_n 0, 1) := by decide +kernel
theorem dX1_passDrawnHour_20 : decode cX1_passDrawnHour 20 = .ok (.iload_n 1, 1) := by decide +kernel
theorem dX1_passDrawnHour_21 : decode cX1_passDrawnHour 21 = .ok (.invokevirtual 90, 3) := by decide +kernel
theorem dX1_passDrawnHour_24 : decode cX1_passDrawnHour 24 = .ok (.ifCond .eq 29, 3) := by decide +kernel
theorem dX1_passDrawnHour_27 : decode cX1_passDrawnHour 27 = .ok (.aload_n 0, 1) := by decide +kernel
theorem dX1_passDrawnHour_28 : decode cX1_passDrawnHour 28 = .ok (.getfield 16, 3) := by decide +kernel
theorem dX1_passDrawnHour_31 : decode cX1_passDrawnHour 31 = .ok (.iconst 3, 1) := by decide +kernel
theorem dX1_passDrawnHour_32 : decode cX1_passDrawnHour 32 = .ok (.aaload, 1) := by decide +kernel
theorem dX1_passDrawnHour_33 : decode cX1_passDrawnHour 33 = .ok (.iload_n 1, 1) := by decide +kernel
theorem dX1_passDrawnHour_34 : decode cX1_passDrawnHour 34 = .ok (.getstatic 94, 3) := by decide +kernel
theorem dX1_passDrawnHour_37 : decode cX1_passDrawnHour 37 = .ok (.iconst 3, 1) := by decide +kernel
theorem dX1_passDrawnHour_38 : decode cX1_passDrawnHour 38 = .ok (.iaload, 1) := by decide +kernel
theorem dX1_passDrawnHour_39 : decode cX1_passDrawnHour 39 = .ok (.aload_n 0, 1) := by decide +kernel
theorem dX1_passDrawnHour_40 : decode cX1_passDrawnHour 40 = .ok (.getfield 16, 3) := by decide +kernel
theorem dX1_passDrawnHour_43 : decode cX1_passDrawnHour 43 = .ok (.iconst 3, 1) := by decide +kernel
theorem dX1_passDrawnHour_44 : decode cX1_passDrawnHour 44 = .ok (.aaload, 1) := by decide +kernel
theorem dX1_passDrawnHour_45 : decode cX1_passDrawnHour 45 = .ok (.iload_n 1, 1) := by decide +kernel
theorem dX1_passDrawnHour_46 : decode cX1_passDrawnHour 46 = .ok (.iaload, 1) := by decide +kernel
theorem dX1_passDrawnHour_47 : decode cX1_passDrawnHour 47 = .ok (.iconst 1, 1) := by decide +kernel
theorem dX1_passDrawnHour_48 : decode cX1_passDrawnHour 48 = .ok (.iadd, 1) := by decide +kernel
theorem dX1_passDrawnHour_49 : decode cX1_passDrawnHour 49 = .ok (.invokestatic 59, 3) := by decide +kernel
theorem dX1_passDrawnHour_52 : decode cX1_passDrawnHour 52 = .ok (.iastore, 1) := by decide +kernel
theorem dX1_passDrawnHour_53 : decode cX1_passDrawnHour 53 = .ok (.aload_n 0, 1) := by decide +kernel
theorem dX1_passDrawnHour_54 : decode cX1_passDrawnHour 54 = .ok (.iconst 0, 1) := by decide +kernel
theorem dX1_passDrawnHour_55 : decode cX1_passDrawnHour 55 = .ok (.invokevirtual 62, 3) := by decide +kernel
theorem dX1_passDrawnHour_58 : decode cX1_passDrawnHour 58 = .ok (.return_, 1) := by decide +kernel
theorem dX1_draw_0 : decode cX1_draw 0 = .ok (.aload_n 0, 1) := by decide +kernel
theorem dX1_draw_1 : decode cX1_draw 1 = .ok (.aload_n 0, 1) := by decide +kernel
theorem dX1_draw_2 : decode cX1_draw 2 = .ok (.getfield 27, 3) := by decide +kernel
theorem dX1_draw_5 : decode cX1_draw 5 = .ok (.ldc 97, 2) := by decide +kernel
theorem dX1_draw_7 : decode cX1_draw 7 = .ok (.imul, 1) := by decide +kernel
theorem dX1_draw_8 : decode cX1_draw 8 = .ok (.sipush 12345, 3) := by decide +kernel
theorem dX1_draw_11 : decode cX1_draw 11 = .ok (.iadd, 1) := by decide +kernel
theorem dX1_draw_12 : decode cX1_draw 12 = .ok (.putfield 27, 3) := by decide +kernel
theorem dX1_draw_15 : decode cX1_draw 15 = .ok (.aload_n 0, 1) := by decide +kernel
theorem dX1_draw_16 : decode cX1_draw 16 = .ok (.getfield 27, 3) := by decide +kernel
theorem dX1_draw_19 : decode cX1_draw 19 = .ok (.bipush 8, 2) := by decide +kernel
theorem dX1_draw_21 : decode cX1_draw 21 = .ok (.iushr, 1) := by decide +kernel
theorem dX1_draw_22 : decode cX1_draw 22 = .ok (.ireturn, 1) := by decide +kernel
theorem dX1_walkersAt_0 : decode cX1_walkersAt 0 = .ok (.iconst 0, 1) := by decide +kernel
theorem dX1_walkersAt_1 : decode cX1_walkersAt 1 = .ok (.istore_n 2, 1) := by decide +kernel
theorem dX1_walkersAt_2 : decode cX1_walkersAt 2 = .ok (.iconst 0, 1) := by decide +kernel
theorem dX1_walkersAt_3 : decode cX1_walkersAt 3 = .ok (.istore_n 3, 1) := by decide +kernel
theorem dX1_walkersAt_4 : decode cX1_walkersAt 4 = .ok (.iload_n 3, 1) := by decide +kernel
theorem dX1_walkersAt_5 : decode cX1_walkersAt 5 = .ok (.aload_n 0, 1) := by decide +kernel
theorem dX1_walkersAt_6 : decode cX1_walkersAt 6 = .ok (.getfield 36, 3) := by decide +kernel
theorem dX1_walkersAt_9 : decode cX1_walkersAt 9 = .ok (.if_icmp .ge 27, 3) := by decide +kernel
theorem dX1_walkersAt_12 : decode cX1_walkersAt 12 = .ok (.aload_n 0, 1) := by decide +kernel
theorem dX1_walkersAt_13 : decode cX1_walkersAt 13 = .ok (.getfield 16, 3) := by decide +kernel
theorem dX1_walkersAt_16 : decode cX1_walkersAt 16 = .ok (.iconst 1, 1) := by decide +kernel
theorem dX1_walkersAt_17 : decode cX1_walkersAt 17 = .ok (.aaload, 1) := by decide +kernel
theorem dX1_walkersAt_18 : decode cX1_walkersAt 18 = .ok (.iload_n 3, 1) := by decide +kernel
theorem dX1_walkersAt_19 : decode cX1_walkersAt 19 = .ok (.iaload, 1) := by decide +kernel
theorem dX1_walkersAt_20 : decode cX1_walkersAt 20 = .ok (.iload_n 1, 1) := by decide +kernel
theorem dX1_walkersAt_21 : decode cX1_walkersAt 21 = .ok (.if_icmp .ne 9, 3) := by decide +kernel
theorem dX1_walkersAt_24 : decode cX1_walkersAt 24 = .ok (.iload_n 2, 1) := by decide +kernel
theorem dX1_walkersAt_25 : decode cX1_walkersAt 25 = .ok (.iconst 1, 1) := by decide +kernel
theorem dX1_walkersAt_26 : decode cX1_walkersAt 26 = .ok (.iload_n 3, 1) := by decide +kernel
theorem dX1_walkersAt_27 : decode cX1_walkersAt 27 = .ok (.ishl, 1) := by decide +kernel
theorem dX1_walkersAt_28 : decode cX1_walkersAt 28 = .ok (.ior, 1) := by decide +kernel
theorem dX1_walkersAt_29 : decode cX1_walkersAt 29 = .ok (.istore_n 2, 1) := by decide +kernel
theorem dX1_walkersAt_30 : decode cX1_walkersAt 30 = .ok (.iinc 3 1, 3) := by decide +kernel
theorem dX1_walkersAt_33 : decode cX1_walkersAt 33 = .ok (.goto (-29), 3) := by decide +kernel
theorem dX1_walkersAt_36 : decode cX1_walkersAt 36 = .ok (.iload_n 2, 1) := by decide +kernel
theorem dX1_walkersAt_37 : decode cX1_walkersAt 37 = .ok (.ireturn, 1) := by decide +kernel
theorem dX1_workSet_0 : decode cX1_workSet 0 = .ok (.iconst 0, 1) := by decide +kernel
theorem dX1_workSet_1 : decode cX1_workSet 1 = .ok (.istore_n 2, 1) := by decide +kernel
theorem dX1_workSet_2 : decode cX1_workSet 2 = .ok (.iconst 0, 1) := by decide +kernel
theorem dX1_workSet_3 : decode cX1_workSet 3 = .ok (.istore_n 3, 1) := by decide +kernel
theorem dX1_workSet_4 : decode cX1_workSet 4 = .ok (.iload_n 3, 1) := by decide +kernel
theorem dX1_workSet_5 : decode cX1_workSet 5 = .ok (.bipush 24, 2) := by decide +kernel
theorem dX1_workSet_7 : decode cX1_workSet 7 = .ok (.if_icmp .ge 27, 3) := by decide +kernel
theorem dX1_workSet_10 : decode cX1_workSet 10 = .ok (.aload_n 0, 1) := by decide +kernel
theorem dX1_workSet_11 : decode cX1_workSet 11 = .ok (.getfield 11, 3) := by decide +kernel
theorem dX1_workSet_14 : decode cX1_workSet 14 = .ok (.iconst 0, 1) := by decide +kernel
theorem dX1_workSet_15 : decode cX1_workSet 15 = .ok (.aaload, 1) := by decide +kernel
theorem dX1_workSet_16 : decode cX1_workSet 16 = .ok (.iload_n 3, 1) := by decide +kernel
theorem dX1_workSet_17 : decode cX1_workSet 17 = .ok (.iaload, 1) := by decide +kernel
theorem dX1_workSet_18 : decode cX1_workSet 18 = .ok (.iload_n 1, 1) := by decide +kernel
theorem dX1_workSet_19 : decode cX1_workSet 19 = .ok (.if_icmp .ne 9, 3) := by decide +kernel
theorem dX1_workSet_22 : decode cX1_workSet 22 = .ok (.iload_n 2, 1) := by decide +kernel
theorem dX1_workSet_23 : decode cX1_workSet 23 = .ok (.iconst 1, 1) := by decide +kernel
theorem dX1_workSet_24 : decode cX1_workSet 24 = .ok (.iload_n 3, 1) := by decide +kernel
theorem dX1_workSet_25 : decode cX1_workSet 25 = .ok (.ishl, 1) := by decide +kernel
theorem dX1_workSet_26 : decode cX1_workSet 26 = .ok (.ior, 1) := by decide +kernel
theorem dX1_workSet_27 : decode cX1_workSet 27 = .ok (.istore_n 2, 1) := by decide +kernel
theorem dX1_workSet_28 : decode cX1_workSet 28 = .ok (.iinc 3 1, 3) := by decide +kernel
theorem dX1_workSet_31 : decode cX1_workSet 31 = .ok (.goto (-27), 3) := by decide +kernel
theorem dX1_workSet_34 : decode cX1_workSet 34 = .ok (.iload_n 2, 1) := by decide +kernel
theorem dX1_workSet_35 : decode cX1_workSet 35 = .ok (.ireturn, 1) := by decide +kernel
theorem dX1_workSize_0 : decode cX1_workSize 0 = .ok (.aload_n 0, 1) := by decide +kernel
theorem dX1_workSize_1 : decode cX1_workSize 1 = .ok (.iload_n 1, 1) := by decide +kernel
theorem dX1_workSize_2 : decode cX1_workSize 2 = .ok (.invokevirtual 98, 3) := by decide +kernel
theorem dX1_workSize_5 : decode cX1_workSize 5 = .ok (.invokestatic 101, 3) := by decide +kernel
theorem dX1_workSize_8 : decode cX1_workSize 8 = .ok (.ireturn, 1) := by decide +kernel
theorem dX1_longestLine_0 : decode cX1_longestLine 0 = .ok (.iconst 0, 1) := by decide +kernel
theorem dX1_longestLine_1 : decode cX1_longestLine 1 = .ok (.istore_n 2, 1) := by decide +kernel
theorem dX1_longestLine_2 : decode cX1_longestLine 2 = .ok (.iconst 0, 1) := by decide +kernel
theorem dX1_longestLine_3 : decode cX1_longestLine 3 = .ok (.istore_n 3, 1) := by decide +kernel
theorem dX1_longestLine_4 : decode cX1_longestLine 4 = .ok (.iconst 0, 1) := by decide +kernel
theorem dX1_longestLine_5 : decode cX1_longestLine 5 = .ok (.istore 4, 2) := by decide +kernel
theorem dX1_longestLine_7 : decode cX1_longestLine 7 = .ok (.iload 4, 2) := by decide +kernel
theorem dX1_longestLine_9 : decode cX1_longestLine 9 = .ok (.bipush 24, 2) := by decide +kernel
theorem dX1_longestLine_11 : decode cX1_longestLine 11 = .ok (.if_icmp .ge 36, 3) := by decide +kernel
theorem dX1_longestLine_14 : decode cX1_longestLine 14 = .ok (.aload_n 0, 1) := by decide +kernel
theorem dX1_longestLine_15 : decode cX1_longestLine 15 = .ok (.getfield 11, 3) := by decide +kernel
theorem dX1_longestLine_18 : decode cX1_longestLine 18 = .ok (.iconst 0, 1) := by decide +kernel
theorem dX1_longestLine_19 : decode cX1_longestLine 19 = .ok (.aaload, 1) := by decide +kernel
theorem dX1_longestLine_20 : decode cX1_longestLine 20 = .ok (.iload 4, 2) := by decide +kernel
theorem dX1_longestLine_22 : decode cX1_longestLine 22 = .ok (.iaload, 1) := by decide +kernel
theorem dX1_longestLine_23 : decode cX1_longestLine 23 = .ok (.iload_n 1, 1) := by decide +kernel
theorem dX1_longestLine_24 : decode cX1_longestLine 24 = .ok (.if_icmp .ne 9, 3) := by decide +kernel
theorem dX1_longestLine_27 : decode cX1_longestLine 27 = .ok (.iload_n 3, 1) := by decide +kernel
theorem dX1_longestLine_28 : decode cX1_longestLine 28 = .ok (.iconst 1, 1) := by decide +kernel
theorem dX1_longestLine_29 : decode cX1_longestLine 29 = .ok (.iadd, 1) := by decide +kernel
theorem dX1_longestLine_30 : decode cX1_longestLine 30 = .ok (.goto 4, 3) := by decide +kernel
theorem dX1_longestLine_33 : decode cX1_longestLine 33 = .ok (.iconst 0, 1) := by decide +kernel
theorem dX1_longestLine_34 : decode cX1_longestLine 34 = .ok (.istore_n 3, 1) := by decide +kernel
theorem dX1_longestLine_35 : decode cX1_longestLine 35 = .ok (.iload_n 2, 1) := by decide +kernel
theorem dX1_longestLine_36 : decode cX1_longestLine 36 = .ok (.iload_n 3, 1) := by decide +kernel
theorem dX1_longestLine_37 : decode cX1_longestLine 37 = .ok (.invokestatic 53, 3) := by decide +kernel
theorem dX1_longestLine_40 : decode cX1_longestLine 40 = .ok (.istore_n 2, 1) := by decide +kernel
theorem dX1_longestLine_41 : decode cX1_longestLine 41 = .ok (.iinc 4 1, 3) := by decide +kernel
theorem dX1_longestLine_44 : decode cX1_longestLine 44 = .ok (.goto (-37), 3) := by decide +kernel
theorem dX1_longestLine_47 : decode cX1_longestLine 47 = .ok (.iload_n 2, 1) := by decide +kernel
theorem dX1_longestLine_48 : decode cX1_longestLine 48 = .ok (.ireturn, 1) := by decide +kernel
theorem dX1_printSet_0 : decode cX1_printSet 0 = .ok (.aload_n 0, 1) := by decide +kernel
theorem dX1_printSet_1 : decode cX1_printSet 1 = .ok (.iconst (-1), 1) := by decide +kernel
theorem dX1_printSet_2 : decode cX1_printSet 2 = .ok (.invokevirtual 98, 3) := by decide +kernel
theorem dX1_printSet_5 : decode cX1_printSet 5 = .ok (.iconst (-1), 1) := by decide +kernel
theorem dX1_printSet_6 : decode cX1_printSet 6 = .ok (.ixor, 1) := by decide +kernel
theorem dX1_printSet_7 : decode cX1_printSet 7 = .ok (.ldc 106, 2) := by decide +kernel
theorem dX1_printSet_9 : decode cX1_printSet 9 = .ok (.iand, 1) := by decide +kernel
theorem dX1_printSet_10 : decode cX1_printSet 10 = .ok (.ireturn, 1) := by decide +kernel
theorem dX1_printCount_0 : decode cX1_printCount 0 = .ok (.aload_n 0, 1) := by decide +kernel
theorem dX1_printCount_1 : decode cX1_printCount 1 = .ok (.invokevirtual 107, 3) := by decide +kernel
theorem dX1_printCount_4 : decode cX1_printCount 4 = .ok (.invokestatic 101, 3) := by decide +kernel
theorem dX1_printCount_7 : decode cX1_printCount 7 = .ok (.ireturn, 1) := by decide +kernel
theorem dX1_depthSum_0 : decode cX1_depthSum 0 = .ok (.iconst 0, 1) := by decide +kernel
theorem dX1_depthSum_1 : decode cX1_depthSum 1 = .ok (.istore_n 1, 1) := by decide +kernel
theorem dX1_depthSum_2 : decode cX1_depthSum 2 = .ok (.iconst 0, 1) := by decide +kernel
theorem dX1_depthSum_3 : decode cX1_depthSum 3 = .ok (.istore_n 2, 1) := by decide +kernel
theorem dX1_depthSum_4 : decode cX1_depthSum 4 = .ok (.iload_n 2, 1) := by decide +kernel
theorem dX1_depthSum_5 : decode cX1_depthSum 5 = .ok (.bipush 24, 2) := by decide +kernel
theorem dX1_depthSum_7 : decode cX1_depthSum 7 = .ok (.if_icmp .ge 20, 3) := by decide +kernel
theorem dX1_depthSum_10 : decode cX1_depthSum 10 = .ok (.iload_n 1, 1) := by decide +kernel
theorem dX1_depthSum_11 : decode cX1_depthSum 11 = .ok (.aload_n 0, 1) := by decide +kernel
theorem dX1_depthSum_12 : decode cX1_depthSum 12 = .ok (.getfield 11, 3) := by decide +kernel
theorem dX1_depthSum_15 : decode cX1_depthSum 15 = .ok (.iconst 1, 1) := by decide +kernel
theorem dX1_depthSum_16 : decode cX1_depthSum 16 = .ok (.aaload, 1) := by decide +kernel
theorem dX1_depthSum_17 : decode cX1_depthSum 17 = .ok (.iload_n 2, 1) := by decide +kernel
theorem dX1_depthSum_18 : decode cX1_depthSum 18 = .ok (.iaload, 1) := by decide +kernel
theorem dX1_depthSum_19 : decode cX1_depthSum 19 = .ok (.iadd, 1) := by decide +kernel
theorem dX1_depthSum_20 : decode cX1_depthSum 20 = .ok (.istore_n 1, 1) := by decide +kernel
theorem dX1_depthSum_21 : decode cX1_depthSum 21 = .ok (.iinc 2 1, 3) := by decide +kernel
theorem dX1_depthSum_24 : decode cX1_depthSum 24 = .ok (.goto (-20), 3) := by decide +kernel
theorem dX1_depthSum_27 : decode cX1_depthSum 27 = .ok (.iload_n 1, 1) := by decide +kernel
theorem dX1_depthSum_28 : decode cX1_depthSum 28 = .ok (.ireturn, 1) := by decide +kernel
theorem dX1_greatestAuthor_0 : decode cX1_greatestAuthor 0 = .ok (.iconst (-1), 1) := by decide +kernel
theorem dX1_greatestAuthor_1 : decode cX1_greatestAuthor 1 = .ok (.istore_n 1, 1) := by decide +kernel
theorem dX1_greatestAuthor_2 : decode cX1_greatestAuthor 2 = .ok (.iconst (-1), 1) := by decide +kernel
theorem dX1_greatestAuthor_3 : decode cX1_greatestAuthor 3 = .ok (.istore_n 2, 1) := by decide +kernel
theorem dX1_greatestAuthor_4 : decode cX1_greatestAuthor 4 = .ok (.iconst 0, 1) := by decide +kernel
theorem dX1_greatestAuthor_5 : decode cX1_greatestAuthor 5 = .ok (.istore_n 3, 1) := by decide +kernel
theorem dX1_greatestAuthor_6 : decode cX1_greatestAuthor 6 = .ok (.iload_n 3, 1) := by decide +kernel
theorem dX1_greatestAuthor_7 : decode cX1_greatestAuthor 7 = .ok (.aload_n 0, 1) := by decide +kernel
theorem dX1_greatestAuthor_8 : decode cX1_greatestAuthor 8 = .ok (.getfield 36, 3) := by decide +kernel
theorem dX1_greatestAuthor_11 : decode cX1_greatestAuthor 11 = .ok (.if_icmp .ge 27, 3) := by decide +kernel
theorem dX1_greatestAuthor_14 : decode cX1_greatestAuthor 14 = .ok (.aload_n 0, 1) := by decide +kernel
theorem dX1_greatestAuthor_15 : decode cX1_greatestAuthor 15 = .ok (.iload_n 3, 1) := by decide +kernel
theorem dX1_greatestAuthor_16 : decode cX1_greatestAuthor 16 = .ok (.invokevirtual 110, 3) := by decide +kernel
theorem dX1_greatestAuthor_19 : decode cX1_greatestAuthor 19 = .ok (.istore 4, 2) := by decide +kernel
theorem dX1_greatestAuthor_21 : decode cX1_greatestAuthor 21 = .ok (.iload 4, 2) := by decide +kernel
theorem dX1_greatestAuthor_23 : decode cX1_greatestAuthor 23 = .ok (.iload_n 2, 1) := by decide +kernel
theorem dX1_greatestAuthor_24 : decode cX1_greatestAuthor 24 = .ok (.if_icmp .le 8, 3) := by decide +kernel
theorem dX1_greatestAuthor_27 : decode cX1_greatestAuthor 27 = .ok (.iload 4, 2) := by decide +kernel
theorem dX1_greatestAuthor_29 : decode cX1_greatestAuthor 29 = .ok (.istore_n 2, 1) := by decide +kernel
theorem dX1_greatestAuthor_30 : decode cX1_greatestAuthor 30 = .ok (.iload_n 3, 1) := by decide +kernel
theorem dX1_greatestAuthor_31 : decode cX1_greatestAuthor 31 = .ok (.istore_n 1, 1) := by decide +kernel
theorem dX1_greatestAuthor_32 : decode cX1_greatestAuthor 32 = .ok (.iinc 3 1, 3) := by decide +kernel
theorem dX1_greatestAuthor_35 : decode cX1_greatestAuthor 35 = .ok (.goto (-29), 3) := by decide +kernel
theorem dX1_greatestAuthor_38 : decode cX1_greatestAuthor 38 = .ok (.iload_n 1, 1) := by decide +kernel
theorem dX1_greatestAuthor_39 : decode cX1_greatestAuthor 39 = .ok (.ireturn, 1) := by decide +kernel
theorem dX1_stepSum_0 : decode cX1_stepSum 0 = .ok (.iconst 0, 1) := by decide +kernel
theorem dX1_stepSum_1 : decode cX1_stepSum 1 = .ok (.istore_n 1, 1) := by decide +kernel
theorem dX1_stepSum_2 : decode cX1_stepSum 2 = .ok (.iconst 0, 1) := by decide +kernel
theorem dX1_stepSum_3 : decode cX1_stepSum 3 = .ok (.istore_n 2, 1) := by decide +kernel
theorem dX1_stepSum_4 : decode cX1_stepSum 4 = .ok (.iload_n 2, 1) := by decide +kernel
theorem dX1_stepSum_5 : decode cX1_stepSum 5 = .ok (.aload_n 0, 1) := by decide +kernel
theorem dX1_stepSum_6 : decode cX1_stepSum 6 = .ok (.getfield 36, 3) := by decide +kernel
theorem dX1_stepSum_9 : decode cX1_stepSum 9 = .ok (.if_icmp .ge 20, 3) := by decide +kernel
theorem dX1_stepSum_12 : decode cX1_stepSum 12 = .ok (.iload_n 1, 1) := by decide +kernel
theorem dX1_stepSum_13 : decode cX1_stepSum 13 = .ok (.aload_n 0, 1) := by decide +kernel
theorem dX1_stepSum_14 : decode cX1_stepSum 14 = .ok (.getfield 16, 3) := by decide +kernel
theorem dX1_stepSum_17 : decode cX1_stepSum 17 = .ok (.iconst 5, 1) := by decide +kernel
theorem dX1_stepSum_18 : decode cX1_stepSum 18 = .ok (.aaload, 1) := by decide +kernel
theorem dX1_stepSum_19 : decode cX1_stepSum 19 = .ok (.iload_n 2, 1) := by decide +kernel
theorem dX1_stepSum_20 : decode cX1_stepSum 20 = .ok (.iaload, 1) := by decide +kernel
theorem dX1_stepSum_21 : decode cX1_stepSum 21 = .ok (.iadd, 1) := by decide +kernel
theorem dX1_stepSum_22 : decode cX1_stepSum 22 = .ok (.istore_n 1, 1) := by decide +kernel
theorem dX1_stepSum_23 : decode cX1_stepSum 23 = .ok (.iinc 2 1, 3) := by decide +kernel
theorem dX1_stepSum_26 : decode cX1_stepSum 26 = .ok (.goto (-22), 3) := by decide +kernel
theorem dX1_stepSum_29 : decode cX1_stepSum 29 = .ok (.iload_n 1, 1) := by decide +kernel
theorem dX1_stepSum_30 : decode cX1_stepSum 30 = .ok (.ireturn, 1) := by decide +kernel
theorem dX1_heldCount_0 : decode cX1_heldCount 0 = .ok (.iconst 0, 1) := by decide +kernel
theorem dX1_heldCount_1 : decode cX1_heldCount 1 = .ok (.istore_n 1, 1) := by decide +kernel
theorem dX1_heldCount_2 : decode cX1_heldCount 2 = .ok (.iconst 0, 1) := by decide +kernel
theorem dX1_heldCount_3 : decode cX1_heldCount 3 = .ok (.istore_n 2, 1) := by decide +kernel
theorem dX1_heldCount_4 : decode cX1_heldCount 4 = .ok (.iload_n 2, 1) := by decide +kernel
theorem dX1_heldCount_5 : decode cX1_heldCount 5 = .ok (.bipush 10, 2) := by decide +kernel
theorem dX1_heldCount_7 : decode cX1_heldCount 7 = .ok (.if_icmp .ge 22, 3) := by decide +kernel
theorem dX1_heldCount_10 : decode cX1_heldCount 10 = .ok (.aload_n 0, 1) := by decide +kernel
theorem dX1_heldCount_11 : decode cX1_heldCount 11 = .ok (.getfield 19, 3) := by decide +kernel
theorem dX1_heldCount_14 : decode cX1_heldCount 14 = .ok (.iload_n 2, 1) := by decide +kernel
theorem dX1_heldCount_15 : decode cX1_heldCount 15 = .ok (.iaload, 1) := by decide +kernel
theorem dX1_heldCount_16 : decode cX1_heldCount 16 = .ok (.iconst (-1), 1) := by decide +kernel
theorem dX1_heldCount_17 : decode cX1_heldCount 17 = .ok (.if_icmp .eq 6, 3) := by decide +kernel
theorem dX1_heldCount_20 : decode cX1_heldCount 20 = .ok (.iinc 1 1, 3) := by decide +kernel
theorem dX1_heldCount_23 : decode cX1_heldCount 23 = .ok (.iinc 2 1, 3) := by decide +kernel
theorem dX1_heldCount_26 : decode cX1_heldCount 26 = .ok (.goto (-22), 3) := by decide +kernel
theorem dX1_heldCount_29 : decode cX1_heldCount 29 = .ok (.iload_n 1, 1) := by decide +kernel
theorem dX1_heldCount_30 : decode cX1_heldCount 30 = .ok (.ireturn, 1) := by decide +kernel
theorem dX2_init_0 : decode cX2_init 0 = .ok (.aload_n 0, 1) := by decide +kernel
theorem dX2_init_1 : decode cX2_init 1 = .ok (.invokespecial 3, 3) := by decide +kernel
theorem dX2_init_4 : decode cX2_init 4 = .ok (.aload_n 0, 1) := by decide +kernel
theorem dX2_init_5 : decode cX2_init 5 = .ok (.bipush 120, 2) := by decide +kernel
theorem dX2_init_7 : decode cX2_init 7 = .ok (.newarray .int, 2) := by decide +kernel
theorem dX2_init_9 : decode cX2_init 9 = .ok (.putfield 11, 3) := by decide +kernel
theorem dX2_init_12 : decode cX2_init 12 = .ok (.return_, 1) := by decide +kernel
theorem dX2_hasRoom_0 : decode cX2_hasRoom 0 = .ok (.iload_n 1, 1) := by decide +kernel
theorem dX2_hasRoom_1 : decode cX2_hasRoom 1 = .ok (.bipush 120, 2) := by decide +kernel
theorem dX2_hasRoom_3 : decode cX2_hasRoom 3 = .ok (.aload_n 0, 1) := by decide +kernel
theorem dX2_hasRoom_4 : decode cX2_hasRoom 4 = .ok (.getfield 15, 3) := by decide +kernel
theorem dX2_hasRoom_7 : decode cX2_hasRoom 7 = .ok (.isub, 1) := by decide +kernel
theorem dX2_hasRoom_8 : decode cX2_hasRoom 8 = .ok (.if_icmp .gt 7, 3) := by decide +kernel
theorem dX2_hasRoom_11 : decode cX2_hasRoom 11 = .ok (.iconst 1, 1) := by decide +kernel
theorem dX2_hasRoom_12 : decode cX2_hasRoom 12 = .ok (.goto 4, 3) := by decide +kernel
theorem dX2_hasRoom_15 : decode cX2_hasRoom 15 = .ok (.iconst 0, 1) := by decide +kernel
theorem dX2_hasRoom_16 : decode cX2_hasRoom 16 = .ok (.ireturn, 1) := by decide +kernel
theorem dX2_append_0 : decode cX2_append 0 = .ok (.aload_n 0, 1) := by decide +kernel
theorem dX2_append_1 : decode cX2_append 1 = .ok (.getfield 11, 3) := by decide +kernel
theorem dX2_append_4 : decode cX2_append 4 = .ok (.aload_n 0, 1) := by decide +kernel
theorem dX2_append_5 : decode cX2_append 5 = .ok (.getfield 15, 3) := by decide +kernel
theorem dX2_append_8 : decode cX2_append 8 = .ok (.iload_n 1, 1) := by decide +kernel
theorem dX2_append_9 : decode cX2_append 9 = .ok (.sipush 255, 3) := by decide +kernel
theorem dX2_append_12 : decode cX2_append 12 = .ok (.iand, 1) := by decide +kernel
theorem dX2_append_13 : decode cX2_append 13 = .ok (.iastore, 1) := by decide +kernel
theorem dX2_append_14 : decode cX2_append 14 = .ok (.aload_n 0, 1) := by decide +kernel
theorem dX2_append_15 : decode cX2_append 15 = .ok (.dup, 1) := by decide +kernel
theorem dX2_append_16 : decode cX2_append 16 = .ok (.getfield 15, 3) := by decide +kernel
theorem dX2_append_19 : decode cX2_append 19 = .ok (.iconst 1, 1) := by decide +kernel
theorem dX2_append_20 : decode cX2_append 20 = .ok (.iadd, 1) := by decide +kernel
theorem dX2_append_21 : decode cX2_append 21 = .ok (.putfield 15, 3) := by decide +kernel
theorem dX2_append_24 : decode cX2_append 24 = .ok (.return_, 1) := by decide +kernel
theorem dX2_readText_0 : decode cX2_readText 0 = .ok (.aload_n 0, 1) := by decide +kernel
theorem dX2_readText_1 : decode cX2_readText 1 = .ok (.iconst 0, 1) := by decide +kernel
theorem dX2_readText_2 : decode cX2_readText 2 = .ok (.putfield 19, 3) := by decide +kernel
theorem dX2_readText_5 : decode cX2_readText 5 = .ok (.aload_n 0, 1) := by decide +kernel
theorem dX2_readText_6 : decode cX2_readText 6 = .ok (.invokevirtual 22, 3) := by decide +kernel
theorem dX2_readText_9 : decode cX2_readText 9 = .ok (.iconst 1, 1) := by decide +kernel
theorem dX2_readText_10 : decode cX2_readText 10 = .ok (.istore_n 2, 1) := by decide +kernel
theorem dX2_readText_11 : decode cX2_readText 11 = .ok (.iload_n 2, 1) := by decide +kernel
theorem dX2_readText_12 : decode cX2_readText 12 = .ok (.bipush 120, 2) := by decide +kernel
theorem dX2_readText_14 : decode cX2_readText 14 = .ok (.if_icmp .gt 52, 3) := by decide +kernel
theorem dX2_readText_17 : decode cX2_readText 17 = .ok (.aload_n 0, 1) := by decide +kernel
theorem dX2_readText_18 : decode cX2_readText 18 = .ok (.aload_n 1, 1) := by decide +kernel
theorem dX2_readText_19 : decode cX2_readText 19 = .ok (.invokevirtual 25, 3) := by decide +kernel
theorem dX2_readText_22 : decode cX2_readText 22 = .ok (.ifCond .ne 10, 3) := by decide +kernel
theorem dX2_readText_25 : decode cX2_readText 25 = .ok (.iconst (-1), 1) := by decide +kernel
theorem dX2_readText_26 : decode cX2_readText 26 = .ok (.aload_n 0, 1) := by decide +kernel
theorem dX2_readText_27 : decode cX2_readText 27 = .ok (.getfield 29, 3) := by decide +kernel
theorem dX2_readText_30 : decode cX2_readText 30 = .ok (.isub, 1) := by decide +kernel
theorem dX2_readText_31 : decode cX2_readText 31 = .ok (.ireturn, 1) := by decide +kernel
theorem dX2_readText_32 : decode cX2_readText 32 = .ok (.aload_n 0, 1) := by decide +kernel
theorem dX2_readText_33 : decode cX2_readText 33 = .ok (.getfield 32, 3) := by decide +kernel
theorem dX2_readText_36 : decode cX2_readText 36 = .ok (.ifCond .ne 5, 3) := by decide +kernel
theorem dX2_readText_39 : decode cX2_readText 39 = .ok (.iload_n 2, 1) := by decide +kernel
theorem dX2_readText_40 : decode cX2_readText 40 = .ok (.ireturn, 1) := by decide +kernel
theorem dX2_readText_41 : decode cX2_readText 41 = .ok (.aload_n 0, 1) := by decide +kernel
theorem dX2_readText_42 : decode cX2_readText 42 = .ok (.getfield 32, 3) := by decide +kernel
theorem dX2_readText_45 : decode cX2_readText 45 = .ok (.iconst 3, 1) := by decide +kernel
theorem dX2_readText_46 : decode cX2_readText 46 = .ok (.if_icmp .eq 10, 3) := by decide +kernel
theorem dX2_readText_49 : decode cX2_readText 49 = .ok (.iconst (-1), 1) := by decide +kernel
theorem dX2_readText_50 : decode cX2_readText 50 = .ok (.aload_n 0, 1) := by decide +kernel
theorem dX2_readText_51 : decode cX2_readText 51 = .ok (.getfield 29, 3) := by decide +kernel
theorem dX2_readText_54 : decode cX2_readText 54 = .ok (.isub, 1) := by decide +kernel
theorem dX2_readText_55 : decode cX2_readText 55 = .ok (.ireturn, 1) := by decide +kernel
theorem dX2_readText_56 : decode cX2_readText 56 = .ok (.aload_n 0, 1) := by decide +kernel
theorem dX2_readText_57 : decode cX2_readText 57 = .ok (.invokevirtual 22, 3) := by decide +kernel
theorem dX2_readText_60 : decode cX2_readText 60 = .ok (.iinc 2 1, 3) := by decide +kernel
theorem dX2_readText_63 : decode cX2_readText 63 = .ok (.goto (-52), 3) := by decide +kernel
theorem dX2_readText_66 : decode cX2_readText 66 = .ok (.iconst (-1), 1) := by decide +kernel
theorem dX2_readText_67 : decode cX2_readText 67 = .ok (.aload_n 0, 1) := by decide +kernel
theorem dX2_readText_68 : decode cX2_readText 68 = .ok (.getfield 29, 3) := by decide +kernel
theorem dX2_readText_71 : decode cX2_readText 71 = .ok (.isub, 1) := by decide +kernel
theorem dX2_readText_72 : decode cX2_readText 72 = .ok (.ireturn, 1) := by decide +kernel
theorem dX2_readItem_0 : decode cX2_readItem 0 = .ok (.aload_n 0, 1) := by decide +kernel
theorem dX2_readItem_1 : decode cX2_readItem 1 = .ok (.invokevirtual 35, 3) := by decide +kernel
theorem dX2_readItem_4 : decode cX2_readItem 4 = .ok (.istore_n 2, 1) := by decide +kernel
theorem dX2_readItem_5 : decode cX2_readItem 5 = .ok (.iload_n 2, 1) := by decide +kernel
theorem dX2_readItem_6 : decode cX2_readItem 6 = .ok (.ifCond .lt 10, 3) := by decide +kernel
theorem dX2_readItem_9 : decode cX2_readItem 9 = .ok (.aload_n 0, 1) := by decide +kernel
theorem dX2_readItem_10 : decode cX2_readItem 10 = .ok (.aload_n 1, 1) := by decide +kernel
theorem dX2_readItem_11 : decode cX2_readItem 11 = .ok (.iload_n 2, 1) := by decide +kernel
theorem dX2_readItem_12 : decode cX2_readItem 12 = .ok (.invokevirtual 39, 3) := by decide +kernel
theorem dX2_readItem_15 : decode cX2_readItem 15 = .ok (.ireturn, 1) := by decide +kernel
theorem dX2_readItem_16 : decode cX2_readItem 16 = .ok (.aload_n 0, 1) := by decide +kernel
theorem dX2_readItem_17 : decode cX2_readItem 17 = .ok (.ldc 43, 2) := by decide +kernel
theorem dX2_readItem_19 : decode cX2_readItem 19 = .ok (.invokevirtual 45, 3) := by decide +kernel
theorem dX2_readItem_22 : decode cX2_readItem 22 = .ok (.ifCond .eq 9, 3) := by decide +kernel
theorem dX2_readItem_25 : decode cX2_readItem 25 = .ok (.aload_n 0, 1) := by decide +kernel
theorem dX2_readItem_26 : decode cX2_readItem 26 = .ok (.aload_n 1, 1) := by decide +kernel
theorem dX2_readItem_27 : decode cX2_readItem 27 = .ok (.invokevirtual 49, 3) := by decide +kernel
theorem dX2_readItem_30 : decode cX2_readItem 30 = .ok (.ireturn, 1) := by decide +kernel
theorem dX2_readItem_31 : decode cX2_readItem 31 = .ok (.aload_n 0, 1) := by decide +kernel
theorem dX2_readItem_32 : decode cX2_readItem 32 = .ok (.ldc 52, 2) := by decide +kernel
theorem dX2_readItem_34 : decode cX2_readItem 34 = .ok (.invokevirtual 45, 3) := by decide +kernel
theorem dX2_readItem_37 : decode cX2_readItem 37 = .ok (.ifCond .eq 15, 3) := by decide +kernel
theorem dX2_readItem_40 : decode cX2_readItem 40 = .ok (.aload_n 0, 1) := by decide +kernel
theorem dX2_readItem_41 : decode cX2_readItem 41 = .ok (.aload_n 1, 1) := by decide +kernel
theorem dX2_readItem_42 : decode cX2_readItem 42 = .ok (.invokevirtual 54, 3) := by decide +kernel
theorem dX2_readItem_45 : decode cX2_readItem 45 = .ok (.ifCond .eq 7, 3) := by decide +kernel
theorem dX2_readItem_48 : decode cX2_readItem 48 = .ok (.iconst 1, 1) := by decide +kernel
theorem dX2_readItem_49 : decode cX2_readItem 49 = .ok (.goto 4, 3) := by decide +kernel
theorem dX2_readItem_52 : decode cX2_readItem 52 = .ok (.iconst 0, 1) := by decide +kernel
theorem dX2_readItem_53 : decode cX2_readItem 53 = .ok (.ireturn, 1) := by decide +kernel
theorem dX2_readWalker_0 : decode cX2_readWalker 0 = .ok (.aload_n 1, 1) := by decide +kernel
theorem dX2_readWalker_1 : decode cX2_readWalker 1 = .ok (.invokevirtual 57, 3) := by decide +kernel
theorem dX2_readWalker_4 : decode cX2_readWalker 4 = .ok (.ifCond .ne 5, 3) := by decide +kernel
theorem dX2_readWalker_7 : decode cX2_readWalker 7 = .ok (.iconst 0, 1) := by decide +kernel
theorem dX2_readWalker_8 : decode cX2_readWalker 8 = .ok (.ireturn, 1) := by decide +kernel
theorem dX2_readWalker_9 : decode cX2_readWalker 9 = .ok (.aload_n 1, 1) := by decide +kernel
theorem dX2_readWalker_10 : decode cX2_readWalker 10 = .ok (.iload_n 2, 1) := by decide +kernel
theorem dX2_readWalker_11 : decode cX2_readWalker 11 = .ok (.iconst 0, 1) := by decide +kernel
theorem dX2_readWalker_12 : decode cX2_readWalker 12 = .ok (.invokevirtual 63, 3) := by decide +kernel
theorem dX2_readWalker_15 : decode cX2_readWalker 15 = .ok (.istore_n 3, 1) := by decide +kernel
theorem dX2_readWalker_16 : decode cX2_readWalker 16 = .ok (.aload_n 0, 1) := by decide +kernel
theorem dX2_readWalker_17 : decode cX2_readWalker 17 = .ok (.invokevirtual 22, 3) := by decide +kernel
theorem dX2_readWalker_20 : decode cX2_readWalker 20 = .ok (.aload_n 0, 1) := by decide +kernel
theorem dX2_readWalker_21 : decode cX2_readWalker 21 = .ok (.aload_n 1, 1) := by decide +kernel
theorem dX2_readWalker_22 : decode cX2_readWalker 22 = .ok (.iload_n 3, 1) := by decide +kernel
theorem dX2_readWalker_23 : decode cX2_readWalker 23 = .ok (.ldc 67, 2) := by decide +kernel
theorem dX2_readWalker_25 : decode cX2_readWalker 25 = .ok (.iconst 1, 1) := by decide +kernel
theorem dX2_readWalker_26 : decode cX2_readWalker 26 = .ok (.invokevirtual 69, 3) := by decide +kernel
theorem dX2_readWalker_29 : decode cX2_readWalker 29 = .ok (.ifCond .ne 5, 3) := by decide +kernel
theorem dX2_readWalker_32 : decode cX2_readWalker 32 = .ok (.iconst 0, 1) := by decide +kernel
theorem dX2_readWalker_33 : decode cX2_readWalker 33 = .ok (.ireturn, 1) := by decide +kernel
theorem dX2_readWalker_34 : decode cX2_readWalker 34 = .ok (.aload_n 0, 1) := by decide +kernel
theorem dX2_readWalker_35 : decode cX2_readWalker 35 = .ok (.ldc 73, 2) := by decide +kernel
theorem dX2_readWalker_37 : decode cX2_readWalker 37 = .ok (.invokevirtual 45, 3) := by decide +kernel
theorem dX2_readWalker_40 : decode cX2_readWalker 40 = .ok (.ifCond .eq 16, 3) := by decide +kernel
theorem dX2_readWalker_43 : decode cX2_readWalker 43 = .ok (.aload_n 1, 1) := by decide +kernel
theorem dX2_readWalker_44 : decode cX2_readWalker 44 = .ok (.getfield 75, 3) := by decide +kernel
theorem dX2_readWalker_47 : decode cX2_readWalker 47 = .ok (.iconst 2, 1) := by decide +kernel
theorem dX2_readWalker_48 : decode cX2_readWalker 48 = .ok (.aaload, 1) := by decide +kernel
theorem dX2_readWalker_49 : decode cX2_readWalker 49 = .ok (.iload_n 3, 1) := by decide +kernel
theorem dX2_readWalker_50 : decode cX2_readWalker 50 = .ok (.iconst 0, 1) := by decide +kernel
theorem dX2_readWalker_51 : decode cX2_readWalker 51 = .ok (.iastore, 1) := by decide +kernel
theorem dX2_readWalker_52 : decode cX2_readWalker 52 = .ok (.aload_n 0, 1) := by decide +kernel
theorem dX2_readWalker_53 : decode cX2_readWalker 53 = .ok (.invokevirtual 22, 3) := by decide +kernel
theorem dX2_readWalker_56 : decode cX2_readWalker 56 = .ok (.aload_n 0, 1) := by decide +kernel
theorem dX2_readWalker_57 : decode cX2_readWalker 57 = .ok (.aload_n 1, 1) := by decide +kernel
theorem dX2_readWalker_58 : decode cX2_readWalker 58 = .ok (.iload_n 3, 1) := by decide +kernel
theorem dX2_readWalker_59 : decode cX2_readWalker 59 = .ok (.ldc 79, 2) := by decide +kernel
theorem dX2_readWalker_61 : decode cX2_readWalker 61 = .ok (.iconst 3, 1) := by decide +kernel
theorem dX2_readWalker_62 : decode cX2_readWalker 62 = .ok (.invokevirtual 69, 3) := by decide +kernel
theorem dX2_readWalker_65 : decode cX2_readWalker 65 = .ok (.ifCond .eq 19, 3) := by decide +kernel
theorem dX2_readWalker_68 : decode cX2_readWalker 68 = .ok (.aload_n 0, 1) := by decide +kernel
theorem dX2_readWalker_69 : decode cX2_readWalker 69 = .ok (.aload_n 1, 1) := by decide +kernel
theorem dX2_readWalker_70 : decode cX2_readWalker 70 = .ok (.iload_n 3, 1) := by decide +kernel
theorem dX2_readWalker_71 : decode cX2_readWalker 71 = .ok (.ldc 81, 2) := by decide +kernel
theorem dX2_readWalker_73 : decode cX2_readWalker 73 = .ok (.iconst 4, 1) := by decide +kernel
theorem dX2_readWalker_74 : decode cX2_readWalker 74 = .ok (.invokevirtual 69, 3) := by decide +kernel
theorem dX2_readWalker_77 : decode cX2_readWalker 77 = .ok (.ifCond .eq 7, 3) := by decide +kernel
theorem dX2_readWalker_80 : decode cX2_readWalker 80 = .ok (.iconst 1, 1) := by decide +kernel
theorem dX2_readWalker_81 : decode cX2_readWalker 81 = .ok (.goto 4, 3) := by decide +kernel
theorem dX2_readWalker_84 : decode cX2_readWalker 84 = .ok (.iconst 0, 1) := by decide +kernel
theorem dX2_readWalker_85 : decode cX2_readWalker 85 = .ok (.ireturn, 1) := by decide +kernel
theorem dX2_readTrait_0 : decode cX2_readTrait 0 = .ok (.aload_n 0, 1) := by decide +kernel
theorem dX2_readTrait_1 : decode cX2_readTrait 1 = .ok (.aload_n 3, 1) := by decide +kernel
theorem dX2_readTrait_2 : decode cX2_readTrait 2 = .ok (.invokevirtual 45, 3) := by decide +kernel
theorem dX2_readTrait_5 : decode cX2_readTrait 5 = .ok (.ifCond .ne 5, 3) := by decide +kernel
theorem dX2_readTrait_8 : decode cX2_readTrait 8 = .ok (.iconst 1, 1) := by decide +kernel
theorem dX2_readTrait_9 : decode cX2_readTrait 9 = .ok (.ireturn, 1) := by decide +kernel
theorem dX2_readTrait_10 : decode cX2_readTrait 10 = .ok (.aload_n 0, 1) := by decide +kernel
theorem dX2_readTrait_11 : decode cX2_readTrait 11 = .ok (.invokevirtual 22, 3) := by decide +kernel
theorem dX2_readTrait_14 : decode cX2_readTrait 14 = .ok (.aload_n 0, 1) := by decide +kernel
theorem dX2_readTrait_15 : decode cX2_readTrait 15 = .ok (.getstatic 83, 3) := by decide +kernel
theorem dX2_readTrait_18 : decode cX2_readTrait 18 = .ok (.iload 4, 2) := by decide +kernel
theorem dX2_readTrait_20 : decode cX2_readTrait 20 = .ok (.iaload, 1) := by decide +kernel
theorem dX2_readTrait_21 : decode cX2_readTrait 21 = .ok (.getstatic 86, 3) := by decide +kernel
theorem dX2_readTrait_24 : decode cX2_readTrait 24 = .ok (.iload 4, 2) := by decide +kernel
theorem dX2_readTrait_26 : decode cX2_readTrait 26 = .ok (.iaload, 1) := by decide +kernel
theorem dX2_readTrait_27 : decode cX2_readTrait 27 = .ok (.invokevirtual 89, 3) := by decide +kernel
theorem dX2_readTrait_30 : decode cX2_readTrait 30 = .ok (.ifCond .ne 5, 3) := by decide +kernel
theorem dX2_readTrait_33 : decode cX2_readTrait 33 = .ok (.iconst 0, 1) := by decide +kernel
theorem dX2_readTrait_34 : decode cX2_readTrait 34 = .ok (.ireturn, 1) := by decide +kernel
theorem dX2_readTrait_35 : decode cX2_readTrait 35 = .ok (.aload_n 1, 1) := by decide +kernel
theorem dX2_readTrait_36 : decode cX2_readTrait 36 = .ok (.getfield 75, 3) := by decide +kernel
theorem dX2_readTrait_39 : decode cX2_readTrait 39 = .ok (.iload 4, 2) := by decide +kernel
theorem dX2_readTrait_41 : decode cX2_readTrait 41 = .ok (.aaload, 1) := by decide +kernel
theorem dX2_readTrait_42 : decode cX2_readTrait 42 = .ok (.iload_n 2, 1) := by decide +kernel
theorem dX2_readTrait_43 : decode cX2_readTrait 43 = .ok (.aload_n 0, 1) := by decide +kernel
theorem dX2_readTrait_44 : decode cX2_readTrait 44 = .ok (.getfield 93, 3) := by decide +kernel
theorem dX2_readTrait_47 : decode cX2_readTrait 47 = .ok (.iastore, 1) := by decide +kernel
theorem dX2_readTrait_48 : decode cX2_readTrait 48 = .ok (.aload_n 0, 1) := by decide +kernel
theorem dX2_readTrait_49 : decode cX2_readTrait 49 = .ok (.invokevirtual 22, 3) := by decide +kernel
theorem dX2_readTrait_52 : decode cX2_readTrait 52 = .ok (.iconst 1, 1) := by decide +kernel
theorem dX2_readTrait_53 : decode cX2_readTrait 53 = .ok (.ireturn, 1) := by decide +kernel
theorem dX2_readReach_0 : decode cX2_readReach 0 = .ok (.aload_n 0, 1) := by decide +kernel
theorem dX2_readReach_1 : decode cX2_readReach 1 = .ok (.invokevirtual 22, 3) := by decide +kernel
theorem dX2_readReach_4 : decode cX2_readReach 4 = .ok (.aload_n 0, 1) := by decide +kernel
theorem dX2_readReach_5 : decode cX2_readReach 5 = .ok (.iconst 0, 1) := by decide +kernel
theorem dX2_readReach_6 : decode cX2_readReach 6 = .ok (.bipush 24, 2) := by decide +kernel
theorem dX2_readReach_8 : decode cX2_readReach 8 = .ok (.invokevirtual 89, 3) := by decide +kernel
theorem dX2_readReach_11 : decode cX2_readReach 11 = .ok (.ifCond .ne 5, 3) := by decide +kernel
theorem dX2_readReach_14 : decode cX2_readReach 14 = .ok (.iconst 0, 1) := by decide +kernel
theorem dX2_readReach_15 : decode cX2_readReach 15 = .ok (.ireturn, 1) := by decide +kernel
theorem dX2_readReach_16 : decode cX2_readReach 16 = .ok (.aload_n 1, 1) := by decide +kernel
theorem dX2_readReach_17 : decode cX2_readReach 17 = .ok (.aload_n 0, 1) := by decide +kernel
theorem dX2_readReach_18 : decode cX2_readReach 18 = .ok (.getfield 93, 3) := by decide +kernel
theorem dX2_readReach_21 : decode cX2_readReach 21 = .ok (.putfield 96, 3) := by decide +kernel
theorem dX2_readReach_24 : decode cX2_readReach 24 = .ok (.aload_n 0, 1) := by decide +kernel
theorem dX2_readReach_25 : decode cX2_readReach 25 = .ok (.invokevirtual 22, 3) := by decide +kernel
theorem dX2_readReach_28 : decode cX2_readReach 28 = .ok (.iconst 1, 1) := by decide +kernel
theorem dX2_readReach_29 : decode cX2_readReach 29 = .ok (.ireturn, 1) := by decide +kernel
theorem dX2_readPrint_0 : decode cX2_readPrint 0 = .ok (.aload_n 0, 1) := by decide +kernel
theorem dX2_readPrint_1 : decode cX2_readPrint 1 = .ok (.invokevirtual 22, 3) := by decide +kernel
theorem dX2_readPrint_4 : decode cX2_readPrint 4 = .ok (.aload_n 0, 1) := by decide +kernel
theorem dX2_readPrint_5 : decode cX2_readPrint 5 = .ok (.iconst 0, 1) := by decide +kernel
theorem dX2_readPrint_6 : decode cX2_readPrint 6 = .ok (.bipush 23, 2) := by decide +kernel
theorem dX2_readPrint_8 : decode cX2_readPrint 8 = .ok (.invokevirtual 89, 3) := by decide +kernel
theorem dX2_readPrint_11 : decode cX2_readPrint 11 = .ok (.ifCond .ne 5, 3) := by decide +kernel
theorem dX2_readPrint_14 : decode cX2_readPrint 14 = .ok (.iconst 0, 1) := by decide +kernel
theorem dX2_readPrint_15 : decode cX2_readPrint 15 = .ok (.ireturn, 1) := by decide +kernel
theorem dX2_readPrint_16 : decode cX2_readPrint 16 = .ok (.aload_n 0, 1) := by decide +kernel
theorem dX2_readPrint_17 : decode cX2_readPrint 17 = .ok (.getfield 93, 3) := by decide +kernel
theorem dX2_readPrint_20 : decode cX2_readPrint 20 = .ok (.istore_n 2, 1) := by decide +kernel
theorem dX2_readPrint_21 : decode cX2_readPrint 21 = .ok (.aload_n 0, 1) := by decide +kernel
theorem dX2_readPrint_22 : decode cX2_readPrint 22 = .ok (.invokevirtual 22, 3) := by decide +kernel
theorem dX2_readPrint_25 : decode cX2_readPrint 25 = .ok (.aload_n 0, 1) := by decide +kernel
theorem dX2_readPrint_26 : decode cX2_readPrint 26 = .ok (.iconst 0, 1) := by decide +kernel
theorem dX2_readPrint_27 : decode cX2_readPrint 27 = .ok (.aload_n 1, 1) := by decide +kernel
theorem dX2_readPrint_28 : decode cX2_readPrint 28 = .ok (.getfield 98, 3) := by decide +kernel
theorem dX2_readPrint_31 : decode cX2_readPrint 31 = .ok (.iconst 1, 1) := by decide +kernel
theorem dX2_readPrint_32 : decode cX2_readPrint 32 = .ok (.isub, 1) := by decide +kernel
theorem dX2_readPrint_33 : decode cX2_readPrint 33 = .ok (.invokevirtual 89, 3) := by decide +kernel
theorem dX2_readPrint_36 : decode cX2_readPrint 36 = .ok (.ifCond .ne 5, 3) := by decide +kernel
theorem dX2_readPrint_39 : decode cX2_readPrint 39 = .ok (.iconst 0, 1) := by decide +kernel
theorem dX2_readPrint_40 : decode cX2_readPrint 40 = .ok (.ireturn, 1) := by decide +kernel
theorem dX2_readPrint_41 : decode cX2_readPrint 41 = .ok (.aload_n 0, 1) := by decide +kernel
theorem dX2_readPrint_42 : decode cX2_readPrint 42 = .ok (.getfield 93, 3) := by decide +kernel
theorem dX2_readPrint_45 : decode cX2_readPrint 45 = .ok (.istore_n 3, 1) := by decide +kernel
theorem dX2_readPrint_46 : decode cX2_readPrint 46 = .ok (.aload_n 0, 1) := by decide +kernel
theorem dX2_readPrint_47 : decode cX2_readPrint 47 = .ok (.invokevirtual 22, 3) := by decide +kernel
theorem dX2_readPrint_50 : decode cX2_readPrint 50 = .ok (.aload_n 0, 1) := by decide +kernel
theorem dX2_readPrint_51 : decode cX2_readPrint 51 = .ok (.iconst 0, 1) := by decide +kernel
theorem dX2_readPrint_52 : decode cX2_readPrint 52 = .ok (.bipush 9, 2) := by decide +kernel
theorem dX2_readPrint_54 : decode cX2_readPrint 54 = .ok (.invokevirtual 89, 3) := by decide +kernel
theorem dX2_readPrint_57 : decode cX2_readPrint 57 = .ok (.ifCond .ne 5, 3) := by decide +kernel
theorem dX2_readPrint_60 : decode cX2_readPrint 60 = .ok (.iconst 0, 1) := by decide +kernel
theorem dX2_readPrint_61 : decode cX2_readPrint 61 = .ok (.ireturn, 1) := by decide +kernel
theorem dX2_readPrint_62 : decode cX2_readPrint 62 = .ok (.aload_n 0, 1) := by decide +kernel
theorem dX2_readPrint_63 : decode cX2_readPrint 63 = .ok (.getfield 93, 3) := by decide +kernel
theorem dX2_readPrint_66 : decode cX2_readPrint 66 = .ok (.istore 4, 2) := by decide +kernel
theorem dX2_readPrint_68 : decode cX2_readPrint 68 = .ok (.aload_n 0, 1) := by decide +kernel
theorem dX2_readPrint_69 : decode cX2_readPrint 69 = .ok (.invokevirtual 22, 3) := by decide +kernel
theorem dX2_readPrint_72 : decode cX2_readPrint 72 = .ok (.aload_n 0, 1) := by decide +kernel
theorem dX2_readPrint_73 : decode cX2_readPrint 73 = .ok (.ldc 73, 2) := by decide +kernel
theorem dX2_readPrint_75 : decode cX2_readPrint 75 = .ok (.invokevirtual 45, 3) := by decide +kernel
theorem dX2_readPrint_78 : decode cX2_readPrint 78 = .ok (.istore 5, 2) := by decide +kernel
theorem dX2_readPrint_80 : decode cX2_readPrint 80 = .ok (.iload 5, 2) := by decide +kernel
theorem dX2_readPrint_82 : decode cX2_readPrint 82 = .ok (.ifCond .eq 7, 3) := by decide +kernel
theorem dX2_readPrint_85 : decode cX2_readPrint 85 = .ok (.aload_n 0, 1) := by decide +kernel
theorem dX2_readPrint_86 : decode cX2_readPrint 86 = .ok (.invokevirtual 22, 3) := by decide +kernel
theorem dX2_readPrint_89 : decode cX2_readPrint 89 = .ok (.aload_n 1, 1) := by decide +kernel
theorem dX2_readPrint_90 : decode cX2_readPrint 90 = .ok (.iload_n 2, 1) := by decide +kernel
theorem dX2_readPrint_91 : decode cX2_readPrint 91 = .ok (.iload_n 3, 1) := by decide +kernel
theorem dX2_readPrint_92 : decode cX2_readPrint 92 = .ok (.iload 4, 2) := by decide +kernel
theorem dX2_readPrint_94 : decode cX2_readPrint 94 = .ok (.iload 5, 2) := by decide +kernel
theorem dX2_readPrint_96 : decode cX2_readPrint 96 = .ok (.ifCond .eq 7, 3) := by decide +kernel
theorem dX2_readPrint_99 : decode cX2_readPrint 99 = .ok (.iconst 0, 1) := by decide +kernel
theorem dX2_readPrint_100 : decode cX2_readPrint 100 = .ok (.goto 4, 3) := by decide +kernel
theorem dX2_readPrint_103 : decode cX2_readPrint 103 = .ok (.iconst 1, 1) := by decide +kernel
theorem dX2_readPrint_104 : decode cX2_readPrint 104 = .ok (.invokevirtual 101, 3) := by decide +kernel
theorem dX2_readPrint_107 : decode cX2_readPrint 107 = .ok (.iconst 1, 1) := by decide +kernel
theorem dX2_readPrint_108 : decode cX2_readPrint 108 = .ok (.ireturn, 1) := by decide +kernel
theorem dX2_isNumber_0 : decode cX2_isNumber 0 = .ok (.aload_n 0, 1) := by decide +kernel
theorem dX2_isNumber_1 : decode cX2_isNumber 1 = .ok (.getfield 32, 3) := by decide +kernel
theorem dX2_isNumber_4 : decode cX2_isNumber 4 = .ok (.iconst 2, 1) := by decide +kernel
theorem dX2_isNumber_5 : decode cX2_isNumber 5 = .ok (.if_icmp .ne 19, 3) := by decide +kernel
theorem dX2_isNumber_8 : decode cX2_isNumber 8 = .ok (.aload_n 0, 1) := by decide +kernel
theorem dX2_isNumber_9 : decode cX2_isNumber 9 = .ok (.getfield 93, 3) := by decide +kernel
theorem dX2_isNumber_12 : decode cX2_isNumber 12 = .ok (.iload_n 1, 1) := by decide +kernel
theorem dX2_isNumber_13 : decode cX2_isNumber 13 = .ok (.iload_n 2, 1) := by decide +kernel
theorem dX2_isNumber_14 : decode cX2_isNumber 14 = .ok (.invokestatic 105, 3) := by decide +kernel
theorem dX2_isNumber_17 : decode cX2_isNumber 17 = .ok (.ifCond .eq 7, 3) := by decide +kernel
theorem dX2_isNumber_20 : decode cX2_isNumber 20 = .ok (.iconst 1, 1) := by decide +kernel
theorem dX2_isNumber_21 : decode cX2_isNumber 21 = .ok (.goto 4, 3) := by decide +kernel
theorem dX2_isNumber_24 : decode cX2_isNumber 24 = .ok (.iconst 0, 1) := by decide +kernel
theorem dX2_isNumber_25 : decode cX2_isNumber 25 = .ok (.ireturn, 1) := by decide +kernel
theorem dX2_isWord_0 : decode cX2_isWord 0 = .ok (.aload_n 0, 1) := by decide +kernel
theorem dX2_isWord_1 : decode cX2_isWord 1 = .ok (.getfield 32, 3) := by decide +kernel
theorem dX2_isWord_4 : decode cX2_isWord 4 = .ok (.iconst 1, 1) := by decide +kernel
theorem dX2_isWord_5 : decode cX2_isWord 5 = .ok (.if_icmp .ne 19, 3) := by decide +kernel
theorem dX2_isWord_8 : decode cX2_isWord 8 = .ok (.aload_n 0, 1) := by decide +kernel
theorem dX2_isWord_9 : decode cX2_isWord 9 = .ok (.getfield 19, 3) := by decide +kernel
theorem dX2_isWord_12 : decode cX2_isWord 12 = .ok (.aload_n 0, 1) := by decide +kernel
theorem dX2_isWord_13 : decode cX2_isWord 13 = .ok (.getfield 29, 3) := by decide +kernel
theorem dX2_isWord_16 : decode cX2_isWord 16 = .ok (.isub, 1) := by decide +kernel
theorem dX2_isWord_17 : decode cX2_isWord 17 = .ok (.aload_n 1, 1) := by decide +kernel
theorem dX2_isWord_18 : decode cX2_isWord 18 = .ok (.invokevirtual 109, 3) := by decide +kernel
theorem dX2_isWord_21 : decode cX2_isWord 21 = .ok (.if_icmp .eq 5, 3) := by decide +kernel
theorem dX2_isWord_24 : decode cX2_isWord 24 = .ok (.iconst 0, 1) := by decide +kernel
theorem dX2_isWord_25 : decode cX2_isWord 25 = .ok (.ireturn, 1) := by decide +kernel
theorem dX2_isWord_26 : decode cX2_isWord 26 = .ok (.iconst 0, 1) := by decide +kernel
theorem dX2_isWord_27 : decode cX2_isWord 27 = .ok (.istore_n 2, 1) := by decide +kernel
theorem dX2_isWord_28 : decode cX2_isWord 28 = .ok (.iload_n 2, 1) := by decide +kernel
theorem dX2_isWord_29 : decode cX2_isWord 29 = .ok (.aload_n 1, 1) := by decide +kernel
theorem dX2_isWord_30 : decode cX2_isWord 30 = .ok (.invokevirtual 109, 3) := by decide +kernel
theorem dX2_isWord_33 : decode cX2_isWord 33 = .ok (.if_icmp .ge 30, 3) := by decide +kernel
theorem dX2_isWord_36 : decode cX2_isWord 36 = .ok (.aload_n 0, 1) := by decide +kernel
theorem dX2_isWord_37 : decode cX2_isWord 37 = .ok (.getfield 11, 3) := by decide +kernel
theorem dX2_isWord_40 : decode cX2_isWord 40 = .ok (.aload_n 0, 1) := by decide +kernel
theorem dX2_isWord_41 : decode cX2_isWord 41 = .ok (.getfield 29, 3) := by decide +kernel
theorem dX2_isWord_44 : decode cX2_isWord 44 = .ok (.iload_n 2, 1) := by decide +kernel
theorem dX2_isWord_45 : decode cX2_isWord 45 = .ok (.iadd, 1) := by decide +kernel
theorem dX2_isWord_46 : decode cX2_isWord 46 = .ok (.iaload, 1) := by decide +kernel
theorem dX2_isWord_47 : decode cX2_isWord 47 = .ok (.aload_n 1, 1) := by decide +kernel
theorem dX2_isWord_48 : decode cX2_isWord 48 = .ok (.iload_n 2, 1) := by decide +kernel
theorem dX2_isWord_49 : decode cX2_isWord 49 = .ok (.invokevirtual 114, 3) := by decide +kernel
theorem dX2_isWord_52 : decode cX2_isWord 52 = .ok (.if_icmp .eq 5, 3) := by decide +kernel
theorem dX2_isWord_55 : decode cX2_isWord 55 = .ok (.iconst 0, 1) := by decide +kernel
theorem dX2_isWord_56 : decode cX2_isWord 56 = .ok (.ireturn, 1) := by decide +kernel
theorem dX2_isWord_57 : decode cX2_isWord 57 = .ok (.iinc 2 1, 3) := by decide +kernel
theorem dX2_isWord_60 : decode cX2_isWord 60 = .ok (.goto (-32), 3) := by decide +kernel
theorem dX2_isWord_63 : decode cX2_isWord 63 = .ok (.iconst 1, 1) := by decide +kernel
theorem dX2_isWord_64 : decode cX2_isWord 64 = .ok (.ireturn, 1) := by decide +kernel
theorem dX2_kindOfWord_0 : decode cX2_kindOfWord 0 = .ok (.iconst 0, 1) := by decide +kernel
theorem dX2_kindOfWord_1 : decode cX2_kindOfWord 1 = .ok (.istore_n 1, 1) := by decide +kernel
theorem dX2_kindOfWord_2 : decode cX2_kindOfWord 2 = .ok (.iload_n 1, 1) := by decide +kernel
theorem dX2_kindOfWord_3 : decode cX2_kindOfWord 3 = .ok (.bipush 7, 2) := by decide +kernel
theorem dX2_kindOfWord_5 : decode cX2_kindOfWord 5 = .ok (.if_icmp .ge 22, 3) := by decide +kernel
theorem dX2_kindOfWord_8 : decode cX2_kindOfWord 8 = .ok (.aload_n 0, 1) := by decide +kernel
theorem dX2_kindOfWord_9 : decode cX2_kindOfWord 9 = .ok (.iload_n 1, 1) := by decide +kernel
theorem dX2_kindOfWord_10 : decode cX2_kindOfWord 10 = .ok (.invokestatic 118, 3) := by decide +kernel
theorem dX2_kindOfWord_13 : decode cX2_kindOfWord 13 = .ok (.invokevirtual 45, 3) := by decide +kernel
theorem dX2_kindOfWord_16 : decode cX2_kindOfWord 16 = .ok (.ifCond .eq 5, 3) := by decide +kernel
theorem dX2_kindOfWord_19 : decode cX2_kindOfWord 19 = .ok (.iload_n 1, 1) := by decide +kernel
theorem dX2_kindOfWord_20 : decode cX2_kindOfWord 20 = .ok (.ireturn, 1) := by decide +kernel
theorem dX2_kindOfWord_21 : decode cX2_kindOfWord 21 = .ok (.iinc 1 1, 3) := by decide +kernel
theorem dX2_kindOfWord_24 : decode cX2_kindOfWord 24 = .ok (.goto (-22), 3) := by decide +kernel
theorem dX2_kindOfWord_27 : decode cX2_kindOfWord 27 = .ok (.iconst (-1), 1) := by decide +kernel
theorem dX2_kindOfWord_28 : decode cX2_kindOfWord 28 = .ok (.ireturn, 1) := by decide +kernel
theorem dX2_wordOfKind_0 : decode cX2_wordOfKind 0 = .ok (.iload_n 0, 1) := by decide +kernel
theorem dX2_wordOfKind_1 : decode cX2_wordOfKind 1 = .ok (.tableswitch 57 1 6 #[39, 42, 45, 48, 51, 54], 39) := by decide +kernel
theorem dX2_wordOfKind_40 : decode cX2_wordOfKind 40 = .ok (.ldc 122, 2) := by decide +kernel
theorem dX2_wordOfKind_42 : decode cX2_wordOfKind 42 = .ok (.areturn, 1) := by decide +kernel
theorem dX2_wordOfKind_43 : decode cX2_wordOfKind 43 = .ok (.ldc 124, 2) := by decide +kernel
theorem dX2_wordOfKind_45 : decode cX2_wordOfKind 45 = .ok (.areturn, 1) := by decide +kernel
theorem dX2_wordOfKind_46 : decode cX2_wordOfKind 46 = .ok (.ldc 126, 2) := by decide +kernel
theorem dX2_wordOfKind_48 : decode cX2_wordOfKind 48 = .ok (.areturn, 1) := by decide +kernel
theorem dX2_wordOfKind_49 : decode cX2_wordOfKind 49 = .ok (.ldc 128, 2) := by decide +kernel
theorem dX2_wordOfKind_51 : decode cX2_wordOfKind 51 = .ok (.areturn, 1) := by decide +kernel
theorem dX2_wordOfKind_52 : decode cX2_wordOfKind 52 = .ok (.ldc 130, 2) := by decide +kernel
theorem dX2_wordOfKind_54 : decode cX2_wordOfKind 54 = .ok (.areturn, 1) := by decide +kernel
theorem dX2_wordOfKind_55 : decode cX2_wordOfKind 55 = .ok (.ldc 132, 2) := by decide +kernel
theorem dX2_wordOfKind_57 : decode cX2_wordOfKind 57 = .ok (.areturn, 1) := by decide +kernel
theorem dX2_wordOfKind_58 : decode cX2_wordOfKind 58 = .ok (.ldc 134, 2) := by decide +kernel
theorem dX2_wordOfKind_60 : decode cX2_wordOfKind 60 = .ok (.areturn, 1) := by decide +kernel
theorem dX2_step_0 : decode cX2_step 0 = .ok (.aload_n 0, 1) := by decide +kernel
theorem dX2_step_1 : decode cX2_step 1 = .ok (.aload_n 0, 1) := by decide +kernel
theorem dX2_step_2 : decode cX2_step 2 = .ok (.getfield 19, 3) := by decide +kernel
theorem dX2_step_5 : decode cX2_step 5 = .ok (.putfield 29, 3) := by decide +kernel
theorem dX2_step_8 : decode cX2_step 8 = .ok (.aload_n 0, 1) := by decide +kernel
theorem dX2_step_9 : decode cX2_step 9 = .ok (.getfield 29, 3) := by decide +kernel
theorem dX2_step_12 : decode cX2_step 12 = .ok (.aload_n 0, 1) := by decide +kernel
theorem dX2_step_13 : decode cX2_step 13 = .ok (.getfield 15, 3) := by decide +kernel
theorem dX2_step_16 : decode cX2_step 16 = .ok (.if_icmp .ge 30, 3) := by decide +kernel
theorem dX2_step_19 : decode cX2_step 19 = .ok (.aload_n 0, 1) := by decide +kernel
theorem dX2_step_20 : decode cX2_step 20 = .ok (.getfield 11, 3) := by decide +kernel
theorem dX2_step_23 : decode cX2_step 23 = .ok (.aload_n 0, 1) := by decide +kernel
theorem dX2_step_24 : decode cX2_step 24 = .ok (.getfield 29, 3) := by decide +kernel
theorem dX2_step_27 : decode cX2_step 27 = .ok (.iaload, 1) := by decide +kernel
theorem dX2_step_28 : decode cX2_step 28 = .ok (.bipush 32, 2) := by decide +kernel
theorem dX2_step_30 : decode cX2_step 30 = .ok (.if_icmp .ne 16, 3) := by decide +kernel
theorem dX2_step_33 : decode cX2_step 33 = .ok (.aload_n 0, 1) := by decide +kernel
theorem dX2_step_34 : decode cX2_step 34 = .ok (.dup, 1) := by decide +kernel
theorem dX2_step_35 : decode cX2_step 35 = .ok (.getfield 29, 3) := by decide +kernel
theorem dX2_step_38 : decode cX2_step 38 = .ok (.iconst 1, 1) := by decide +kernel
theorem dX2_step_39 : decode cX2_step 39 = .ok (.iadd, 1) := by decide +kernel
theorem dX2_step_40 : decode cX2_step 40 = .ok (.putfield 29, 3) := by decide +kernel
theorem dX2_step_43 : decode cX2_step 43 = .ok (.goto (-35), 3) := by decide +kernel
theorem dX2_step_46 : decode cX2_step 46 = .ok (.aload_n 0, 1) := by decide +kernel
theorem dX2_step_47 : decode cX2_step 47 = .ok (.aload_n 0, 1) := by decide +kernel
theorem dX2_step_48 : decode cX2_step 48 = .ok (.getfield 29, 3) := by decide +kernel
theorem dX2_step_51 : decode cX2_step 51 = .ok (.putfield 19, 3) := by decide +kernel
theorem dX2_step_54 : decode cX2_step 54 = .ok (.aload_n 0, 1) := by decide +kernel
theorem dX2_step_55 : decode cX2_step 55 = .ok (.iconst 0, 1) := by decide +kernel
theorem dX2_step_56 : decode cX2_step 56 = .ok (.putfield 93, 3) := by decide +kernel
theorem dX2_step_59 : decode cX2_step 59 = .ok (.aload_n 0, 1) := by decide +kernel
theorem dX2_step_60 : decode cX2_step 60 = .ok (.aload_n 0, 1) := by decide +kernel
theorem dX2_step_61 : decode cX2_step 61 = .ok (.getfield 29, 3) := by decide +kernel
theorem dX2_step_64 : decode cX2_step 64 = .ok (.aload_n 0, 1) := by decide +kernel
theorem dX2_step_65 : decode cX2_step 65 = .ok (.getfield 15, 3) := by decide +kernel
theorem dX2_step_68 : decode cX2_step 68 = .ok (.if_icmp .ge 18, 3) := by decide +kernel
theorem dX2_step_71 : decode cX2_step 71 = .ok (.aload_n 0, 1) := by decide +kernel
theorem dX2_step_72 : decode cX2_step 72 = .ok (.getfield 11, 3) := by decide +kernel
theorem dX2_step_75 : decode cX2_step 75 = .ok (.aload_n 0, 1) := by decide +kernel
theorem dX2_step_76 : decode cX2_step 76 = .ok (.getfield 29, 3) := by decide +kernel
theorem dX2_step_79 : decode cX2_step 79 = .ok (.iaload, 1) := by decide +kernel
theorem dX2_step_80 : decode cX2_step 80 = .ok (.invokestatic 136, 3) := by decide +kernel
theorem dX2_step_83 : decode cX2_step 83 = .ok (.goto 4, 3) := by decide +kernel
theorem dX2_step_86 : decode cX2_step 86 = .ok (.iconst 0, 1) := by decide +kernel
theorem dX2_step_87 : decode cX2_step 87 = .ok (.putfield 32, 3) := by decide +kernel
theorem dX2_step_90 : decode cX2_step 90 = .ok (.aload_n 0, 1) := by decide +kernel
theorem dX2_step_91 : decode cX2_step 91 = .ok (.getfield 32, 3) := by decide +kernel
theorem dX2_step_94 : decode cX2_step 94 = .ok (.ifCond .eq 7, 3) := by decide +kernel
theorem dX2_step_97 : decode cX2_step 97 = .ok (.iconst 1, 1) := by decide +kernel
theorem dX2_step_98 : decode cX2_step 98 = .ok (.goto 4, 3) := by decide +kernel
theorem dX2_step_101 : decode cX2_step 101 = .ok (.iconst 0, 1) := by decide +kernel
theorem dX2_step_102 : decode cX2_step 102 = .ok (.istore_n 1, 1) := by decide +kernel
theorem dX2_step_103 : decode cX2_step 103 = .ok (.iload_n 1, 1) := by decide +kernel
theorem dX2_step_104 : decode cX2_step 104 = .ok (.ifCond .eq 127, 3) := by decide +kernel
theorem dX2_step_107 : decode cX2_step 107 = .ok (.aload_n 0, 1) := by decide +kernel
theorem dX2_step_108 : decode cX2_step 108 = .ok (.getfield 19, 3) := by decide +kernel
theorem dX2_step_111 : decode cX2_step 111 = .ok (.aload_n 0, 1) := by decide +kernel
theorem dX2_step_112 : decode cX2_step 112 = .ok (.getfield 15, 3) := by decide +kernel
theorem dX2_step_115 : decode cX2_step 115 = .ok (.if_icmp .ge 116, 3) := by decide +kernel
theorem dX2_step_118 : decode cX2_step 118 = .ok (.aload_n 0, 1) := by decide +kernel
theorem dX2_step_119 : decode cX2_step 119 = .ok (.getfield 32, 3) := by decide +kernel
theorem dX2_step_122 : decode cX2_step 122 = .ok (.iconst 2, 1) := by decide +kernel
theorem dX2_step_123 : decode cX2_step 123 = .ok (.if_icmp .ne 33, 3) := by decide +kernel
theorem dX2_step_126 : decode cX2_step 126 = .ok (.aload_n 0, 1) := by decide +kernel
theorem dX2_step_127 : decode cX2_step 127 = .ok (.sipush 1000, 3) := by decide +kernel
theorem dX2_step_130 : decode cX2_step 130 = .ok (.aload_n 0, 1) := by decide +kernel
theorem dX2_step_131 : decode cX2_step 131 = .ok (.getfield 93, 3) := by decide +kernel
theorem dX2_step_134 : decode cX2_step 134 = .ok (.bipush 10, 2) := by decide +kernel
theorem dX2_step_136 : decode cX2_step 136 = .ok (.imul, 1) := by decide +kernel
theorem dX2_step_137 : decode cX2_step 137 = .ok (.aload_n 0, 1) := by decide +kernel
theorem dX2_step_138 : decode cX2_step 138 = .ok (.getfield 11, 3) := by decide +kernel
theorem dX2_step_141 : decode cX2_step 141 = .ok (.aload_n 0, 1) := by decide +kernel
theorem dX2_step_142 : decode cX2_step 142 = .ok (.getfield 19, 3) := by decide +kernel
theorem dX2_step_145 : decode cX2_step 145 = .ok (.iaload, 1) := by decide +kernel
theorem dX2_step_146 : decode cX2_step 146 = .ok (.iadd, 1) := by decide +kernel
theorem dX2_step_147 : decode cX2_step 147 = .ok (.bipush 48, 2) := by decide +kernel
theorem dX2_step_149 : decode cX2_step 149 = .ok (.isub, 1) := by decide +kernel
theorem dX2_step_150 : decode cX2_step 150 = .ok (.invokestatic 140, 3) := by decide +kernel
theorem dX2_step_153 : decode cX2_step 153 = .ok (.putfield 93, 3) := by decide +kernel
theorem dX2_step_156 : decode cX2_step 156 = .ok (.aload_n 0, 1) := by decide +kernel
theorem dX2_step_157 : decode cX2_step 157 = .ok (.dup, 1) := by decide +kernel
theorem dX2_step_158 : decode cX2_step 158 = .ok (.getfield 19, 3) := by decide +kernel
theorem dX2_step_161 : decode cX2_step 161 = .ok (.iconst 1, 1) := by decide +kernel
theorem dX2_step_162 : decode cX2_step 162 = .ok (.iadd, 1) := by decide +kernel
theorem dX2_step_163 : decode cX2_step 163 = .ok (.putfield 19, 3) := by decide +kernel
theorem dX2_step_166 : decode cX2_step 166 = .ok (.aload_n 0, 1) := by decide +kernel
theorem dX2_step_167 : decode cX2_step 167 = .ok (.getfield 32, 3) := by decide +kernel
theorem dX2_step_170 : decode cX2_step 170 = .ok (.iconst 1, 1) := by decide +kernel
theorem dX2_step_171 : decode cX2_step 171 = .ok (.if_icmp .eq 11, 3) := by decide +kernel
theorem dX2_step_174 : decode cX2_step 174 = .ok (.aload_n 0, 1) := by decide +kernel
theorem dX2_step_175 : decode cX2_step 175 = .ok (.getfield 32, 3) := by decide +kernel
theorem dX2_step_178 : decode cX2_step 178 = .ok (.iconst 2, 1) := by decide +kernel
theorem dX2_step_179 : decode cX2_step 179 = .ok (.if_icmp .ne 7, 3) := by decide +kernel
theorem dX2_step_182 : decode cX2_step 182 = .ok (.iconst 1, 1) := by decide +kernel
theorem dX2_step_183 : decode cX2_step 183 = .ok (.goto 4, 3) := by decide +kernel
theorem dX2_step_186 : decode cX2_step 186 = .ok (.iconst 0, 1) := by decide +kernel
theorem dX2_step_187 : decode cX2_step 187 = .ok (.istore_n 2, 1) := by decide +kernel
theorem dX2_step_188 : decode cX2_step 188 = .ok (.iload_n 2, 1) := by decide +kernel
theorem dX2_step_189 : decode cX2_step 189 = .ok (.ifCond .eq 37, 3) := by decide +kernel
theorem dX2_step_192 : decode cX2_step 192 = .ok (.aload_n 0, 1) := by decide +kernel
theorem dX2_step_193 : decode cX2_step 193 = .ok (.getfield 19, 3) := by decide +kernel
theorem dX2_step_196 : decode cX2_step 196 = .ok (.aload_n 0, 1) := by decide +kernel
theorem dX2_step_197 : decode cX2_step 197 = .ok (.getfield 15, 3) := by decide +kernel
theorem dX2_step_200 : decode cX2_step 200 = .ok (.if_icmp .ge 26, 3) := by decide +kernel
theorem dX2_step_203 : decode cX2_step 203 = .ok (.aload_n 0, 1) := by decide +kernel
theorem dX2_step_204 : decode cX2_step 204 = .ok (.getfield 11, 3) := by decide +kernel
theorem dX2_step_207 : decode cX2_step 207 = .ok (.aload_n 0, 1) := by decide +kernel
theorem dX2_step_208 : decode cX2_step 208 = .ok (.getfield 19, 3) := by decide +kernel
theorem dX2_step_211 : decode cX2_step 211 = .ok (.iaload, 1) := by decide +kernel
theorem dX2_step_212 : decode cX2_step 212 = .ok (.invokestatic 136, 3) := by decide +kernel
theorem dX2_step_215 : decode cX2_step 215 = .ok (.aload_n 0, 1) := by decide +kernel
theorem dX2_step_216 : decode cX2_step 216 = .ok (.getfield 32, 3) := by decide +kernel
theorem dX2_step_219 : decode cX2_step 219 = .ok (.if_icmp .ne 7, 3) := by decide +kernel
theorem dX2_step_222 : decode cX2_step 222 = .ok (.iconst 1, 1) := by decide +kernel
theorem dX2_step_223 : decode cX2_step 223 = .ok (.goto 4, 3) := by decide +kernel
theorem dX2_step_226 : decode cX2_step 226 = .ok (.iconst 0, 1) := by decide +kernel
theorem dX2_step_227 : decode cX2_step 227 = .ok (.istore_n 1, 1) := by decide +kernel
theorem dX2_step_228 : decode cX2_step 228 = .ok (.goto (-125), 3) := by decide +kernel
theorem dX2_step_231 : decode cX2_step 231 = .ok (.return_, 1) := by decide +kernel
theorem dX2_tokenOfByte_0 : decode cX2_tokenOfByte 0 = .ok (.iload_n 0, 1) := by decide +kernel
theorem dX2_tokenOfByte_1 : decode cX2_tokenOfByte 1 = .ok (.bipush 97, 2) := by decide +kernel
theorem dX2_tokenOfByte_3 : decode cX2_tokenOfByte 3 = .ok (.if_icmp .lt 11, 3) := by decide +kernel
theorem dX2_tokenOfByte_6 : decode cX2_tokenOfByte 6 = .ok (.iload_n 0, 1) := by decide +kernel
theorem dX2_tokenOfByte_7 : decode cX2_tokenOfByte 7 = .ok (.bipush 122, 2) := by decide +kernel
theorem dX2_tokenOfByte_9 : decode cX2_tokenOfByte 9 = .ok (.if_icmp .gt 5, 3) := by decide +kernel
theorem dX2_tokenOfByte_12 : decode cX2_tokenOfByte 12 = .ok (.iconst 1, 1) := by decide +kernel
theorem dX2_tokenOfByte_13 : decode cX2_tokenOfByte 13 = .ok (.ireturn, 1) := by decide +kernel
theorem dX2_tokenOfByte_14 : decode cX2_tokenOfByte 14 = .ok (.iload_n 0, 1) := by decide +kernel
theorem dX2_tokenOfByte_15 : decode cX2_tokenOfByte 15 = .ok (.bipush 48, 2) := by decide +kernel
theorem dX2_tokenOfByte_17 : decode cX2_tokenOfByte 17 = .ok (.if_icmp .lt 11, 3) := by decide +kernel
theorem dX2_tokenOfByte_20 : decode cX2_tokenOfByte 20 = .ok (.iload_n 0, 1) := by decide +kernel
theorem dX2_tokenOfByte_21 : decode cX2_tokenOfByte 21 = .ok (.bipush 57, 2) := by decide +kernel
theorem dX2_tokenOfByte_23 : decode cX2_tokenOfByte 23 = .ok (.if_icmp .gt 5, 3) := by decide +kernel
theorem dX2_tokenOfByte_26 : decode cX2_tokenOfByte 26 = .ok (.iconst 2, 1) := by decide +kernel
theorem dX2_tokenOfByte_27 : decode cX2_tokenOfByte 27 = .ok (.ireturn, 1) := by decide +kernel
theorem dX2_tokenOfByte_28 : decode cX2_tokenOfByte 28 = .ok (.iload_n 0, 1) := by decide +kernel
theorem dX2_tokenOfByte_29 : decode cX2_tokenOfByte 29 = .ok (.bipush 59, 2) := by decide +kernel
theorem dX2_tokenOfByte_31 : decode cX2_tokenOfByte 31 = .ok (.if_icmp .ne 7, 3) := by decide +kernel
theorem dX2_tokenOfByte_34 : decode cX2_tokenOfByte 34 = .ok (.iconst 3, 1) := by decide +kernel
theorem dX2_tokenOfByte_35 : decode cX2_tokenOfByte 35 = .ok (.goto 4, 3) := by decide +kernel
theorem dX2_tokenOfByte_38 : decode cX2_tokenOfByte 38 = .ok (.iconst 4, 1) := by decide +kernel
theorem dX2_tokenOfByte_39 : decode cX2_tokenOfByte 39 = .ok (.ireturn, 1) := by decide +kernel
