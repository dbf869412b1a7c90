theorem dJA_fill0_0 : decode prog_21_method_101_code 0 = .ok (.iconst 0, 1) := by decide +kernel
theorem dJA_fill0_1 : decode prog_21_method_101_code 1 = .ok (.istore_n 3, 1) := by decide +kernel
theorem dJA_fill0_2 : decode prog_21_method_101_code 2 = .ok (.aload_n 0, 1) := by decide +kernel
theorem dJA_fill0_3 : decode prog_21_method_101_code 3 = .ok (.arraylength, 1) := by decide +kernel
theorem dJA_fill0_4 : decode prog_21_method_101_code 4 = .ok (.istore 4, 2) := by decide +kernel
theorem dJA_fill0_6 : decode prog_21_method_101_code 6 = .ok (.iload_n 3, 1) := by decide +kernel
theorem dJA_fill0_7 : decode prog_21_method_101_code 7 = .ok (.iload 4, 2) := by decide +kernel
theorem dJA_fill0_9 : decode prog_21_method_101_code 9 = .ok (.if_icmp .ge 13, 3) := by decide +kernel
theorem dJA_fill0_12 : decode prog_21_method_101_code 12 = .ok (.aload_n 0, 1) := by decide +kernel
theorem dJA_fill0_13 : decode prog_21_method_101_code 13 = .ok (.iload_n 3, 1) := by decide +kernel
theorem dJA_fill0_14 : decode prog_21_method_101_code 14 = .ok (.lload_n 1, 1) := by decide +kernel
theorem dJA_fill0_15 : decode prog_21_method_101_code 15 = .ok (.lastore, 1) := by decide +kernel
theorem dJA_fill0_16 : decode prog_21_method_101_code 16 = .ok (.iinc 3 1, 3) := by decide +kernel
theorem dJA_fill0_19 : decode prog_21_method_101_code 19 = .ok (.goto (-13), 3) := by decide +kernel
theorem dJA_fill0_22 : decode prog_21_method_101_code 22 = .ok (.return_, 1) := by decide +kernel
theorem dJA_fill1_0 : decode prog_21_method_103_code 0 = .ok (.iconst 0, 1) := by decide +kernel
theorem dJA_fill1_1 : decode prog_21_method_103_code 1 = .ok (.istore_n 2, 1) := by decide +kernel
theorem dJA_fill1_2 : decode prog_21_method_103_code 2 = .ok (.aload_n 0, 1) := by decide +kernel
theorem dJA_fill1_3 : decode prog_21_method_103_code 3 = .ok (.arraylength, 1) := by decide +kernel
theorem dJA_fill1_4 : decode prog_21_method_103_code 4 = .ok (.istore_n 3, 1) := by decide +kernel
theorem dJA_fill1_5 : decode prog_21_method_103_code 5 = .ok (.iload_n 2, 1) := by decide +kernel
theorem dJA_fill1_6 : decode prog_21_method_103_code 6 = .ok (.iload_n 3, 1) := by decide +kernel
theorem dJA_fill1_7 : decode prog_21_method_103_code 7 = .ok (.if_icmp .ge 13, 3) := by decide +kernel
theorem dJA_fill1_10 : decode prog_21_method_103_code 10 = .ok (.aload_n 0, 1) := by decide +kernel
theorem dJA_fill1_11 : decode prog_21_method_103_code 11 = .ok (.iload_n 2, 1) := by decide +kernel
theorem dJA_fill1_12 : decode prog_21_method_103_code 12 = .ok (.iload_n 1, 1) := by decide +kernel
theorem dJA_fill1_13 : decode prog_21_method_103_code 13 = .ok (.iastore, 1) := by decide +kernel
theorem dJA_fill1_14 : decode prog_21_method_103_code 14 = .ok (.iinc 2 1, 3) := by decide +kernel
theorem dJA_fill1_17 : decode prog_21_method_103_code 17 = .ok (.goto (-12), 3) := by decide +kernel
theorem dJA_fill1_20 : decode prog_21_method_103_code 20 = .ok (.return_, 1) := by decide +kernel
theorem dJI_bitCount_0 : decode prog_15_method_49_code 0 = .ok (.iload_n 0, 1) := by decide +kernel
theorem dJI_bitCount_1 : decode prog_15_method_49_code 1 = .ok (.iload_n 0, 1) := by decide +kernel
theorem dJI_bitCount_2 : decode prog_15_method_49_code 2 = .ok (.iconst 1, 1) := by decide +kernel
theorem dJI_bitCount_3 : decode prog_15_method_49_code 3 = .ok (.iushr, 1) := by decide +kernel
theorem dJI_bitCount_4 : decode prog_15_method_49_code 4 = .ok (.ldc_w 265, 3) := by decide +kernel
theorem dJI_bitCount_7 : decode prog_15_method_49_code 7 = .ok (.iand, 1) := by decide +kernel
theorem dJI_bitCount_8 : decode prog_15_method_49_code 8 = .ok (.isub, 1) := by decide +kernel
theorem dJI_bitCount_9 : decode prog_15_method_49_code 9 = .ok (.istore_n 0, 1) := by decide +kernel
theorem dJI_bitCount_10 : decode prog_15_method_49_code 10 = .ok (.iload_n 0, 1) := by decide +kernel
theorem dJI_bitCount_11 : decode prog_15_method_49_code 11 = .ok (.ldc_w 266, 3) := by decide +kernel
theorem dJI_bitCount_14 : decode prog_15_method_49_code 14 = .ok (.iand, 1) := by decide +kernel
theorem dJI_bitCount_15 : decode prog_15_method_49_code 15 = .ok (.iload_n 0, 1) := by decide +kernel
theorem dJI_bitCount_16 : decode prog_15_method_49_code 16 = .ok (.iconst 2, 1) := by decide +kernel
theorem dJI_bitCount_17 : decode prog_15_method_49_code 17 = .ok (.iushr, 1) := by decide +kernel
theorem dJI_bitCount_18 : decode prog_15_method_49_code 18 = .ok (.ldc_w 266, 3) := by decide +kernel
theorem dJI_bitCount_21 : decode prog_15_method_49_code 21 = .ok (.iand, 1) := by decide +kernel
theorem dJI_bitCount_22 : decode prog_15_method_49_code 22 = .ok (.iadd, 1) := by decide +kernel
theorem dJI_bitCount_23 : decode prog_15_method_49_code 23 = .ok (.istore_n 0, 1) := by decide +kernel
theorem dJI_bitCount_24 : decode prog_15_method_49_code 24 = .ok (.iload_n 0, 1) := by decide +kernel
theorem dJI_bitCount_25 : decode prog_15_method_49_code 25 = .ok (.iload_n 0, 1) := by decide +kernel
theorem dJI_bitCount_26 : decode prog_15_method_49_code 26 = .ok (.iconst 4, 1) := by decide +kernel
theorem dJI_bitCount_27 : decode prog_15_method_49_code 27 = .ok (.iushr, 1) := by decide +kernel
theorem dJI_bitCount_28 : decode prog_15_method_49_code 28 = .ok (.iadd, 1) := by decide +kernel
theorem dJI_bitCount_29 : decode prog_15_method_49_code 29 = .ok (.ldc_w 267, 3) := by decide +kernel
theorem dJI_bitCount_32 : decode prog_15_method_49_code 32 = .ok (.iand, 1) := by decide +kernel
theorem dJI_bitCount_33 : decode prog_15_method_49_code 33 = .ok (.istore_n 0, 1) := by decide +kernel
theorem dJI_bitCount_34 : decode prog_15_method_49_code 34 = .ok (.iload_n 0, 1) := by decide +kernel
theorem dJI_bitCount_35 : decode prog_15_method_49_code 35 = .ok (.iload_n 0, 1) := by decide +kernel
theorem dJI_bitCount_36 : decode prog_15_method_49_code 36 = .ok (.bipush 8, 2) := by decide +kernel
theorem dJI_bitCount_38 : decode prog_15_method_49_code 38 = .ok (.iushr, 1) := by decide +kernel
theorem dJI_bitCount_39 : decode prog_15_method_49_code 39 = .ok (.iadd, 1) := by decide +kernel
theorem dJI_bitCount_40 : decode prog_15_method_49_code 40 = .ok (.istore_n 0, 1) := by decide +kernel
theorem dJI_bitCount_41 : decode prog_15_method_49_code 41 = .ok (.iload_n 0, 1) := by decide +kernel
theorem dJI_bitCount_42 : decode prog_15_method_49_code 42 = .ok (.iload_n 0, 1) := by decide +kernel
theorem dJI_bitCount_43 : decode prog_15_method_49_code 43 = .ok (.bipush 16, 2) := by decide +kernel
theorem dJI_bitCount_45 : decode prog_15_method_49_code 45 = .ok (.iushr, 1) := by decide +kernel
theorem dJI_bitCount_46 : decode prog_15_method_49_code 46 = .ok (.iadd, 1) := by decide +kernel
theorem dJI_bitCount_47 : decode prog_15_method_49_code 47 = .ok (.istore_n 0, 1) := by decide +kernel
theorem dJI_bitCount_48 : decode prog_15_method_49_code 48 = .ok (.iload_n 0, 1) := by decide +kernel
theorem dJI_bitCount_49 : decode prog_15_method_49_code 49 = .ok (.bipush 63, 2) := by decide +kernel
theorem dJI_bitCount_51 : decode prog_15_method_49_code 51 = .ok (.iand, 1) := by decide +kernel
theorem dJI_bitCount_52 : decode prog_15_method_49_code 52 = .ok (.ireturn, 1) := by decide +kernel
theorem dJM_abs0_0 : decode prog_16_method_59_code 0 = .ok (.iload_n 0, 1) := by decide +kernel
theorem dJM_abs0_1 : decode prog_16_method_59_code 1 = .ok (.ifCond .ge 8, 3) := by decide +kernel
theorem dJM_abs0_4 : decode prog_16_method_59_code 4 = .ok (.iload_n 0, 1) := by decide +kernel
theorem dJM_abs0_5 : decode prog_16_method_59_code 5 = .ok (.ineg, 1) := by decide +kernel
theorem dJM_abs0_6 : decode prog_16_method_59_code 6 = .ok (.goto 4, 3) := by decide +kernel
theorem dJM_abs0_9 : decode prog_16_method_59_code 9 = .ok (.iload_n 0, 1) := by decide +kernel
theorem dJM_abs0_10 : decode prog_16_method_59_code 10 = .ok (.ireturn, 1) := by decide +kernel
theorem dJM_abs1_0 : decode prog_16_method_61_code 0 = .ok (.lload_n 0, 1) := by decide +kernel
theorem dJM_abs1_1 : decode prog_16_method_61_code 1 = .ok (.lconst 0, 1) := by decide +kernel
theorem dJM_abs1_2 : decode prog_16_method_61_code 2 = .ok (.lcmp, 1) := by decide +kernel
theorem dJM_abs1_3 : decode prog_16_method_61_code 3 = .ok (.ifCond .ge 8, 3) := by decide +kernel
theorem dJM_abs1_6 : decode prog_16_method_61_code 6 = .ok (.lload_n 0, 1) := by decide +kernel
theorem dJM_abs1_7 : decode prog_16_method_61_code 7 = .ok (.lneg, 1) := by decide +kernel
theorem dJM_abs1_8 : decode prog_16_method_61_code 8 = .ok (.goto 4, 3) := by decide +kernel
theorem dJM_abs1_11 : decode prog_16_method_61_code 11 = .ok (.lload_n 0, 1) := by decide +kernel
theorem dJM_abs1_12 : decode prog_16_method_61_code 12 = .ok (.lreturn, 1) := by decide +kernel
theorem dJM_max0_0 : decode prog_16_method_65_code 0 = .ok (.iload_n 0, 1) := by decide +kernel
theorem dJM_max0_1 : decode prog_16_method_65_code 1 = .ok (.iload_n 1, 1) := by decide +kernel
theorem dJM_max0_2 : decode prog_16_method_65_code 2 = .ok (.if_icmp .lt 7, 3) := by decide +kernel
theorem dJM_max0_5 : decode prog_16_method_65_code 5 = .ok (.iload_n 0, 1) := by decide +kernel
theorem dJM_max0_6 : decode prog_16_method_65_code 6 = .ok (.goto 4, 3) := by decide +kernel
theorem dJM_max0_9 : decode prog_16_method_65_code 9 = .ok (.iload_n 1, 1) := by decide +kernel
theorem dJM_max0_10 : decode prog_16_method_65_code 10 = .ok (.ireturn, 1) := by decide +kernel
theorem dJM_max1_0 : decode prog_16_method_66_code 0 = .ok (.lload_n 0, 1) := by decide +kernel
theorem dJM_max1_1 : decode prog_16_method_66_code 1 = .ok (.lload_n 2, 1) := by decide +kernel
theorem dJM_max1_2 : decode prog_16_method_66_code 2 = .ok (.lcmp, 1) := by decide +kernel
theorem dJM_max1_3 : decode prog_16_method_66_code 3 = .ok (.ifCond .lt 7, 3) := by decide +kernel
theorem dJM_max1_6 : decode prog_16_method_66_code 6 = .ok (.lload_n 0, 1) := by decide +kernel
theorem dJM_max1_7 : decode prog_16_method_66_code 7 = .ok (.goto 4, 3) := by decide +kernel
theorem dJM_max1_10 : decode prog_16_method_66_code 10 = .ok (.lload_n 2, 1) := by decide +kernel
theorem dJM_max1_11 : decode prog_16_method_66_code 11 = .ok (.lreturn, 1) := by decide +kernel
theorem dJM_min0_0 : decode prog_16_method_69_code 0 = .ok (.iload_n 0, 1) := by decide +kernel
theorem dJM_min0_1 : decode prog_16_method_69_code 1 = .ok (.iload_n 1, 1) := by decide +kernel
theorem dJM_min0_2 : decode prog_16_method_69_code 2 = .ok (.if_icmp .gt 7, 3) := by decide +kernel
theorem dJM_min0_5 : decode prog_16_method_69_code 5 = .ok (.iload_n 0, 1) := by decide +kernel
theorem dJM_min0_6 : decode prog_16_method_69_code 6 = .ok (.goto 4, 3) := by decide +kernel
theorem dJM_min0_9 : decode prog_16_method_69_code 9 = .ok (.iload_n 1, 1) := by decide +kernel
theorem dJM_min0_10 : decode prog_16_method_69_code 10 = .ok (.ireturn, 1) := by decide +kernel
theorem dJM_min1_0 : decode prog_16_method_70_code 0 = .ok (.lload_n 0, 1) := by decide +kernel
theorem dJM_min1_1 : decode prog_16_method_70_code 1 = .ok (.lload_n 2, 1) := by decide +kernel
theorem dJM_min1_2 : decode prog_16_method_70_code 2 = .ok (.lcmp, 1) := by decide +kernel
theorem dJM_min1_3 : decode prog_16_method_70_code 3 = .ok (.ifCond .gt 7, 3) := by decide +kernel
theorem dJM_min1_6 : decode prog_16_method_70_code 6 = .ok (.lload_n 0, 1) := by decide +kernel
theorem dJM_min1_7 : decode prog_16_method_70_code 7 = .ok (.goto 4, 3) := by decide +kernel
theorem dJM_min1_10 : decode prog_16_method_70_code 10 = .ok (.lload_n 2, 1) := by decide +kernel
theorem dJM_min1_11 : decode prog_16_method_70_code 11 = .ok (.lreturn, 1) := by decide +kernel
theorem dM_alarm_0 : decode prog_14_method_95_code 0 = .ok (.aload_n 0, 1) := by decide +kernel
theorem dM_alarm_1 : decode prog_14_method_95_code 1 = .ok (.iload_n 1, 1) := by decide +kernel
theorem dM_alarm_2 : decode prog_14_method_95_code 2 = .ok (.invokevirtual 287, 3) := by decide +kernel
theorem dM_alarm_5 : decode prog_14_method_95_code 5 = .ok (.ifCond .eq 15, 3) := by decide +kernel
theorem dM_alarm_8 : decode prog_14_method_95_code 8 = .ok (.iload_n 2, 1) := by decide +kernel
theorem dM_alarm_9 : decode prog_14_method_95_code 9 = .ok (.i2l, 1) := by decide +kernel
theorem dM_alarm_10 : decode prog_14_method_95_code 10 = .ok (.lconst 0, 1) := by decide +kernel
theorem dM_alarm_11 : decode prog_14_method_95_code 11 = .ok (.ldc2_w 243, 3) := by decide +kernel
theorem dM_alarm_14 : decode prog_14_method_95_code 14 = .ok (.invokestatic 222, 3) := by decide +kernel
theorem dM_alarm_17 : decode prog_14_method_95_code 17 = .ok (.ifCond .ne 5, 3) := by decide +kernel
theorem dM_alarm_20 : decode prog_14_method_95_code 20 = .ok (.iconst (-1), 1) := by decide +kernel
theorem dM_alarm_21 : decode prog_14_method_95_code 21 = .ok (.ireturn, 1) := by decide +kernel
theorem dM_alarm_22 : decode prog_14_method_95_code 22 = .ok (.iconst (-1), 1) := by decide +kernel
theorem dM_alarm_23 : decode prog_14_method_95_code 23 = .ok (.istore_n 3, 1) := by decide +kernel
theorem dM_alarm_24 : decode prog_14_method_95_code 24 = .ok (.iconst 0, 1) := by decide +kernel
theorem dM_alarm_25 : decode prog_14_method_95_code 25 = .ok (.istore 4, 2) := by decide +kernel
theorem dM_alarm_27 : decode prog_14_method_95_code 27 = .ok (.iload 4, 2) := by decide +kernel
theorem dM_alarm_29 : decode prog_14_method_95_code 29 = .ok (.aload_n 0, 1) := by decide +kernel
theorem dM_alarm_30 : decode prog_14_method_95_code 30 = .ok (.getfield 216, 3) := by decide +kernel
theorem dM_alarm_33 : decode prog_14_method_95_code 33 = .ok (.if_icmp .ge 87, 3) := by decide +kernel
theorem dM_alarm_36 : decode prog_14_method_95_code 36 = .ok (.aload_n 0, 1) := by decide +kernel
theorem dM_alarm_37 : decode prog_14_method_95_code 37 = .ok (.iload 4, 2) := by decide +kernel
theorem dM_alarm_39 : decode prog_14_method_95_code 39 = .ok (.invokevirtual 229, 3) := by decide +kernel
theorem dM_alarm_42 : decode prog_14_method_95_code 42 = .ok (.ifCond .ne 6, 3) := by decide +kernel
theorem dM_alarm_45 : decode prog_14_method_95_code 45 = .ok (.goto 69, 3) := by decide +kernel
theorem dM_alarm_48 : decode prog_14_method_95_code 48 = .ok (.iload_n 3, 1) := by decide +kernel
theorem dM_alarm_49 : decode prog_14_method_95_code 49 = .ok (.iconst (-1), 1) := by decide +kernel
theorem dM_alarm_50 : decode prog_14_method_95_code 50 = .ok (.if_icmp .eq 61, 3) := by decide +kernel
theorem dM_alarm_53 : decode prog_14_method_95_code 53 = .ok (.aload_n 0, 1) := by decide +kernel
theorem dM_alarm_54 : decode prog_14_method_95_code 54 = .ok (.getfield 160, 3) := by decide +kernel
theorem dM_alarm_57 : decode prog_14_method_95_code 57 = .ok (.iload_n 1, 1) := by decide +kernel
theorem dM_alarm_58 : decode prog_14_method_95_code 58 = .ok (.aaload, 1) := by decide +kernel
theorem dM_alarm_59 : decode prog_14_method_95_code 59 = .ok (.iload_n 3, 1) := by decide +kernel
theorem dM_alarm_60 : decode prog_14_method_95_code 60 = .ok (.laload, 1) := by decide +kernel
theorem dM_alarm_61 : decode prog_14_method_95_code 61 = .ok (.lstore 5, 2) := by decide +kernel
theorem dM_alarm_63 : decode prog_14_method_95_code 63 = .ok (.aload_n 0, 1) := by decide +kernel
theorem dM_alarm_64 : decode prog_14_method_95_code 64 = .ok (.getfield 160, 3) := by decide +kernel
theorem dM_alarm_67 : decode prog_14_method_95_code 67 = .ok (.iload_n 1, 1) := by decide +kernel
theorem dM_alarm_68 : decode prog_14_method_95_code 68 = .ok (.aaload, 1) := by decide +kernel
theorem dM_alarm_69 : decode prog_14_method_95_code 69 = .ok (.iload 4, 2) := by decide +kernel
theorem dM_alarm_71 : decode prog_14_method_95_code 71 = .ok (.laload, 1) := by decide +kernel
theorem dM_alarm_72 : decode prog_14_method_95_code 72 = .ok (.lstore 7, 2) := by decide +kernel
theorem dM_alarm_74 : decode prog_14_method_95_code 74 = .ok (.ldc2_w 243, 3) := by decide +kernel
theorem dM_alarm_77 : decode prog_14_method_95_code 77 = .ok (.lload 7, 2) := by decide +kernel
theorem dM_alarm_79 : decode prog_14_method_95_code 79 = .ok (.lload 5, 2) := by decide +kernel
theorem dM_alarm_81 : decode prog_14_method_95_code 81 = .ok (.lcmp, 1) := by decide +kernel
theorem dM_alarm_82 : decode prog_14_method_95_code 82 = .ok (.ifCond .le 11, 3) := by decide +kernel
theorem dM_alarm_85 : decode prog_14_method_95_code 85 = .ok (.lload 7, 2) := by decide +kernel
theorem dM_alarm_87 : decode prog_14_method_95_code 87 = .ok (.lload 5, 2) := by decide +kernel
theorem dM_alarm_89 : decode prog_14_method_95_code 89 = .ok (.lsub, 1) := by decide +kernel
theorem dM_alarm_90 : decode prog_14_method_95_code 90 = .ok (.goto 8, 3) := by decide +kernel
theorem dM_alarm_93 : decode prog_14_method_95_code 93 = .ok (.lload 5, 2) := by decide +kernel
theorem dM_alarm_95 : decode prog_14_method_95_code 95 = .ok (.lload 7, 2) := by decide +kernel
theorem dM_alarm_97 : decode prog_14_method_95_code 97 = .ok (.lsub, 1) := by decide +kernel
theorem dM_alarm_98 : decode prog_14_method_95_code 98 = .ok (.lmul, 1) := by decide +kernel
theorem dM_alarm_99 : decode prog_14_method_95_code 99 = .ok (.iload_n 2, 1) := by decide +kernel
theorem dM_alarm_100 : decode prog_14_method_95_code 100 = .ok (.i2l, 1) := by decide +kernel
theorem dM_alarm_101 : decode prog_14_method_95_code 101 = .ok (.lload 5, 2) := by decide +kernel
theorem dM_alarm_103 : decode prog_14_method_95_code 103 = .ok (.lmul, 1) := by decide +kernel
theorem dM_alarm_104 : decode prog_14_method_95_code 104 = .ok (.lcmp, 1) := by decide +kernel
theorem dM_alarm_105 : decode prog_14_method_95_code 105 = .ok (.ifCond .le 6, 3) := by decide +kernel
theorem dM_alarm_108 : decode prog_14_method_95_code 108 = .ok (.iload 4, 2) := by decide +kernel
theorem dM_alarm_110 : decode prog_14_method_95_code 110 = .ok (.ireturn, 1) := by decide +kernel
theorem dM_alarm_111 : decode prog_14_method_95_code 111 = .ok (.iload 4, 2) := by decide +kernel
theorem dM_alarm_113 : decode prog_14_method_95_code 113 = .ok (.istore_n 3, 1) := by decide +kernel
theorem dM_alarm_114 : decode prog_14_method_95_code 114 = .ok (.iinc 4 1, 3) := by decide +kernel
theorem dM_alarm_117 : decode prog_14_method_95_code 117 = .ok (.goto (-90), 3) := by decide +kernel
theorem dM_alarm_120 : decode prog_14_method_95_code 120 = .ok (.iconst (-1), 1) := by decide +kernel
theorem dM_alarm_121 : decode prog_14_method_95_code 121 = .ok (.ireturn, 1) := by decide +kernel
theorem dM_asks0_0 : decode prog_14_method_74_code 0 = .ok (.aload_n 0, 1) := by decide +kernel
theorem dM_asks0_1 : decode prog_14_method_74_code 1 = .ok (.aload_n 0, 1) := by decide +kernel
theorem dM_asks0_2 : decode prog_14_method_74_code 2 = .ok (.iload_n 2, 1) := by decide +kernel
theorem dM_asks0_3 : decode prog_14_method_74_code 3 = .ok (.invokevirtual 486, 3) := by decide +kernel
theorem dM_asks0_6 : decode prog_14_method_74_code 6 = .ok (.iload_n 2, 1) := by decide +kernel
theorem dM_asks0_7 : decode prog_14_method_74_code 7 = .ok (.iconst 0, 1) := by decide +kernel
theorem dM_asks0_8 : decode prog_14_method_74_code 8 = .ok (.invokevirtual 471, 3) := by decide +kernel
theorem dM_asks0_11 : decode prog_14_method_74_code 11 = .ok (.aload_n 0, 1) := by decide +kernel
theorem dM_asks0_12 : decode prog_14_method_74_code 12 = .ok (.iload_n 1, 1) := by decide +kernel
theorem dM_asks0_13 : decode prog_14_method_74_code 13 = .ok (.iload_n 2, 1) := by decide +kernel
theorem dM_asks0_14 : decode prog_14_method_74_code 14 = .ok (.iload_n 3, 1) := by decide +kernel
theorem dM_asks0_15 : decode prog_14_method_74_code 15 = .ok (.invokevirtual 499, 3) := by decide +kernel
theorem dM_asks0_18 : decode prog_14_method_74_code 18 = .ok (.iconst 0, 1) := by decide +kernel
theorem dM_asks0_19 : decode prog_14_method_74_code 19 = .ok (.istore 4, 2) := by decide +kernel
theorem dM_asks0_21 : decode prog_14_method_74_code 21 = .ok (.iload 4, 2) := by decide +kernel
theorem dM_asks0_23 : decode prog_14_method_74_code 23 = .ok (.bipush 20, 2) := by decide +kernel
theorem dM_asks0_25 : decode prog_14_method_74_code 25 = .ok (.if_icmp .ge 17, 3) := by decide +kernel
theorem dM_asks0_28 : decode prog_14_method_74_code 28 = .ok (.aload_n 0, 1) := by decide +kernel
theorem dM_asks0_29 : decode prog_14_method_74_code 29 = .ok (.iload_n 1, 1) := by decide +kernel
theorem dM_asks0_30 : decode prog_14_method_74_code 30 = .ok (.iload 4, 2) := by decide +kernel
theorem dM_asks0_32 : decode prog_14_method_74_code 32 = .ok (.iload_n 2, 1) := by decide +kernel
theorem dM_asks0_33 : decode prog_14_method_74_code 33 = .ok (.invokevirtual 502, 3) := by decide +kernel
theorem dM_asks0_36 : decode prog_14_method_74_code 36 = .ok (.iinc 4 1, 3) := by decide +kernel
theorem dM_asks0_39 : decode prog_14_method_74_code 39 = .ok (.goto (-18), 3) := by decide +kernel
theorem dM_asks0_42 : decode prog_14_method_74_code 42 = .ok (.return_, 1) := by decide +kernel
theorem dM_asks1_0 : decode prog_14_method_75_code 0 = .ok (.aload_n 0, 1) := by decide +kernel
theorem dM_asks1_1 : decode prog_14_method_75_code 1 = .ok (.iload_n 1, 1) := by decide +kernel
theorem dM_asks1_2 : decode prog_14_method_75_code 2 = .ok (.iload_n 2, 1) := by decide +kernel
theorem dM_asks1_3 : decode prog_14_method_75_code 3 = .ok (.aload_n 0, 1) := by decide +kernel
theorem dM_asks1_4 : decode prog_14_method_75_code 4 = .ok (.iload_n 1, 1) := by decide +kernel
theorem dM_asks1_5 : decode prog_14_method_75_code 5 = .ok (.iload_n 2, 1) := by decide +kernel
theorem dM_asks1_6 : decode prog_14_method_75_code 6 = .ok (.iconst 4, 1) := by decide +kernel
theorem dM_asks1_7 : decode prog_14_method_75_code 7 = .ok (.invokevirtual 305, 3) := by decide +kernel
theorem dM_asks1_10 : decode prog_14_method_75_code 10 = .ok (.invokevirtual 505, 3) := by decide +kernel
theorem dM_asks1_13 : decode prog_14_method_75_code 13 = .ok (.return_, 1) := by decide +kernel
theorem dM_assets_0 : decode prog_14_method_51_code 0 = .ok (.aload_n 0, 1) := by decide +kernel
theorem dM_assets_1 : decode prog_14_method_51_code 1 = .ok (.getfield 137, 3) := by decide +kernel
theorem dM_assets_4 : decode prog_14_method_51_code 4 = .ok (.iload_n 1, 1) := by decide +kernel
theorem dM_assets_5 : decode prog_14_method_51_code 5 = .ok (.laload, 1) := by decide +kernel
theorem dM_assets_6 : decode prog_14_method_51_code 6 = .ok (.lstore_n 3, 1) := by decide +kernel
theorem dM_assets_7 : decode prog_14_method_51_code 7 = .ok (.iconst 0, 1) := by decide +kernel
theorem dM_assets_8 : decode prog_14_method_51_code 8 = .ok (.istore 5, 2) := by decide +kernel
theorem dM_assets_10 : decode prog_14_method_51_code 10 = .ok (.iload 5, 2) := by decide +kernel
theorem dM_assets_12 : decode prog_14_method_51_code 12 = .ok (.bipush 8, 2) := by decide +kernel
theorem dM_assets_14 : decode prog_14_method_51_code 14 = .ok (.if_icmp .ge 52, 3) := by decide +kernel
theorem dM_assets_17 : decode prog_14_method_51_code 17 = .ok (.lload_n 3, 1) := by decide +kernel
theorem dM_assets_18 : decode prog_14_method_51_code 18 = .ok (.aload_n 0, 1) := by decide +kernel
theorem dM_assets_19 : decode prog_14_method_51_code 19 = .ok (.getfield 145, 3) := by decide +kernel
theorem dM_assets_22 : decode prog_14_method_51_code 22 = .ok (.iload_n 1, 1) := by decide +kernel
theorem dM_assets_23 : decode prog_14_method_51_code 23 = .ok (.aaload, 1) := by decide +kernel
theorem dM_assets_24 : decode prog_14_method_51_code 24 = .ok (.iload 5, 2) := by decide +kernel
theorem dM_assets_26 : decode prog_14_method_51_code 26 = .ok (.laload, 1) := by decide +kernel
theorem dM_assets_27 : decode prog_14_method_51_code 27 = .ok (.aload_n 0, 1) := by decide +kernel
theorem dM_assets_28 : decode prog_14_method_51_code 28 = .ok (.getfield 125, 3) := by decide +kernel
theorem dM_assets_31 : decode prog_14_method_51_code 31 = .ok (.iload 5, 2) := by decide +kernel
theorem dM_assets_33 : decode prog_14_method_51_code 33 = .ok (.aaload, 1) := by decide +kernel
theorem dM_assets_34 : decode prog_14_method_51_code 34 = .ok (.iload_n 2, 1) := by decide +kernel
theorem dM_assets_35 : decode prog_14_method_51_code 35 = .ok (.iaload, 1) := by decide +kernel
theorem dM_assets_36 : decode prog_14_method_51_code 36 = .ok (.i2l, 1) := by decide +kernel
theorem dM_assets_37 : decode prog_14_method_51_code 37 = .ok (.lmul, 1) := by decide +kernel
theorem dM_assets_38 : decode prog_14_method_51_code 38 = .ok (.aload_n 0, 1) := by decide +kernel
theorem dM_assets_39 : decode prog_14_method_51_code 39 = .ok (.getfield 128, 3) := by decide +kernel
theorem dM_assets_42 : decode prog_14_method_51_code 42 = .ok (.aload_n 0, 1) := by decide +kernel
theorem dM_assets_43 : decode prog_14_method_51_code 43 = .ok (.getfield 41, 3) := by decide +kernel
theorem dM_assets_46 : decode prog_14_method_51_code 46 = .ok (.iload 5, 2) := by decide +kernel
theorem dM_assets_48 : decode prog_14_method_51_code 48 = .ok (.iaload, 1) := by decide +kernel
theorem dM_assets_49 : decode prog_14_method_51_code 49 = .ok (.aaload, 1) := by decide +kernel
theorem dM_assets_50 : decode prog_14_method_51_code 50 = .ok (.iload_n 2, 1) := by decide +kernel
theorem dM_assets_51 : decode prog_14_method_51_code 51 = .ok (.iaload, 1) := by decide +kernel
theorem dM_assets_52 : decode prog_14_method_51_code 52 = .ok (.i2l, 1) := by decide +kernel
theorem dM_assets_53 : decode prog_14_method_51_code 53 = .ok (.lmul, 1) := by decide +kernel
theorem dM_assets_54 : decode prog_14_method_51_code 54 = .ok (.ldc2_w 247, 3) := by decide +kernel
theorem dM_assets_57 : decode prog_14_method_51_code 57 = .ok (.ldiv, 1) := by decide +kernel
theorem dM_assets_58 : decode prog_14_method_51_code 58 = .ok (.ladd, 1) := by decide +kernel
theorem dM_assets_59 : decode prog_14_method_51_code 59 = .ok (.lstore_n 3, 1) := by decide +kernel
theorem dM_assets_60 : decode prog_14_method_51_code 60 = .ok (.iinc 5 1, 3) := by decide +kernel
theorem dM_assets_63 : decode prog_14_method_51_code 63 = .ok (.goto (-53), 3) := by decide +kernel
theorem dM_assets_66 : decode prog_14_method_51_code 66 = .ok (.iconst 0, 1) := by decide +kernel
theorem dM_assets_67 : decode prog_14_method_51_code 67 = .ok (.istore 5, 2) := by decide +kernel
theorem dM_assets_69 : decode prog_14_method_51_code 69 = .ok (.iload 5, 2) := by decide +kernel
theorem dM_assets_71 : decode prog_14_method_51_code 71 = .ok (.iload_n 1, 1) := by decide +kernel
theorem dM_assets_72 : decode prog_14_method_51_code 72 = .ok (.if_icmp .ge 38, 3) := by decide +kernel
theorem dM_assets_75 : decode prog_14_method_51_code 75 = .ok (.lload_n 3, 1) := by decide +kernel
theorem dM_assets_76 : decode prog_14_method_51_code 76 = .ok (.aload_n 0, 1) := by decide +kernel
theorem dM_assets_77 : decode prog_14_method_51_code 77 = .ok (.getfield 154, 3) := by decide +kernel
theorem dM_assets_80 : decode prog_14_method_51_code 80 = .ok (.iload 5, 2) := by decide +kernel
theorem dM_assets_82 : decode prog_14_method_51_code 82 = .ok (.aaload, 1) := by decide +kernel
theorem dM_assets_83 : decode prog_14_method_51_code 83 = .ok (.bipush 16, 2) := by decide +kernel
theorem dM_assets_85 : decode prog_14_method_51_code 85 = .ok (.iload_n 1, 1) := by decide +kernel
theorem dM_assets_86 : decode prog_14_method_51_code 86 = .ok (.iadd, 1) := by decide +kernel
theorem dM_assets_87 : decode prog_14_method_51_code 87 = .ok (.laload, 1) := by decide +kernel
theorem dM_assets_88 : decode prog_14_method_51_code 88 = .ok (.aload_n 0, 1) := by decide +kernel
theorem dM_assets_89 : decode prog_14_method_51_code 89 = .ok (.getfield 148, 3) := by decide +kernel
theorem dM_assets_92 : decode prog_14_method_51_code 92 = .ok (.iload 5, 2) := by decide +kernel
theorem dM_assets_94 : decode prog_14_method_51_code 94 = .ok (.aaload, 1) := by decide +kernel
theorem dM_assets_95 : decode prog_14_method_51_code 95 = .ok (.iload_n 2, 1) := by decide +kernel
theorem dM_assets_96 : decode prog_14_method_51_code 96 = .ok (.laload, 1) := by decide +kernel
theorem dM_assets_97 : decode prog_14_method_51_code 97 = .ok (.lmul, 1) := by decide +kernel
theorem dM_assets_98 : decode prog_14_method_51_code 98 = .ok (.ldc2_w 249, 3) := by decide +kernel
theorem dM_assets_101 : decode prog_14_method_51_code 101 = .ok (.ldiv, 1) := by decide +kernel
theorem dM_assets_102 : decode prog_14_method_51_code 102 = .ok (.ladd, 1) := by decide +kernel
theorem dM_assets_103 : decode prog_14_method_51_code 103 = .ok (.lstore_n 3, 1) := by decide +kernel
theorem dM_assets_104 : decode prog_14_method_51_code 104 = .ok (.iinc 5 1, 3) := by decide +kernel
theorem dM_assets_107 : decode prog_14_method_51_code 107 = .ok (.goto (-38), 3) := by decide +kernel
theorem dM_assets_110 : decode prog_14_method_51_code 110 = .ok (.lload_n 3, 1) := by decide +kernel
theorem dM_assets_111 : decode prog_14_method_51_code 111 = .ok (.lreturn, 1) := by decide +kernel
theorem dM_audit_0 : decode prog_14_method_87_code 0 = .ok (.aload_n 0, 1) := by decide +kernel
theorem dM_audit_1 : decode prog_14_method_87_code 1 = .ok (.iload_n 1, 1) := by decide +kernel
theorem dM_audit_2 : decode prog_14_method_87_code 2 = .ok (.iload_n 2, 1) := by decide +kernel
theorem dM_audit_3 : decode prog_14_method_87_code 3 = .ok (.invokevirtual 479, 3) := by decide +kernel
theorem dM_audit_6 : decode prog_14_method_87_code 6 = .ok (.ifCond .eq 24, 3) := by decide +kernel
theorem dM_audit_9 : decode prog_14_method_87_code 9 = .ok (.iload_n 3, 1) := by decide +kernel
theorem dM_audit_10 : decode prog_14_method_87_code 10 = .ok (.i2l, 1) := by decide +kernel
theorem dM_audit_11 : decode prog_14_method_87_code 11 = .ok (.lconst 0, 1) := by decide +kernel
theorem dM_audit_12 : decode prog_14_method_87_code 12 = .ok (.ldc2_w 433, 3) := by decide +kernel
theorem dM_audit_15 : decode prog_14_method_87_code 15 = .ok (.invokestatic 222, 3) := by decide +kernel
theorem dM_audit_18 : decode prog_14_method_87_code 18 = .ok (.ifCond .eq 12, 3) := by decide +kernel
theorem dM_audit_21 : decode prog_14_method_87_code 21 = .ok (.aload_n 0, 1) := by decide +kernel
theorem dM_audit_22 : decode prog_14_method_87_code 22 = .ok (.getfield 523, 3) := by decide +kernel
theorem dM_audit_25 : decode prog_14_method_87_code 25 = .ok (.bipush 8, 2) := by decide +kernel
theorem dM_audit_27 : decode prog_14_method_87_code 27 = .ok (.if_icmp .ne 5, 3) := by decide +kernel
theorem dM_audit_30 : decode prog_14_method_87_code 30 = .ok (.iconst (-1), 1) := by decide +kernel
theorem dM_audit_31 : decode prog_14_method_87_code 31 = .ok (.ireturn, 1) := by decide +kernel
theorem dM_audit_32 : decode prog_14_method_87_code 32 = .ok (.aload_n 0, 1) := by decide +kernel
theorem dM_audit_33 : decode prog_14_method_87_code 33 = .ok (.getfield 184, 3) := by decide +kernel
theorem dM_audit_36 : decode prog_14_method_87_code 36 = .ok (.aload_n 0, 1) := by decide +kernel
theorem dM_audit_37 : decode prog_14_method_87_code 37 = .ok (.getfield 523, 3) := by decide +kernel
theorem dM_audit_40 : decode prog_14_method_87_code 40 = .ok (.iload_n 1, 1) := by decide +kernel
theorem dM_audit_41 : decode prog_14_method_87_code 41 = .ok (.iastore, 1) := by decide +kernel
theorem dM_audit_42 : decode prog_14_method_87_code 42 = .ok (.aload_n 0, 1) := by decide +kernel
theorem dM_audit_43 : decode prog_14_method_87_code 43 = .ok (.getfield 187, 3) := by decide +kernel
theorem dM_audit_46 : decode prog_14_method_87_code 46 = .ok (.aload_n 0, 1) := by decide +kernel
theorem dM_audit_47 : decode prog_14_method_87_code 47 = .ok (.getfield 523, 3) := by decide +kernel
theorem dM_audit_50 : decode prog_14_method_87_code 50 = .ok (.iload_n 2, 1) := by decide +kernel
theorem dM_audit_51 : decode prog_14_method_87_code 51 = .ok (.iastore, 1) := by decide +kernel
theorem dM_audit_52 : decode prog_14_method_87_code 52 = .ok (.aload_n 0, 1) := by decide +kernel
theorem dM_audit_53 : decode prog_14_method_87_code 53 = .ok (.getfield 190, 3) := by decide +kernel
theorem dM_audit_56 : decode prog_14_method_87_code 56 = .ok (.aload_n 0, 1) := by decide +kernel
theorem dM_audit_57 : decode prog_14_method_87_code 57 = .ok (.getfield 523, 3) := by decide +kernel
theorem dM_audit_60 : decode prog_14_method_87_code 60 = .ok (.iload_n 3, 1) := by decide +kernel
theorem dM_audit_61 : decode prog_14_method_87_code 61 = .ok (.iastore, 1) := by decide +kernel
theorem dM_audit_62 : decode prog_14_method_87_code 62 = .ok (.aload_n 0, 1) := by decide +kernel
theorem dM_audit_63 : decode prog_14_method_87_code 63 = .ok (.dup, 1) := by decide +kernel
theorem dM_audit_64 : decode prog_14_method_87_code 64 = .ok (.getfield 523, 3) := by decide +kernel
theorem dM_audit_67 : decode prog_14_method_87_code 67 = .ok (.iconst 1, 1) := by decide +kernel
theorem dM_audit_68 : decode prog_14_method_87_code 68 = .ok (.iadd, 1) := by decide +kernel
theorem dM_audit_69 : decode prog_14_method_87_code 69 = .ok (.putfield 523, 3) := by decide +kernel
theorem dM_audit_72 : decode prog_14_method_87_code 72 = .ok (.aload_n 0, 1) := by decide +kernel
theorem dM_audit_73 : decode prog_14_method_87_code 73 = .ok (.getfield 523, 3) := by decide +kernel
theorem dM_audit_76 : decode prog_14_method_87_code 76 = .ok (.ireturn, 1) := by decide +kernel
theorem dM_balance_0 : decode prog_14_method_99_code 0 = .ok (.iload_n 2, 1) := by decide +kernel
theorem dM_balance_1 : decode prog_14_method_99_code 1 = .ok (.bipush 40, 2) := by decide +kernel
theorem dM_balance_3 : decode prog_14_method_99_code 3 = .ok (.if_icmp .ne 8, 3) := by decide +kernel
theorem dM_balance_6 : decode prog_14_method_99_code 6 = .ok (.bipush 20, 2) := by decide +kernel
theorem dM_balance_8 : decode prog_14_method_99_code 8 = .ok (.goto 19, 3) := by decide +kernel
theorem dM_balance_11 : decode prog_14_method_99_code 11 = .ok (.iload_n 2, 1) := by decide +kernel
theorem dM_balance_12 : decode prog_14_method_99_code 12 = .ok (.bipush 41, 2) := by decide +kernel
theorem dM_balance_14 : decode prog_14_method_99_code 14 = .ok (.if_icmp .ne 8, 3) := by decide +kernel
theorem dM_balance_17 : decode prog_14_method_99_code 17 = .ok (.bipush 21, 2) := by decide +kernel
theorem dM_balance_19 : decode prog_14_method_99_code 19 = .ok (.goto 8, 3) := by decide +kernel
theorem dM_balance_22 : decode prog_14_method_99_code 22 = .ok (.aload_n 0, 1) := by decide +kernel
theorem dM_balance_23 : decode prog_14_method_99_code 23 = .ok (.iload_n 2, 1) := by decide +kernel
theorem dM_balance_24 : decode prog_14_method_99_code 24 = .ok (.invokevirtual 297, 3) := by decide +kernel
theorem dM_balance_27 : decode prog_14_method_99_code 27 = .ok (.istore_n 3, 1) := by decide +kernel
theorem dM_balance_28 : decode prog_14_method_99_code 28 = .ok (.aload_n 0, 1) := by decide +kernel
theorem dM_balance_29 : decode prog_14_method_99_code 29 = .ok (.iload_n 1, 1) := by decide +kernel
theorem dM_balance_30 : decode prog_14_method_99_code 30 = .ok (.invokevirtual 287, 3) := by decide +kernel
theorem dM_balance_33 : decode prog_14_method_99_code 33 = .ok (.ifCond .eq 8, 3) := by decide +kernel
theorem dM_balance_36 : decode prog_14_method_99_code 36 = .ok (.iload_n 3, 1) := by decide +kernel
theorem dM_balance_37 : decode prog_14_method_99_code 37 = .ok (.iconst (-1), 1) := by decide +kernel
theorem dM_balance_38 : decode prog_14_method_99_code 38 = .ok (.if_icmp .ne 7, 3) := by decide +kernel
theorem dM_balance_41 : decode prog_14_method_99_code 41 = .ok (.ldc_w 266, 3) := by decide +kernel
theorem dM_balance_44 : decode prog_14_method_99_code 44 = .ok (.ireturn, 1) := by decide +kernel
theorem dM_balance_45 : decode prog_14_method_99_code 45 = .ok (.aload_n 0, 1) := by decide +kernel
theorem dM_balance_46 : decode prog_14_method_99_code 46 = .ok (.iload_n 1, 1) := by decide +kernel
theorem dM_balance_47 : decode prog_14_method_99_code 47 = .ok (.invokevirtual 546, 3) := by decide +kernel
theorem dM_balance_50 : decode prog_14_method_99_code 50 = .ok (.aload_n 0, 1) := by decide +kernel
theorem dM_balance_51 : decode prog_14_method_99_code 51 = .ok (.getfield 193, 3) := by decide +kernel
theorem dM_balance_54 : decode prog_14_method_99_code 54 = .ok (.iload_n 3, 1) := by decide +kernel
theorem dM_balance_55 : decode prog_14_method_99_code 55 = .ok (.laload, 1) := by decide +kernel
theorem dM_balance_56 : decode prog_14_method_99_code 56 = .ok (.invokestatic 482, 3) := by decide +kernel
theorem dM_balance_59 : decode prog_14_method_99_code 59 = .ok (.ireturn, 1) := by decide +kernel
theorem dM_balances_0 : decode prog_14_method_97_code 0 = .ok (.aload_n 0, 1) := by decide +kernel
theorem dM_balances_1 : decode prog_14_method_97_code 1 = .ok (.invokevirtual 254, 3) := by decide +kernel
theorem dM_balances_4 : decode prog_14_method_97_code 4 = .ok (.istore_n 2, 1) := by decide +kernel
theorem dM_balances_5 : decode prog_14_method_97_code 5 = .ok (.aload_n 0, 1) := by decide +kernel
theorem dM_balances_6 : decode prog_14_method_97_code 6 = .ok (.iload_n 1, 1) := by decide +kernel
theorem dM_balances_7 : decode prog_14_method_97_code 7 = .ok (.iload_n 2, 1) := by decide +kernel
theorem dM_balances_8 : decode prog_14_method_97_code 8 = .ok (.invokevirtual 511, 3) := by decide +kernel
theorem dM_balances_11 : decode prog_14_method_97_code 11 = .ok (.iconst 0, 1) := by decide +kernel
theorem dM_balances_12 : decode prog_14_method_97_code 12 = .ok (.istore_n 3, 1) := by decide +kernel
theorem dM_balances_13 : decode prog_14_method_97_code 13 = .ok (.iload_n 3, 1) := by decide +kernel
theorem dM_balances_14 : decode prog_14_method_97_code 14 = .ok (.bipush 22, 2) := by decide +kernel
theorem dM_balances_16 : decode prog_14_method_97_code 16 = .ok (.if_icmp .ge 16, 3) := by decide +kernel
theorem dM_balances_19 : decode prog_14_method_97_code 19 = .ok (.aload_n 0, 1) := by decide +kernel
theorem dM_balances_20 : decode prog_14_method_97_code 20 = .ok (.getfield 193, 3) := by decide +kernel
theorem dM_balances_23 : decode prog_14_method_97_code 23 = .ok (.iload_n 3, 1) := by decide +kernel
theorem dM_balances_24 : decode prog_14_method_97_code 24 = .ok (.lconst 0, 1) := by decide +kernel
theorem dM_balances_25 : decode prog_14_method_97_code 25 = .ok (.lastore, 1) := by decide +kernel
theorem dM_balances_26 : decode prog_14_method_97_code 26 = .ok (.iinc 3 1, 3) := by decide +kernel
theorem dM_balances_29 : decode prog_14_method_97_code 29 = .ok (.goto (-16), 3) := by decide +kernel
theorem dM_balances_32 : decode prog_14_method_97_code 32 = .ok (.lconst 0, 1) := by decide +kernel
theorem dM_balances_33 : decode prog_14_method_97_code 33 = .ok (.lstore_n 3, 1) := by decide +kernel
theorem dM_balances_34 : decode prog_14_method_97_code 34 = .ok (.iconst 0, 1) := by decide +kernel
theorem dM_balances_35 : decode prog_14_method_97_code 35 = .ok (.istore 5, 2) := by decide +kernel
theorem dM_balances_37 : decode prog_14_method_97_code 37 = .ok (.iload 5, 2) := by decide +kernel
theorem dM_balances_39 : decode prog_14_method_97_code 39 = .ok (.bipush 20, 2) := by decide +kernel
theorem dM_balances_41 : decode prog_14_method_97_code 41 = .ok (.if_icmp .ge 102, 3) := by decide +kernel
theorem dM_balances_44 : decode prog_14_method_97_code 44 = .ok (.aload_n 0, 1) := by decide +kernel
theorem dM_balances_45 : decode prog_14_method_97_code 45 = .ok (.iload_n 1, 1) := by decide +kernel
theorem dM_balances_46 : decode prog_14_method_97_code 46 = .ok (.iload 5, 2) := by decide +kernel
theorem dM_balances_48 : decode prog_14_method_97_code 48 = .ok (.iload_n 2, 1) := by decide +kernel
theorem dM_balances_49 : decode prog_14_method_97_code 49 = .ok (.invokevirtual 513, 3) := by decide +kernel
theorem dM_balances_52 : decode prog_14_method_97_code 52 = .ok (.istore 6, 2) := by decide +kernel
theorem dM_balances_54 : decode prog_14_method_97_code 54 = .ok (.aload_n 0, 1) := by decide +kernel
theorem dM_balances_55 : decode prog_14_method_97_code 55 = .ok (.getfield 181, 3) := by decide +kernel
theorem dM_balances_58 : decode prog_14_method_97_code 58 = .ok (.iload 5, 2) := by decide +kernel
theorem dM_balances_60 : decode prog_14_method_97_code 60 = .ok (.iaload, 1) := by decide +kernel
theorem dM_balances_61 : decode prog_14_method_97_code 61 = .ok (.ifCond .ne 33, 3) := by decide +kernel
theorem dM_balances_64 : decode prog_14_method_97_code 64 = .ok (.aload_n 0, 1) := by decide +kernel
theorem dM_balances_65 : decode prog_14_method_97_code 65 = .ok (.getfield 193, 3) := by decide +kernel
theorem dM_balances_68 : decode prog_14_method_97_code 68 = .ok (.iload 5, 2) := by decide +kernel
theorem dM_balances_70 : decode prog_14_method_97_code 70 = .ok (.dup2, 1) := by decide +kernel
theorem dM_balances_71 : decode prog_14_method_97_code 71 = .ok (.laload, 1) := by decide +kernel
theorem dM_balances_72 : decode prog_14_method_97_code 72 = .ok (.aload_n 0, 1) := by decide +kernel
theorem dM_balances_73 : decode prog_14_method_97_code 73 = .ok (.getfield 178, 3) := by decide +kernel
theorem dM_balances_76 : decode prog_14_method_97_code 76 = .ok (.iload 5, 2) := by decide +kernel
theorem dM_balances_78 : decode prog_14_method_97_code 78 = .ok (.laload, 1) := by decide +kernel
theorem dM_balances_79 : decode prog_14_method_97_code 79 = .ok (.ladd, 1) := by decide +kernel
theorem dM_balances_80 : decode prog_14_method_97_code 80 = .ok (.lastore, 1) := by decide +kernel
theorem dM_balances_81 : decode prog_14_method_97_code 81 = .ok (.lload_n 3, 1) := by decide +kernel
theorem dM_balances_82 : decode prog_14_method_97_code 82 = .ok (.aload_n 0, 1) := by decide +kernel
theorem dM_balances_83 : decode prog_14_method_97_code 83 = .ok (.getfield 178, 3) := by decide +kernel
theorem dM_balances_86 : decode prog_14_method_97_code 86 = .ok (.iload 5, 2) := by decide +kernel
theorem dM_balances_88 : decode prog_14_method_97_code 88 = .ok (.laload, 1) := by decide +kernel
theorem dM_balances_89 : decode prog_14_method_97_code 89 = .ok (.lsub, 1) := by decide +kernel
theorem dM_balances_90 : decode prog_14_method_97_code 90 = .ok (.lstore_n 3, 1) := by decide +kernel
theorem dM_balances_91 : decode prog_14_method_97_code 91 = .ok (.goto 46, 3) := by decide +kernel
theorem dM_balances_94 : decode prog_14_method_97_code 94 = .ok (.iload 6, 2) := by decide +kernel
theorem dM_balances_96 : decode prog_14_method_97_code 96 = .ok (.ifCond .le 41, 3) := by decide +kernel
theorem dM_balances_99 : decode prog_14_method_97_code 99 = .ok (.aload_n 0, 1) := by decide +kernel
theorem dM_balances_100 : decode prog_14_method_97_code 100 = .ok (.getfield 193, 3) := by decide +kernel
theorem dM_balances_103 : decode prog_14_method_97_code 103 = .ok (.iload 6, 2) := by decide +kernel
theorem dM_balances_105 : decode prog_14_method_97_code 105 = .ok (.iconst 1, 1) := by decide +kernel
theorem dM_balances_106 : decode prog_14_method_97_code 106 = .ok (.if_icmp .ne 8, 3) := by decide +kernel
theorem dM_balances_109 : decode prog_14_method_97_code 109 = .ok (.bipush 20, 2) := by decide +kernel
theorem dM_balances_111 : decode prog_14_method_97_code 111 = .ok (.goto 5, 3) := by decide +kernel
theorem dM_balances_114 : decode prog_14_method_97_code 114 = .ok (.bipush 21, 2) := by decide +kernel
theorem dM_balances_116 : decode prog_14_method_97_code 116 = .ok (.dup2, 1) := by decide +kernel
theorem dM_balances_117 : decode prog_14_method_97_code 117 = .ok (.laload, 1) := by decide +kernel
theorem dM_balances_118 : decode prog_14_method_97_code 118 = .ok (.aload_n 0, 1) := by decide +kernel
theorem dM_balances_119 : decode prog_14_method_97_code 119 = .ok (.getfield 178, 3) := by decide +kernel
theorem dM_balances_122 : decode prog_14_method_97_code 122 = .ok (.iload 5, 2) := by decide +kernel
theorem dM_balances_124 : decode prog_14_method_97_code 124 = .ok (.laload, 1) := by decide +kernel
theorem dM_balances_125 : decode prog_14_method_97_code 125 = .ok (.ladd, 1) := by decide +kernel
theorem dM_balances_126 : decode prog_14_method_97_code 126 = .ok (.lastore, 1) := by decide +kernel
theorem dM_balances_127 : decode prog_14_method_97_code 127 = .ok (.lload_n 3, 1) := by decide +kernel
theorem dM_balances_128 : decode prog_14_method_97_code 128 = .ok (.aload_n 0, 1) := by decide +kernel
theorem dM_balances_129 : decode prog_14_method_97_code 129 = .ok (.getfield 178, 3) := by decide +kernel
theorem dM_balances_132 : decode prog_14_method_97_code 132 = .ok (.iload 5, 2) := by decide +kernel
theorem dM_balances_134 : decode prog_14_method_97_code 134 = .ok (.laload, 1) := by decide +kernel
theorem dM_balances_135 : decode prog_14_method_97_code 135 = .ok (.lsub, 1) := by decide +kernel
theorem dM_balances_136 : decode prog_14_method_97_code 136 = .ok (.lstore_n 3, 1) := by decide +kernel
theorem dM_balances_137 : decode prog_14_method_97_code 137 = .ok (.iinc 5 1, 3) := by decide +kernel
theorem dM_balances_140 : decode prog_14_method_97_code 140 = .ok (.goto (-103), 3) := by decide +kernel
theorem dM_balances_143 : decode prog_14_method_97_code 143 = .ok (.aload_n 0, 1) := by decide +kernel
theorem dM_balances_144 : decode prog_14_method_97_code 144 = .ok (.iload_n 1, 1) := by decide +kernel
theorem dM_balances_145 : decode prog_14_method_97_code 145 = .ok (.iload_n 2, 1) := by decide +kernel
theorem dM_balances_146 : decode prog_14_method_97_code 146 = .ok (.invokevirtual 516, 3) := by decide +kernel
theorem dM_balances_149 : decode prog_14_method_97_code 149 = .ok (.lstore 5, 2) := by decide +kernel
theorem dM_balances_151 : decode prog_14_method_97_code 151 = .ok (.aload_n 0, 1) := by decide +kernel
theorem dM_balances_152 : decode prog_14_method_97_code 152 = .ok (.getfield 193, 3) := by decide +kernel
theorem dM_balances_155 : decode prog_14_method_97_code 155 = .ok (.bipush 20, 2) := by decide +kernel
theorem dM_balances_157 : decode prog_14_method_97_code 157 = .ok (.dup2, 1) := by decide +kernel
theorem dM_balances_158 : decode prog_14_method_97_code 158 = .ok (.laload, 1) := by decide +kernel
theorem dM_balances_159 : decode prog_14_method_97_code 159 = .ok (.lload 5, 2) := by decide +kernel
theorem dM_balances_161 : decode prog_14_method_97_code 161 = .ok (.lsub, 1) := by decide +kernel
theorem dM_balances_162 : decode prog_14_method_97_code 162 = .ok (.lastore, 1) := by decide +kernel
theorem dM_balances_163 : decode prog_14_method_97_code 163 = .ok (.aload_n 0, 1) := by decide +kernel
theorem dM_balances_164 : decode prog_14_method_97_code 164 = .ok (.getfield 193, 3) := by decide +kernel
theorem dM_balances_167 : decode prog_14_method_97_code 167 = .ok (.bipush 16, 2) := by decide +kernel
theorem dM_balances_169 : decode prog_14_method_97_code 169 = .ok (.iload_n 1, 1) := by decide +kernel
theorem dM_balances_170 : decode prog_14_method_97_code 170 = .ok (.iadd, 1) := by decide +kernel
theorem dM_balances_171 : decode prog_14_method_97_code 171 = .ok (.dup2, 1) := by decide +kernel
theorem dM_balances_172 : decode prog_14_method_97_code 172 = .ok (.laload, 1) := by decide +kernel
theorem dM_balances_173 : decode prog_14_method_97_code 173 = .ok (.lload_n 3, 1) := by decide +kernel
theorem dM_balances_174 : decode prog_14_method_97_code 174 = .ok (.lload 5, 2) := by decide +kernel
theorem dM_balances_176 : decode prog_14_method_97_code 176 = .ok (.ladd, 1) := by decide +kernel
theorem dM_balances_177 : decode prog_14_method_97_code 177 = .ok (.ladd, 1) := by decide +kernel
theorem dM_balances_178 : decode prog_14_method_97_code 178 = .ok (.lastore, 1) := by decide +kernel
theorem dM_balances_179 : decode prog_14_method_97_code 179 = .ok (.return_, 1) := by decide +kernel
theorem dM_begins_0 : decode prog_14_method_48_code 0 = .ok (.iconst 0, 1) := by decide +kernel
theorem dM_begins_1 : decode prog_14_method_48_code 1 = .ok (.istore_n 1, 1) := by decide +kernel
theorem dM_begins_2 : decode prog_14_method_48_code 2 = .ok (.iload_n 1, 1) := by decide +kernel
theorem dM_begins_3 : decode prog_14_method_48_code 3 = .ok (.iconst 4, 1) := by decide +kernel
theorem dM_begins_4 : decode prog_14_method_48_code 4 = .ok (.if_icmp .ge 75, 3) := by decide +kernel
theorem dM_begins_7 : decode prog_14_method_48_code 7 = .ok (.aload_n 0, 1) := by decide +kernel
theorem dM_begins_8 : decode prog_14_method_48_code 8 = .ok (.getfield 137, 3) := by decide +kernel
theorem dM_begins_11 : decode prog_14_method_48_code 11 = .ok (.iload_n 1, 1) := by decide +kernel
theorem dM_begins_12 : decode prog_14_method_48_code 12 = .ok (.aload_n 0, 1) := by decide +kernel
theorem dM_begins_13 : decode prog_14_method_48_code 13 = .ok (.getfield 44, 3) := by decide +kernel
theorem dM_begins_16 : decode prog_14_method_48_code 16 = .ok (.iload_n 1, 1) := by decide +kernel
theorem dM_begins_17 : decode prog_14_method_48_code 17 = .ok (.iaload, 1) := by decide +kernel
theorem dM_begins_18 : decode prog_14_method_48_code 18 = .ok (.i2l, 1) := by decide +kernel
theorem dM_begins_19 : decode prog_14_method_48_code 19 = .ok (.lastore, 1) := by decide +kernel
theorem dM_begins_20 : decode prog_14_method_48_code 20 = .ok (.aload_n 0, 1) := by decide +kernel
theorem dM_begins_21 : decode prog_14_method_48_code 21 = .ok (.getfield 157, 3) := by decide +kernel
theorem dM_begins_24 : decode prog_14_method_48_code 24 = .ok (.iload_n 1, 1) := by decide +kernel
theorem dM_begins_25 : decode prog_14_method_48_code 25 = .ok (.lconst 0, 1) := by decide +kernel
theorem dM_begins_26 : decode prog_14_method_48_code 26 = .ok (.lastore, 1) := by decide +kernel
theorem dM_begins_27 : decode prog_14_method_48_code 27 = .ok (.iconst 0, 1) := by decide +kernel
theorem dM_begins_28 : decode prog_14_method_48_code 28 = .ok (.istore_n 2, 1) := by decide +kernel
theorem dM_begins_29 : decode prog_14_method_48_code 29 = .ok (.iload_n 2, 1) := by decide +kernel
theorem dM_begins_30 : decode prog_14_method_48_code 30 = .ok (.bipush 8, 2) := by decide +kernel
theorem dM_begins_32 : decode prog_14_method_48_code 32 = .ok (.if_icmp .ge 18, 3) := by decide +kernel
theorem dM_begins_35 : decode prog_14_method_48_code 35 = .ok (.aload_n 0, 1) := by decide +kernel
theorem dM_begins_36 : decode prog_14_method_48_code 36 = .ok (.getfield 145, 3) := by decide +kernel
theorem dM_begins_39 : decode prog_14_method_48_code 39 = .ok (.iload_n 1, 1) := by decide +kernel
theorem dM_begins_40 : decode prog_14_method_48_code 40 = .ok (.aaload, 1) := by decide +kernel
theorem dM_begins_41 : decode prog_14_method_48_code 41 = .ok (.iload_n 2, 1) := by decide +kernel
theorem dM_begins_42 : decode prog_14_method_48_code 42 = .ok (.lconst 0, 1) := by decide +kernel
theorem dM_begins_43 : decode prog_14_method_48_code 43 = .ok (.lastore, 1) := by decide +kernel
theorem dM_begins_44 : decode prog_14_method_48_code 44 = .ok (.iinc 2 1, 3) := by decide +kernel
theorem dM_begins_47 : decode prog_14_method_48_code 47 = .ok (.goto (-18), 3) := by decide +kernel
theorem dM_begins_50 : decode prog_14_method_48_code 50 = .ok (.iconst 0, 1) := by decide +kernel
theorem dM_begins_51 : decode prog_14_method_48_code 51 = .ok (.istore_n 2, 1) := by decide +kernel
theorem dM_begins_52 : decode prog_14_method_48_code 52 = .ok (.iload_n 2, 1) := by decide +kernel
theorem dM_begins_53 : decode prog_14_method_48_code 53 = .ok (.bipush 20, 2) := by decide +kernel
theorem dM_begins_55 : decode prog_14_method_48_code 55 = .ok (.if_icmp .ge 18, 3) := by decide +kernel
theorem dM_begins_58 : decode prog_14_method_48_code 58 = .ok (.aload_n 0, 1) := by decide +kernel
theorem dM_begins_59 : decode prog_14_method_48_code 59 = .ok (.getfield 154, 3) := by decide +kernel
theorem dM_begins_62 : decode prog_14_method_48_code 62 = .ok (.iload_n 1, 1) := by decide +kernel
theorem dM_begins_63 : decode prog_14_method_48_code 63 = .ok (.aaload, 1) := by decide +kernel
theorem dM_begins_64 : decode prog_14_method_48_code 64 = .ok (.iload_n 2, 1) := by decide +kernel
theorem dM_begins_65 : decode prog_14_method_48_code 65 = .ok (.lconst 0, 1) := by decide +kernel
theorem dM_begins_66 : decode prog_14_method_48_code 66 = .ok (.lastore, 1) := by decide +kernel
theorem dM_begins_67 : decode prog_14_method_48_code 67 = .ok (.iinc 2 1, 3) := by decide +kernel
theorem dM_begins_70 : decode prog_14_method_48_code 70 = .ok (.goto (-18), 3) := by decide +kernel
theorem dM_begins_73 : decode prog_14_method_48_code 73 = .ok (.iinc 1 1, 3) := by decide +kernel
theorem dM_begins_76 : decode prog_14_method_48_code 76 = .ok (.goto (-74), 3) := by decide +kernel
theorem dM_begins_79 : decode prog_14_method_48_code 79 = .ok (.iconst 0, 1) := by decide +kernel
theorem dM_begins_80 : decode prog_14_method_48_code 80 = .ok (.istore_n 1, 1) := by decide +kernel
theorem dM_begins_81 : decode prog_14_method_48_code 81 = .ok (.iload_n 1, 1) := by decide +kernel
theorem dM_begins_82 : decode prog_14_method_48_code 82 = .ok (.aload_n 0, 1) := by decide +kernel
theorem dM_begins_83 : decode prog_14_method_48_code 83 = .ok (.getfield 302, 3) := by decide +kernel
theorem dM_begins_86 : decode prog_14_method_48_code 86 = .ok (.if_icmp .ge 16, 3) := by decide +kernel
theorem dM_begins_89 : decode prog_14_method_48_code 89 = .ok (.aload_n 0, 1) := by decide +kernel
theorem dM_begins_90 : decode prog_14_method_48_code 90 = .ok (.getfield 140, 3) := by decide +kernel
theorem dM_begins_93 : decode prog_14_method_48_code 93 = .ok (.iload_n 1, 1) := by decide +kernel
theorem dM_begins_94 : decode prog_14_method_48_code 94 = .ok (.lconst 0, 1) := by decide +kernel
theorem dM_begins_95 : decode prog_14_method_48_code 95 = .ok (.lastore, 1) := by decide +kernel
theorem dM_begins_96 : decode prog_14_method_48_code 96 = .ok (.iinc 1 1, 3) := by decide +kernel
theorem dM_begins_99 : decode prog_14_method_48_code 99 = .ok (.goto (-18), 3) := by decide +kernel
theorem dM_begins_102 : decode prog_14_method_48_code 102 = .ok (.return_, 1) := by decide +kernel
theorem dM_beside_0 : decode prog_14_method_96_code 0 = .ok (.aload_n 0, 1) := by decide +kernel
theorem dM_beside_1 : decode prog_14_method_96_code 1 = .ok (.iload_n 1, 1) := by decide +kernel
theorem dM_beside_2 : decode prog_14_method_96_code 2 = .ok (.invokevirtual 287, 3) := by decide +kernel
theorem dM_beside_5 : decode prog_14_method_96_code 5 = .ok (.ifCond .eq 15, 3) := by decide +kernel
theorem dM_beside_8 : decode prog_14_method_96_code 8 = .ok (.iload_n 2, 1) := by decide +kernel
theorem dM_beside_9 : decode prog_14_method_96_code 9 = .ok (.i2l, 1) := by decide +kernel
theorem dM_beside_10 : decode prog_14_method_96_code 10 = .ok (.lconst 0, 1) := by decide +kernel
theorem dM_beside_11 : decode prog_14_method_96_code 11 = .ok (.ldc2_w 544, 3) := by decide +kernel
theorem dM_beside_14 : decode prog_14_method_96_code 14 = .ok (.invokestatic 222, 3) := by decide +kernel
theorem dM_beside_17 : decode prog_14_method_96_code 17 = .ok (.ifCond .ne 7, 3) := by decide +kernel
theorem dM_beside_20 : decode prog_14_method_96_code 20 = .ok (.ldc_w 266, 3) := by decide +kernel
theorem dM_beside_23 : decode prog_14_method_96_code 23 = .ok (.ireturn, 1) := by decide +kernel
theorem dM_beside_24 : decode prog_14_method_96_code 24 = .ok (.aload_n 0, 1) := by decide +kernel
theorem dM_beside_25 : decode prog_14_method_96_code 25 = .ok (.iload_n 1, 1) := by decide +kernel
theorem dM_beside_26 : decode prog_14_method_96_code 26 = .ok (.aload_n 0, 1) := by decide +kernel
theorem dM_beside_27 : decode prog_14_method_96_code 27 = .ok (.invokevirtual 254, 3) := by decide +kernel
theorem dM_beside_30 : decode prog_14_method_96_code 30 = .ok (.iload_n 2, 1) := by decide +kernel
theorem dM_beside_31 : decode prog_14_method_96_code 31 = .ok (.invokevirtual 505, 3) := by decide +kernel
theorem dM_beside_34 : decode prog_14_method_96_code 34 = .ok (.lconst 0, 1) := by decide +kernel
theorem dM_beside_35 : decode prog_14_method_96_code 35 = .ok (.lstore_n 3, 1) := by decide +kernel
theorem dM_beside_36 : decode prog_14_method_96_code 36 = .ok (.iconst 0, 1) := by decide +kernel
theorem dM_beside_37 : decode prog_14_method_96_code 37 = .ok (.istore 5, 2) := by decide +kernel
theorem dM_beside_39 : decode prog_14_method_96_code 39 = .ok (.iload 5, 2) := by decide +kernel
theorem dM_beside_41 : decode prog_14_method_96_code 41 = .ok (.bipush 20, 2) := by decide +kernel
theorem dM_beside_43 : decode prog_14_method_96_code 43 = .ok (.if_icmp .ge 35, 3) := by decide +kernel
theorem dM_beside_46 : decode prog_14_method_96_code 46 = .ok (.lload_n 3, 1) := by decide +kernel
theorem dM_beside_47 : decode prog_14_method_96_code 47 = .ok (.aload_n 0, 1) := by decide +kernel
theorem dM_beside_48 : decode prog_14_method_96_code 48 = .ok (.getfield 178, 3) := by decide +kernel
theorem dM_beside_51 : decode prog_14_method_96_code 51 = .ok (.iload 5, 2) := by decide +kernel
theorem dM_beside_53 : decode prog_14_method_96_code 53 = .ok (.laload, 1) := by decide +kernel
theorem dM_beside_54 : decode prog_14_method_96_code 54 = .ok (.lconst 0, 1) := by decide +kernel
theorem dM_beside_55 : decode prog_14_method_96_code 55 = .ok (.lcmp, 1) := by decide +kernel
theorem dM_beside_56 : decode prog_14_method_96_code 56 = .ok (.ifCond .le 13, 3) := by decide +kernel
theorem dM_beside_59 : decode prog_14_method_96_code 59 = .ok (.aload_n 0, 1) := by decide +kernel
theorem dM_beside_60 : decode prog_14_method_96_code 60 = .ok (.getfield 178, 3) := by decide +kernel
theorem dM_beside_63 : decode prog_14_method_96_code 63 = .ok (.iload 5, 2) := by decide +kernel
theorem dM_beside_65 : decode prog_14_method_96_code 65 = .ok (.laload, 1) := by decide +kernel
theorem dM_beside_66 : decode prog_14_method_96_code 66 = .ok (.goto 4, 3) := by decide +kernel
theorem dM_beside_69 : decode prog_14_method_96_code 69 = .ok (.lconst 0, 1) := by decide +kernel
theorem dM_beside_70 : decode prog_14_method_96_code 70 = .ok (.ladd, 1) := by decide +kernel
theorem dM_beside_71 : decode prog_14_method_96_code 71 = .ok (.lstore_n 3, 1) := by decide +kernel
theorem dM_beside_72 : decode prog_14_method_96_code 72 = .ok (.iinc 5 1, 3) := by decide +kernel
theorem dM_beside_75 : decode prog_14_method_96_code 75 = .ok (.goto (-36), 3) := by decide +kernel
theorem dM_beside_78 : decode prog_14_method_96_code 78 = .ok (.lload_n 3, 1) := by decide +kernel
theorem dM_beside_79 : decode prog_14_method_96_code 79 = .ok (.invokestatic 482, 3) := by decide +kernel
theorem dM_beside_82 : decode prog_14_method_96_code 82 = .ok (.ireturn, 1) := by decide +kernel
theorem dM_booked_0 : decode prog_14_method_62_code 0 = .ok (.aload_n 0, 1) := by decide +kernel
theorem dM_booked_1 : decode prog_14_method_62_code 1 = .ok (.iload_n 1, 1) := by decide +kernel
theorem dM_booked_2 : decode prog_14_method_62_code 2 = .ok (.iload_n 2, 1) := by decide +kernel
theorem dM_booked_3 : decode prog_14_method_62_code 3 = .ok (.invokevirtual 479, 3) := by decide +kernel
theorem dM_booked_6 : decode prog_14_method_62_code 6 = .ok (.ifCond .eq 17, 3) := by decide +kernel
theorem dM_booked_9 : decode prog_14_method_62_code 9 = .ok (.aload_n 0, 1) := by decide +kernel
theorem dM_booked_10 : decode prog_14_method_62_code 10 = .ok (.getfield 160, 3) := by decide +kernel
theorem dM_booked_13 : decode prog_14_method_62_code 13 = .ok (.iload_n 1, 1) := by decide +kernel
theorem dM_booked_14 : decode prog_14_method_62_code 14 = .ok (.aaload, 1) := by decide +kernel
theorem dM_booked_15 : decode prog_14_method_62_code 15 = .ok (.iload_n 2, 1) := by decide +kernel
theorem dM_booked_16 : decode prog_14_method_62_code 16 = .ok (.laload, 1) := by decide +kernel
theorem dM_booked_17 : decode prog_14_method_62_code 17 = .ok (.invokestatic 482, 3) := by decide +kernel
theorem dM_booked_20 : decode prog_14_method_62_code 20 = .ok (.goto 4, 3) := by decide +kernel
theorem dM_booked_23 : decode prog_14_method_62_code 23 = .ok (.iconst (-1), 1) := by decide +kernel
theorem dM_booked_24 : decode prog_14_method_62_code 24 = .ok (.ireturn, 1) := by decide +kernel
theorem dM_books_0 : decode prog_14_method_59_code 0 = .ok (.aload_n 0, 1) := by decide +kernel
theorem dM_books_1 : decode prog_14_method_59_code 1 = .ok (.aload_n 0, 1) := by decide +kernel
theorem dM_books_2 : decode prog_14_method_59_code 2 = .ok (.getfield 216, 3) := by decide +kernel
theorem dM_books_5 : decode prog_14_method_59_code 5 = .ok (.aload_n 0, 1) := by decide +kernel
theorem dM_books_6 : decode prog_14_method_59_code 6 = .ok (.getfield 216, 3) := by decide +kernel
theorem dM_books_9 : decode prog_14_method_59_code 9 = .ok (.iconst 1, 1) := by decide +kernel
theorem dM_books_10 : decode prog_14_method_59_code 10 = .ok (.invokevirtual 471, 3) := by decide +kernel
theorem dM_books_13 : decode prog_14_method_59_code 13 = .ok (.iconst 0, 1) := by decide +kernel
theorem dM_books_14 : decode prog_14_method_59_code 14 = .ok (.istore_n 1, 1) := by decide +kernel
theorem dM_books_15 : decode prog_14_method_59_code 15 = .ok (.iload_n 1, 1) := by decide +kernel
theorem dM_books_16 : decode prog_14_method_59_code 16 = .ok (.aload_n 0, 1) := by decide +kernel
theorem dM_books_17 : decode prog_14_method_59_code 17 = .ok (.getfield 275, 3) := by decide +kernel
theorem dM_books_20 : decode prog_14_method_59_code 20 = .ok (.if_icmp .ge 68, 3) := by decide +kernel
theorem dM_books_23 : decode prog_14_method_59_code 23 = .ok (.aload_n 0, 1) := by decide +kernel
theorem dM_books_24 : decode prog_14_method_59_code 24 = .ok (.getfield 160, 3) := by decide +kernel
theorem dM_books_27 : decode prog_14_method_59_code 27 = .ok (.iload_n 1, 1) := by decide +kernel
theorem dM_books_28 : decode prog_14_method_59_code 28 = .ok (.aaload, 1) := by decide +kernel
theorem dM_books_29 : decode prog_14_method_59_code 29 = .ok (.aload_n 0, 1) := by decide +kernel
theorem dM_books_30 : decode prog_14_method_59_code 30 = .ok (.getfield 216, 3) := by decide +kernel
theorem dM_books_33 : decode prog_14_method_59_code 33 = .ok (.aload_n 0, 1) := by decide +kernel
theorem dM_books_34 : decode prog_14_method_59_code 34 = .ok (.getfield 148, 3) := by decide +kernel
theorem dM_books_37 : decode prog_14_method_59_code 37 = .ok (.iload_n 1, 1) := by decide +kernel
theorem dM_books_38 : decode prog_14_method_59_code 38 = .ok (.aaload, 1) := by decide +kernel
theorem dM_books_39 : decode prog_14_method_59_code 39 = .ok (.aload_n 0, 1) := by decide +kernel
theorem dM_books_40 : decode prog_14_method_59_code 40 = .ok (.getfield 216, 3) := by decide +kernel
theorem dM_books_43 : decode prog_14_method_59_code 43 = .ok (.laload, 1) := by decide +kernel
theorem dM_books_44 : decode prog_14_method_59_code 44 = .ok (.lastore, 1) := by decide +kernel
theorem dM_books_45 : decode prog_14_method_59_code 45 = .ok (.aload_n 0, 1) := by decide +kernel
theorem dM_books_46 : decode prog_14_method_59_code 46 = .ok (.getfield 163, 3) := by decide +kernel
theorem dM_books_49 : decode prog_14_method_59_code 49 = .ok (.iload_n 1, 1) := by decide +kernel
theorem dM_books_50 : decode prog_14_method_59_code 50 = .ok (.aaload, 1) := by decide +kernel
theorem dM_books_51 : decode prog_14_method_59_code 51 = .ok (.aload_n 0, 1) := by decide +kernel
theorem dM_books_52 : decode prog_14_method_59_code 52 = .ok (.getfield 216, 3) := by decide +kernel
theorem dM_books_55 : decode prog_14_method_59_code 55 = .ok (.aload_n 0, 1) := by decide +kernel
theorem dM_books_56 : decode prog_14_method_59_code 56 = .ok (.aload_n 0, 1) := by decide +kernel
theorem dM_books_57 : decode prog_14_method_59_code 57 = .ok (.getfield 216, 3) := by decide +kernel
theorem dM_books_60 : decode prog_14_method_59_code 60 = .ok (.invokevirtual 229, 3) := by decide +kernel
theorem dM_books_63 : decode prog_14_method_59_code 63 = .ok (.ifCond .eq 17, 3) := by decide +kernel
theorem dM_books_66 : decode prog_14_method_59_code 66 = .ok (.aload_n 0, 1) := by decide +kernel
theorem dM_books_67 : decode prog_14_method_59_code 67 = .ok (.getfield 151, 3) := by decide +kernel
theorem dM_books_70 : decode prog_14_method_59_code 70 = .ok (.iload_n 1, 1) := by decide +kernel
theorem dM_books_71 : decode prog_14_method_59_code 71 = .ok (.aaload, 1) := by decide +kernel
theorem dM_books_72 : decode prog_14_method_59_code 72 = .ok (.aload_n 0, 1) := by decide +kernel
theorem dM_books_73 : decode prog_14_method_59_code 73 = .ok (.getfield 216, 3) := by decide +kernel
theorem dM_books_76 : decode prog_14_method_59_code 76 = .ok (.laload, 1) := by decide +kernel
theorem dM_books_77 : decode prog_14_method_59_code 77 = .ok (.goto 4, 3) := by decide +kernel
theorem dM_books_80 : decode prog_14_method_59_code 80 = .ok (.lconst 0, 1) := by decide +kernel
theorem dM_books_81 : decode prog_14_method_59_code 81 = .ok (.lastore, 1) := by decide +kernel
theorem dM_books_82 : decode prog_14_method_59_code 82 = .ok (.iinc 1 1, 3) := by decide +kernel
theorem dM_books_85 : decode prog_14_method_59_code 85 = .ok (.goto (-70), 3) := by decide +kernel
theorem dM_books_88 : decode prog_14_method_59_code 88 = .ok (.iconst 0, 1) := by decide +kernel
theorem dM_books_89 : decode prog_14_method_59_code 89 = .ok (.istore_n 1, 1) := by decide +kernel
theorem dM_books_90 : decode prog_14_method_59_code 90 = .ok (.iload_n 1, 1) := by decide +kernel
theorem dM_books_91 : decode prog_14_method_59_code 91 = .ok (.aload_n 0, 1) := by decide +kernel
theorem dM_books_92 : decode prog_14_method_59_code 92 = .ok (.getfield 302, 3) := by decide +kernel
theorem dM_books_95 : decode prog_14_method_59_code 95 = .ok (.if_icmp .ge 55, 3) := by decide +kernel
theorem dM_books_98 : decode prog_14_method_59_code 98 = .ok (.aload_n 0, 1) := by decide +kernel
theorem dM_books_99 : decode prog_14_method_59_code 99 = .ok (.getfield 83, 3) := by decide +kernel
theorem dM_books_102 : decode prog_14_method_59_code 102 = .ok (.iload_n 1, 1) := by decide +kernel
theorem dM_books_103 : decode prog_14_method_59_code 103 = .ok (.iaload, 1) := by decide +kernel
theorem dM_books_104 : decode prog_14_method_59_code 104 = .ok (.aload_n 0, 1) := by decide +kernel
theorem dM_books_105 : decode prog_14_method_59_code 105 = .ok (.getfield 216, 3) := by decide +kernel
theorem dM_books_108 : decode prog_14_method_59_code 108 = .ok (.if_icmp .ne 36, 3) := by decide +kernel
theorem dM_books_111 : decode prog_14_method_59_code 111 = .ok (.aload_n 0, 1) := by decide +kernel
theorem dM_books_112 : decode prog_14_method_59_code 112 = .ok (.aload_n 0, 1) := by decide +kernel
theorem dM_books_113 : decode prog_14_method_59_code 113 = .ok (.getfield 216, 3) := by decide +kernel
theorem dM_books_116 : decode prog_14_method_59_code 116 = .ok (.invokevirtual 229, 3) := by decide +kernel
theorem dM_books_119 : decode prog_14_method_59_code 119 = .ok (.ifCond .ne 6, 3) := by decide +kernel
theorem dM_books_122 : decode prog_14_method_59_code 122 = .ok (.goto 22, 3) := by decide +kernel
theorem dM_books_125 : decode prog_14_method_59_code 125 = .ok (.aload_n 0, 1) := by decide +kernel
theorem dM_books_126 : decode prog_14_method_59_code 126 = .ok (.getfield 92, 3) := by decide +kernel
theorem dM_books_129 : decode prog_14_method_59_code 129 = .ok (.iload_n 1, 1) := by decide +kernel
theorem dM_books_130 : decode prog_14_method_59_code 130 = .ok (.aload_n 0, 1) := by decide +kernel
theorem dM_books_131 : decode prog_14_method_59_code 131 = .ok (.getfield 140, 3) := by decide +kernel
theorem dM_books_134 : decode prog_14_method_59_code 134 = .ok (.iload_n 1, 1) := by decide +kernel
theorem dM_books_135 : decode prog_14_method_59_code 135 = .ok (.laload, 1) := by decide +kernel
theorem dM_books_136 : decode prog_14_method_59_code 136 = .ok (.lastore, 1) := by decide +kernel
theorem dM_books_137 : decode prog_14_method_59_code 137 = .ok (.aload_n 0, 1) := by decide +kernel
theorem dM_books_138 : decode prog_14_method_59_code 138 = .ok (.getfield 89, 3) := by decide +kernel
theorem dM_books_141 : decode prog_14_method_59_code 141 = .ok (.iload_n 1, 1) := by decide +kernel
theorem dM_books_142 : decode prog_14_method_59_code 142 = .ok (.iconst 1, 1) := by decide +kernel
theorem dM_books_143 : decode prog_14_method_59_code 143 = .ok (.bastore, 1) := by decide +kernel
theorem dM_books_144 : decode prog_14_method_59_code 144 = .ok (.iinc 1 1, 3) := by decide +kernel
theorem dM_books_147 : decode prog_14_method_59_code 147 = .ok (.goto (-57), 3) := by decide +kernel
theorem dM_books_150 : decode prog_14_method_59_code 150 = .ok (.return_, 1) := by decide +kernel
theorem dM_canHold_0 : decode prog_14_method_69_code 0 = .ok (.aload_n 0, 1) := by decide +kernel
theorem dM_canHold_1 : decode prog_14_method_69_code 1 = .ok (.iload_n 2, 1) := by decide +kernel
theorem dM_canHold_2 : decode prog_14_method_69_code 2 = .ok (.invokevirtual 287, 3) := by decide +kernel
theorem dM_canHold_5 : decode prog_14_method_69_code 5 = .ok (.ifCond .eq 21, 3) := by decide +kernel
theorem dM_canHold_8 : decode prog_14_method_69_code 8 = .ok (.iload_n 1, 1) := by decide +kernel
theorem dM_canHold_9 : decode prog_14_method_69_code 9 = .ok (.bipush 16, 2) := by decide +kernel
theorem dM_canHold_11 : decode prog_14_method_69_code 11 = .ok (.if_icmp .lt 11, 3) := by decide +kernel
theorem dM_canHold_14 : decode prog_14_method_69_code 14 = .ok (.iload_n 2, 1) := by decide +kernel
theorem dM_canHold_15 : decode prog_14_method_69_code 15 = .ok (.iload_n 1, 1) := by decide +kernel
theorem dM_canHold_16 : decode prog_14_method_69_code 16 = .ok (.bipush 16, 2) := by decide +kernel
theorem dM_canHold_18 : decode prog_14_method_69_code 18 = .ok (.isub, 1) := by decide +kernel
theorem dM_canHold_19 : decode prog_14_method_69_code 19 = .ok (.if_icmp .ge 7, 3) := by decide +kernel
theorem dM_canHold_22 : decode prog_14_method_69_code 22 = .ok (.iconst 1, 1) := by decide +kernel
theorem dM_canHold_23 : decode prog_14_method_69_code 23 = .ok (.goto 4, 3) := by decide +kernel
theorem dM_canHold_26 : decode prog_14_method_69_code 26 = .ok (.iconst 0, 1) := by decide +kernel
theorem dM_canHold_27 : decode prog_14_method_69_code 27 = .ok (.ireturn, 1) := by decide +kernel
theorem dM_canTell_0 : decode prog_14_method_10_code 0 = .ok (.iload_n 0, 1) := by decide +kernel
theorem dM_canTell_1 : decode prog_14_method_10_code 1 = .ok (.iload_n 1, 1) := by decide +kernel
theorem dM_canTell_2 : decode prog_14_method_10_code 2 = .ok (.invokestatic 239, 3) := by decide +kernel
theorem dM_canTell_5 : decode prog_14_method_10_code 5 = .ok (.ifCond .eq 15, 3) := by decide +kernel
theorem dM_canTell_8 : decode prog_14_method_10_code 8 = .ok (.iload_n 2, 1) := by decide +kernel
theorem dM_canTell_9 : decode prog_14_method_10_code 9 = .ok (.i2l, 1) := by decide +kernel
theorem dM_canTell_10 : decode prog_14_method_10_code 10 = .ok (.lconst 0, 1) := by decide +kernel
theorem dM_canTell_11 : decode prog_14_method_10_code 11 = .ok (.ldc2_w 220, 3) := by decide +kernel
theorem dM_canTell_14 : decode prog_14_method_10_code 14 = .ok (.invokestatic 222, 3) := by decide +kernel
theorem dM_canTell_17 : decode prog_14_method_10_code 17 = .ok (.ifCond .ne 5, 3) := by decide +kernel
theorem dM_canTell_20 : decode prog_14_method_10_code 20 = .ok (.iconst 0, 1) := by decide +kernel
theorem dM_canTell_21 : decode prog_14_method_10_code 21 = .ok (.ireturn, 1) := by decide +kernel
theorem dM_canTell_22 : decode prog_14_method_10_code 22 = .ok (.iload_n 0, 1) := by decide +kernel
theorem dM_canTell_23 : decode prog_14_method_10_code 23 = .ok (.ifCond .ne 15, 3) := by decide +kernel
theorem dM_canTell_26 : decode prog_14_method_10_code 26 = .ok (.iload_n 3, 1) := by decide +kernel
theorem dM_canTell_27 : decode prog_14_method_10_code 27 = .ok (.i2l, 1) := by decide +kernel
theorem dM_canTell_28 : decode prog_14_method_10_code 28 = .ok (.lconst 1, 1) := by decide +kernel
theorem dM_canTell_29 : decode prog_14_method_10_code 29 = .ok (.ldc2_w 243, 3) := by decide +kernel
theorem dM_canTell_32 : decode prog_14_method_10_code 32 = .ok (.invokestatic 222, 3) := by decide +kernel
theorem dM_canTell_35 : decode prog_14_method_10_code 35 = .ok (.goto 48, 3) := by decide +kernel
theorem dM_canTell_38 : decode prog_14_method_10_code 38 = .ok (.iload_n 0, 1) := by decide +kernel
theorem dM_canTell_39 : decode prog_14_method_10_code 39 = .ok (.iconst 1, 1) := by decide +kernel
theorem dM_canTell_40 : decode prog_14_method_10_code 40 = .ok (.if_icmp .ne 15, 3) := by decide +kernel
theorem dM_canTell_43 : decode prog_14_method_10_code 43 = .ok (.iload_n 3, 1) := by decide +kernel
theorem dM_canTell_44 : decode prog_14_method_10_code 44 = .ok (.i2l, 1) := by decide +kernel
theorem dM_canTell_45 : decode prog_14_method_10_code 45 = .ok (.lconst 1, 1) := by decide +kernel
theorem dM_canTell_46 : decode prog_14_method_10_code 46 = .ok (.ldc2_w 245, 3) := by decide +kernel
theorem dM_canTell_49 : decode prog_14_method_10_code 49 = .ok (.invokestatic 222, 3) := by decide +kernel
theorem dM_canTell_52 : decode prog_14_method_10_code 52 = .ok (.goto 31, 3) := by decide +kernel
theorem dM_canTell_55 : decode prog_14_method_10_code 55 = .ok (.iload_n 0, 1) := by decide +kernel
theorem dM_canTell_56 : decode prog_14_method_10_code 56 = .ok (.iconst 2, 1) := by decide +kernel
theorem dM_canTell_57 : decode prog_14_method_10_code 57 = .ok (.if_icmp .ne 15, 3) := by decide +kernel
theorem dM_canTell_60 : decode prog_14_method_10_code 60 = .ok (.iload_n 3, 1) := by decide +kernel
theorem dM_canTell_61 : decode prog_14_method_10_code 61 = .ok (.i2l, 1) := by decide +kernel
theorem dM_canTell_62 : decode prog_14_method_10_code 62 = .ok (.lconst 0, 1) := by decide +kernel
theorem dM_canTell_63 : decode prog_14_method_10_code 63 = .ok (.ldc2_w 247, 3) := by decide +kernel
theorem dM_canTell_66 : decode prog_14_method_10_code 66 = .ok (.invokestatic 222, 3) := by decide +kernel
theorem dM_canTell_69 : decode prog_14_method_10_code 69 = .ok (.goto 14, 3) := by decide +kernel
theorem dM_canTell_72 : decode prog_14_method_10_code 72 = .ok (.iload_n 3, 1) := by decide +kernel
theorem dM_canTell_73 : decode prog_14_method_10_code 73 = .ok (.i2l, 1) := by decide +kernel
theorem dM_canTell_74 : decode prog_14_method_10_code 74 = .ok (.ldc2_w 249, 3) := by decide +kernel
theorem dM_canTell_77 : decode prog_14_method_10_code 77 = .ok (.ldc2_w 243, 3) := by decide +kernel
theorem dM_canTell_80 : decode prog_14_method_10_code 80 = .ok (.invokestatic 222, 3) := by decide +kernel
theorem dM_canTell_83 : decode prog_14_method_10_code 83 = .ok (.ireturn, 1) := by decide +kernel
theorem dM_carries_0 : decode prog_14_method_46_code 0 = .ok (.iconst (-1), 1) := by decide +kernel
theorem dM_carries_1 : decode prog_14_method_46_code 1 = .ok (.istore 4, 2) := by decide +kernel
theorem dM_carries_3 : decode prog_14_method_46_code 3 = .ok (.iconst 0, 1) := by decide +kernel
theorem dM_carries_4 : decode prog_14_method_46_code 4 = .ok (.istore 5, 2) := by decide +kernel
theorem dM_carries_6 : decode prog_14_method_46_code 6 = .ok (.iload 5, 2) := by decide +kernel
theorem dM_carries_8 : decode prog_14_method_46_code 8 = .ok (.sipush 260, 3) := by decide +kernel
theorem dM_carries_11 : decode prog_14_method_46_code 11 = .ok (.if_icmp .ge 44, 3) := by decide +kernel
theorem dM_carries_14 : decode prog_14_method_46_code 14 = .ok (.aload_n 3, 1) := by decide +kernel
theorem dM_carries_15 : decode prog_14_method_46_code 15 = .ok (.iload 5, 2) := by decide +kernel
theorem dM_carries_17 : decode prog_14_method_46_code 17 = .ok (.iload 5, 2) := by decide +kernel
theorem dM_carries_19 : decode prog_14_method_46_code 19 = .ok (.ifCond .ne 10, 3) := by decide +kernel
theorem dM_carries_22 : decode prog_14_method_46_code 22 = .ok (.iload_n 1, 1) := by decide +kernel
theorem dM_carries_23 : decode prog_14_method_46_code 23 = .ok (.invokestatic 271, 3) := by decide +kernel
theorem dM_carries_26 : decode prog_14_method_46_code 26 = .ok (.goto 9, 3) := by decide +kernel
theorem dM_carries_29 : decode prog_14_method_46_code 29 = .ok (.aload_n 3, 1) := by decide +kernel
theorem dM_carries_30 : decode prog_14_method_46_code 30 = .ok (.iload 5, 2) := by decide +kernel
theorem dM_carries_32 : decode prog_14_method_46_code 32 = .ok (.iconst 1, 1) := by decide +kernel
theorem dM_carries_33 : decode prog_14_method_46_code 33 = .ok (.isub, 1) := by decide +kernel
theorem dM_carries_34 : decode prog_14_method_46_code 34 = .ok (.iaload, 1) := by decide +kernel
theorem dM_carries_35 : decode prog_14_method_46_code 35 = .ok (.iastore, 1) := by decide +kernel
theorem dM_carries_36 : decode prog_14_method_46_code 36 = .ok (.iload_n 1, 1) := by decide +kernel
theorem dM_carries_37 : decode prog_14_method_46_code 37 = .ok (.iconst 1, 1) := by decide +kernel
theorem dM_carries_38 : decode prog_14_method_46_code 38 = .ok (.if_icmp .le 11, 3) := by decide +kernel
theorem dM_carries_41 : decode prog_14_method_46_code 41 = .ok (.aload_n 3, 1) := by decide +kernel
theorem dM_carries_42 : decode prog_14_method_46_code 42 = .ok (.iload 5, 2) := by decide +kernel
theorem dM_carries_44 : decode prog_14_method_46_code 44 = .ok (.iload_n 1, 1) := by decide +kernel
theorem dM_carries_45 : decode prog_14_method_46_code 45 = .ok (.invokestatic 271, 3) := by decide +kernel
theorem dM_carries_48 : decode prog_14_method_46_code 48 = .ok (.iastore, 1) := by decide +kernel
theorem dM_carries_49 : decode prog_14_method_46_code 49 = .ok (.iinc 5 1, 3) := by decide +kernel
theorem dM_carries_52 : decode prog_14_method_46_code 52 = .ok (.goto (-46), 3) := by decide +kernel
theorem dM_carries_55 : decode prog_14_method_46_code 55 = .ok (.iconst 0, 1) := by decide +kernel
theorem dM_carries_56 : decode prog_14_method_46_code 56 = .ok (.istore 5, 2) := by decide +kernel
theorem dM_carries_58 : decode prog_14_method_46_code 58 = .ok (.iload 5, 2) := by decide +kernel
theorem dM_carries_60 : decode prog_14_method_46_code 60 = .ok (.sipush 260, 3) := by decide +kernel
theorem dM_carries_63 : decode prog_14_method_46_code 63 = .ok (.if_icmp .ge 17, 3) := by decide +kernel
theorem dM_carries_66 : decode prog_14_method_46_code 66 = .ok (.aload_n 0, 1) := by decide +kernel
theorem dM_carries_67 : decode prog_14_method_46_code 67 = .ok (.getfield 166, 3) := by decide +kernel
theorem dM_carries_70 : decode prog_14_method_46_code 70 = .ok (.iload 5, 2) := by decide +kernel
theorem dM_carries_72 : decode prog_14_method_46_code 72 = .ok (.iconst 0, 1) := by decide +kernel
theorem dM_carries_73 : decode prog_14_method_46_code 73 = .ok (.bastore, 1) := by decide +kernel
theorem dM_carries_74 : decode prog_14_method_46_code 74 = .ok (.iinc 5 1, 3) := by decide +kernel
theorem dM_carries_77 : decode prog_14_method_46_code 77 = .ok (.goto (-19), 3) := by decide +kernel
theorem dM_carries_80 : decode prog_14_method_46_code 80 = .ok (.iconst 0, 1) := by decide +kernel
theorem dM_carries_81 : decode prog_14_method_46_code 81 = .ok (.istore 5, 2) := by decide +kernel
theorem dM_carries_83 : decode prog_14_method_46_code 83 = .ok (.iload 5, 2) := by decide +kernel
theorem dM_carries_85 : decode prog_14_method_46_code 85 = .ok (.aload_n 0, 1) := by decide +kernel
theorem dM_carries_86 : decode prog_14_method_46_code 86 = .ok (.getfield 251, 3) := by decide +kernel
theorem dM_carries_89 : decode prog_14_method_46_code 89 = .ok (.if_icmp .ge 77, 3) := by decide +kernel
theorem dM_carries_92 : decode prog_14_method_46_code 92 = .ok (.aload_n 0, 1) := by decide +kernel
theorem dM_carries_93 : decode prog_14_method_46_code 93 = .ok (.getfield 13, 3) := by decide +kernel
theorem dM_carries_96 : decode prog_14_method_46_code 96 = .ok (.iload 5, 2) := by decide +kernel
theorem dM_carries_98 : decode prog_14_method_46_code 98 = .ok (.iaload, 1) := by decide +kernel
theorem dM_carries_99 : decode prog_14_method_46_code 99 = .ok (.iload_n 1, 1) := by decide +kernel
theorem dM_carries_100 : decode prog_14_method_46_code 100 = .ok (.if_icmp .ne 60, 3) := by decide +kernel
theorem dM_carries_103 : decode prog_14_method_46_code 103 = .ok (.aload_n 0, 1) := by decide +kernel
theorem dM_carries_104 : decode prog_14_method_46_code 104 = .ok (.getfield 17, 3) := by decide +kernel
theorem dM_carries_107 : decode prog_14_method_46_code 107 = .ok (.iload 5, 2) := by decide +kernel
theorem dM_carries_109 : decode prog_14_method_46_code 109 = .ok (.iaload, 1) := by decide +kernel
theorem dM_carries_110 : decode prog_14_method_46_code 110 = .ok (.iload_n 2, 1) := by decide +kernel
theorem dM_carries_111 : decode prog_14_method_46_code 111 = .ok (.if_icmp .ne 49, 3) := by decide +kernel
theorem dM_carries_114 : decode prog_14_method_46_code 114 = .ok (.aload_n 0, 1) := by decide +kernel
theorem dM_carries_115 : decode prog_14_method_46_code 115 = .ok (.getfield 26, 3) := by decide +kernel
theorem dM_carries_118 : decode prog_14_method_46_code 118 = .ok (.iload 5, 2) := by decide +kernel
theorem dM_carries_120 : decode prog_14_method_46_code 120 = .ok (.iaload, 1) := by decide +kernel
theorem dM_carries_121 : decode prog_14_method_46_code 121 = .ok (.aload_n 0, 1) := by decide +kernel
theorem dM_carries_122 : decode prog_14_method_46_code 122 = .ok (.getfield 418, 3) := by decide +kernel
theorem dM_carries_125 : decode prog_14_method_46_code 125 = .ok (.if_icmp .le 6, 3) := by decide +kernel
theorem dM_carries_128 : decode prog_14_method_46_code 128 = .ok (.goto 32, 3) := by decide +kernel
theorem dM_carries_131 : decode prog_14_method_46_code 131 = .ok (.aload_n 3, 1) := by decide +kernel
theorem dM_carries_132 : decode prog_14_method_46_code 132 = .ok (.aload_n 0, 1) := by decide +kernel
theorem dM_carries_133 : decode prog_14_method_46_code 133 = .ok (.getfield 20, 3) := by decide +kernel
theorem dM_carries_136 : decode prog_14_method_46_code 136 = .ok (.iload 5, 2) := by decide +kernel
theorem dM_carries_138 : decode prog_14_method_46_code 138 = .ok (.iaload, 1) := by decide +kernel
theorem dM_carries_139 : decode prog_14_method_46_code 139 = .ok (.aload_n 0, 1) := by decide +kernel
theorem dM_carries_140 : decode prog_14_method_46_code 140 = .ok (.getfield 23, 3) := by decide +kernel
theorem dM_carries_143 : decode prog_14_method_46_code 143 = .ok (.iload 5, 2) := by decide +kernel
theorem dM_carries_145 : decode prog_14_method_46_code 145 = .ok (.iaload, 1) := by decide +kernel
theorem dM_carries_146 : decode prog_14_method_46_code 146 = .ok (.iastore, 1) := by decide +kernel
theorem dM_carries_147 : decode prog_14_method_46_code 147 = .ok (.aload_n 0, 1) := by decide +kernel
theorem dM_carries_148 : decode prog_14_method_46_code 148 = .ok (.getfield 166, 3) := by decide +kernel
theorem dM_carries_151 : decode prog_14_method_46_code 151 = .ok (.aload_n 0, 1) := by decide +kernel
theorem dM_carries_152 : decode prog_14_method_46_code 152 = .ok (.getfield 20, 3) := by decide +kernel
theorem dM_carries_155 : decode prog_14_method_46_code 155 = .ok (.iload 5, 2) := by decide +kernel
theorem dM_carries_157 : decode prog_14_method_46_code 157 = .ok (.iaload, 1) := by decide +kernel
theorem dM_carries_158 : decode prog_14_method_46_code 158 = .ok (.iconst 1, 1) := by decide +kernel
theorem dM_carries_159 : decode prog_14_method_46_code 159 = .ok (.bastore, 1) := by decide +kernel
theorem dM_carries_160 : decode prog_14_method_46_code 160 = .ok (.iinc 5 1, 3) := by decide +kernel
theorem dM_carries_163 : decode prog_14_method_46_code 163 = .ok (.goto (-80), 3) := by decide +kernel
theorem dM_carries_166 : decode prog_14_method_46_code 166 = .ok (.iconst 1, 1) := by decide +kernel
theorem dM_carries_167 : decode prog_14_method_46_code 167 = .ok (.istore 5, 2) := by decide +kernel
theorem dM_carries_169 : decode prog_14_method_46_code 169 = .ok (.iload 5, 2) := by decide +kernel
theorem dM_carries_171 : decode prog_14_method_46_code 171 = .ok (.sipush 260, 3) := by decide +kernel
theorem dM_carries_174 : decode prog_14_method_46_code 174 = .ok (.if_icmp .ge 34, 3) := by decide +kernel
theorem dM_carries_177 : decode prog_14_method_46_code 177 = .ok (.iload_n 1, 1) := by decide +kernel
theorem dM_carries_178 : decode prog_14_method_46_code 178 = .ok (.iconst 2, 1) := by decide +kernel
theorem dM_carries_179 : decode prog_14_method_46_code 179 = .ok (.if_icmp .ge 29, 3) := by decide +kernel
theorem dM_carries_182 : decode prog_14_method_46_code 182 = .ok (.aload_n 0, 1) := by decide +kernel
theorem dM_carries_183 : decode prog_14_method_46_code 183 = .ok (.getfield 166, 3) := by decide +kernel
theorem dM_carries_186 : decode prog_14_method_46_code 186 = .ok (.iload 5, 2) := by decide +kernel
theorem dM_carries_188 : decode prog_14_method_46_code 188 = .ok (.baload, 1) := by decide +kernel
theorem dM_carries_189 : decode prog_14_method_46_code 189 = .ok (.ifCond .ne 13, 3) := by decide +kernel
theorem dM_carries_192 : decode prog_14_method_46_code 192 = .ok (.aload_n 3, 1) := by decide +kernel
theorem dM_carries_193 : decode prog_14_method_46_code 193 = .ok (.iload 5, 2) := by decide +kernel
theorem dM_carries_195 : decode prog_14_method_46_code 195 = .ok (.aload_n 3, 1) := by decide +kernel
theorem dM_carries_196 : decode prog_14_method_46_code 196 = .ok (.iload 5, 2) := by decide +kernel
theorem dM_carries_198 : decode prog_14_method_46_code 198 = .ok (.iconst 1, 1) := by decide +kernel
theorem dM_carries_199 : decode prog_14_method_46_code 199 = .ok (.isub, 1) := by decide +kernel
theorem dM_carries_200 : decode prog_14_method_46_code 200 = .ok (.iaload, 1) := by decide +kernel
theorem dM_carries_201 : decode prog_14_method_46_code 201 = .ok (.iastore, 1) := by decide +kernel
theorem dM_carries_202 : decode prog_14_method_46_code 202 = .ok (.iinc 5 1, 3) := by decide +kernel
theorem dM_carries_205 : decode prog_14_method_46_code 205 = .ok (.goto (-36), 3) := by decide +kernel
theorem dM_carries_208 : decode prog_14_method_46_code 208 = .ok (.return_, 1) := by decide +kernel
theorem dM_cash_0 : decode prog_14_method_81_code 0 = .ok (.aload_n 0, 1) := by decide +kernel
theorem dM_cash_1 : decode prog_14_method_81_code 1 = .ok (.iload_n 1, 1) := by decide +kernel
theorem dM_cash_2 : decode prog_14_method_81_code 2 = .ok (.invokevirtual 287, 3) := by decide +kernel
theorem dM_cash_5 : decode prog_14_method_81_code 5 = .ok (.ifCond .eq 13, 3) := by decide +kernel
theorem dM_cash_8 : decode prog_14_method_81_code 8 = .ok (.iload_n 2, 1) := by decide +kernel
theorem dM_cash_9 : decode prog_14_method_81_code 9 = .ok (.i2l, 1) := by decide +kernel
theorem dM_cash_10 : decode prog_14_method_81_code 10 = .ok (.lconst 0, 1) := by decide +kernel
theorem dM_cash_11 : decode prog_14_method_81_code 11 = .ok (.lconst 1, 1) := by decide +kernel
theorem dM_cash_12 : decode prog_14_method_81_code 12 = .ok (.invokestatic 222, 3) := by decide +kernel
theorem dM_cash_15 : decode prog_14_method_81_code 15 = .ok (.ifCond .ne 7, 3) := by decide +kernel
theorem dM_cash_18 : decode prog_14_method_81_code 18 = .ok (.ldc_w 266, 3) := by decide +kernel
theorem dM_cash_21 : decode prog_14_method_81_code 21 = .ok (.ireturn, 1) := by decide +kernel
theorem dM_cash_22 : decode prog_14_method_81_code 22 = .ok (.aload_n 0, 1) := by decide +kernel
theorem dM_cash_23 : decode prog_14_method_81_code 23 = .ok (.aload_n 0, 1) := by decide +kernel
theorem dM_cash_24 : decode prog_14_method_81_code 24 = .ok (.aload_n 0, 1) := by decide +kernel
theorem dM_cash_25 : decode prog_14_method_81_code 25 = .ok (.invokevirtual 254, 3) := by decide +kernel
theorem dM_cash_28 : decode prog_14_method_81_code 28 = .ok (.invokevirtual 486, 3) := by decide +kernel
theorem dM_cash_31 : decode prog_14_method_81_code 31 = .ok (.aload_n 0, 1) := by decide +kernel
theorem dM_cash_32 : decode prog_14_method_81_code 32 = .ok (.invokevirtual 254, 3) := by decide +kernel
theorem dM_cash_35 : decode prog_14_method_81_code 35 = .ok (.iload_n 2, 1) := by decide +kernel
theorem dM_cash_36 : decode prog_14_method_81_code 36 = .ok (.ifCond .ne 7, 3) := by decide +kernel
theorem dM_cash_39 : decode prog_14_method_81_code 39 = .ok (.iconst 2, 1) := by decide +kernel
theorem dM_cash_40 : decode prog_14_method_81_code 40 = .ok (.goto 4, 3) := by decide +kernel
theorem dM_cash_43 : decode prog_14_method_81_code 43 = .ok (.iconst 0, 1) := by decide +kernel
theorem dM_cash_44 : decode prog_14_method_81_code 44 = .ok (.invokevirtual 471, 3) := by decide +kernel
theorem dM_cash_47 : decode prog_14_method_81_code 47 = .ok (.aload_n 0, 1) := by decide +kernel
theorem dM_cash_48 : decode prog_14_method_81_code 48 = .ok (.getfield 137, 3) := by decide +kernel
theorem dM_cash_51 : decode prog_14_method_81_code 51 = .ok (.iload_n 1, 1) := by decide +kernel
theorem dM_cash_52 : decode prog_14_method_81_code 52 = .ok (.laload, 1) := by decide +kernel
theorem dM_cash_53 : decode prog_14_method_81_code 53 = .ok (.invokestatic 482, 3) := by decide +kernel
theorem dM_cash_56 : decode prog_14_method_81_code 56 = .ok (.ireturn, 1) := by decide +kernel
theorem dM_claim_0 : decode prog_14_method_77_code 0 = .ok (.aload_n 0, 1) := by decide +kernel
theorem dM_claim_1 : decode prog_14_method_77_code 1 = .ok (.iload_n 1, 1) := by decide +kernel
theorem dM_claim_2 : decode prog_14_method_77_code 2 = .ok (.invokevirtual 297, 3) := by decide +kernel
theorem dM_claim_5 : decode prog_14_method_77_code 5 = .ok (.istore 5, 2) := by decide +kernel
theorem dM_claim_7 : decode prog_14_method_77_code 7 = .ok (.iload 5, 2) := by decide +kernel
theorem dM_claim_9 : decode prog_14_method_77_code 9 = .ok (.iconst (-1), 1) := by decide +kernel
theorem dM_claim_10 : decode prog_14_method_77_code 10 = .ok (.if_icmp .eq 34, 3) := by decide +kernel
theorem dM_claim_13 : decode prog_14_method_77_code 13 = .ok (.aload_n 0, 1) := by decide +kernel
theorem dM_claim_14 : decode prog_14_method_77_code 14 = .ok (.iload 5, 2) := by decide +kernel
theorem dM_claim_16 : decode prog_14_method_77_code 16 = .ok (.iload_n 2, 1) := by decide +kernel
theorem dM_claim_17 : decode prog_14_method_77_code 17 = .ok (.invokevirtual 493, 3) := by decide +kernel
theorem dM_claim_20 : decode prog_14_method_77_code 20 = .ok (.ifCond .eq 24, 3) := by decide +kernel
theorem dM_claim_23 : decode prog_14_method_77_code 23 = .ok (.aload_n 0, 1) := by decide +kernel
theorem dM_claim_24 : decode prog_14_method_77_code 24 = .ok (.iload_n 3, 1) := by decide +kernel
theorem dM_claim_25 : decode prog_14_method_77_code 25 = .ok (.invokevirtual 508, 3) := by decide +kernel
theorem dM_claim_28 : decode prog_14_method_77_code 28 = .ok (.ifCond .eq 16, 3) := by decide +kernel
theorem dM_claim_31 : decode prog_14_method_77_code 31 = .ok (.iload 4, 2) := by decide +kernel
theorem dM_claim_33 : decode prog_14_method_77_code 33 = .ok (.i2l, 1) := by decide +kernel
theorem dM_claim_34 : decode prog_14_method_77_code 34 = .ok (.lconst 0, 1) := by decide +kernel
theorem dM_claim_35 : decode prog_14_method_77_code 35 = .ok (.ldc2_w 235, 3) := by decide +kernel
theorem dM_claim_38 : decode prog_14_method_77_code 38 = .ok (.invokestatic 222, 3) := by decide +kernel
theorem dM_claim_41 : decode prog_14_method_77_code 41 = .ok (.ifCond .ne 7, 3) := by decide +kernel
theorem dM_claim_44 : decode prog_14_method_77_code 44 = .ok (.ldc_w 266, 3) := by decide +kernel
theorem dM_claim_47 : decode prog_14_method_77_code 47 = .ok (.ireturn, 1) := by decide +kernel
theorem dM_claim_48 : decode prog_14_method_77_code 48 = .ok (.aload_n 0, 1) := by decide +kernel
theorem dM_claim_49 : decode prog_14_method_77_code 49 = .ok (.iload_n 2, 1) := by decide +kernel
theorem dM_claim_50 : decode prog_14_method_77_code 50 = .ok (.iload_n 3, 1) := by decide +kernel
theorem dM_claim_51 : decode prog_14_method_77_code 51 = .ok (.invokevirtual 511, 3) := by decide +kernel
theorem dM_claim_54 : decode prog_14_method_77_code 54 = .ok (.iload 4, 2) := by decide +kernel
theorem dM_claim_56 : decode prog_14_method_77_code 56 = .ok (.ifCond .ne 16, 3) := by decide +kernel
theorem dM_claim_59 : decode prog_14_method_77_code 59 = .ok (.aload_n 0, 1) := by decide +kernel
theorem dM_claim_60 : decode prog_14_method_77_code 60 = .ok (.getfield 172, 3) := by decide +kernel
theorem dM_claim_63 : decode prog_14_method_77_code 63 = .ok (.iload 5, 2) := by decide +kernel
theorem dM_claim_65 : decode prog_14_method_77_code 65 = .ok (.laload, 1) := by decide +kernel
theorem dM_claim_66 : decode prog_14_method_77_code 66 = .ok (.invokestatic 482, 3) := by decide +kernel
theorem dM_claim_69 : decode prog_14_method_77_code 69 = .ok (.goto 48, 3) := by decide +kernel
theorem dM_claim_72 : decode prog_14_method_77_code 72 = .ok (.iload 4, 2) := by decide +kernel
theorem dM_claim_74 : decode prog_14_method_77_code 74 = .ok (.iconst 1, 1) := by decide +kernel
theorem dM_claim_75 : decode prog_14_method_77_code 75 = .ok (.if_icmp .ne 16, 3) := by decide +kernel
theorem dM_claim_78 : decode prog_14_method_77_code 78 = .ok (.aload_n 0, 1) := by decide +kernel
theorem dM_claim_79 : decode prog_14_method_77_code 79 = .ok (.getfield 175, 3) := by decide +kernel
theorem dM_claim_82 : decode prog_14_method_77_code 82 = .ok (.iload 5, 2) := by decide +kernel
theorem dM_claim_84 : decode prog_14_method_77_code 84 = .ok (.laload, 1) := by decide +kernel
theorem dM_claim_85 : decode prog_14_method_77_code 85 = .ok (.invokestatic 482, 3) := by decide +kernel
theorem dM_claim_88 : decode prog_14_method_77_code 88 = .ok (.goto 29, 3) := by decide +kernel
theorem dM_claim_91 : decode prog_14_method_77_code 91 = .ok (.iload 4, 2) := by decide +kernel
theorem dM_claim_93 : decode prog_14_method_77_code 93 = .ok (.iconst 2, 1) := by decide +kernel
theorem dM_claim_94 : decode prog_14_method_77_code 94 = .ok (.if_icmp .ne 16, 3) := by decide +kernel
theorem dM_claim_97 : decode prog_14_method_77_code 97 = .ok (.aload_n 0, 1) := by decide +kernel
theorem dM_claim_98 : decode prog_14_method_77_code 98 = .ok (.getfield 178, 3) := by decide +kernel
theorem dM_claim_101 : decode prog_14_method_77_code 101 = .ok (.iload 5, 2) := by decide +kernel
theorem dM_claim_103 : decode prog_14_method_77_code 103 = .ok (.laload, 1) := by decide +kernel
theorem dM_claim_104 : decode prog_14_method_77_code 104 = .ok (.invokestatic 482, 3) := by decide +kernel
theorem dM_claim_107 : decode prog_14_method_77_code 107 = .ok (.goto 10, 3) := by decide +kernel
theorem dM_claim_110 : decode prog_14_method_77_code 110 = .ok (.aload_n 0, 1) := by decide +kernel
theorem dM_claim_111 : decode prog_14_method_77_code 111 = .ok (.getfield 181, 3) := by decide +kernel
theorem dM_claim_114 : decode prog_14_method_77_code 114 = .ok (.iload 5, 2) := by decide +kernel
theorem dM_claim_116 : decode prog_14_method_77_code 116 = .ok (.iaload, 1) := by decide +kernel
theorem dM_claim_117 : decode prog_14_method_77_code 117 = .ok (.ireturn, 1) := by decide +kernel
theorem dM_count_0 : decode prog_14_method_106_code 0 = .ok (.iload_n 1, 1) := by decide +kernel
theorem dM_count_1 : decode prog_14_method_106_code 1 = .ok (.i2l, 1) := by decide +kernel
theorem dM_count_2 : decode prog_14_method_106_code 2 = .ok (.ldc2_w 571, 3) := by decide +kernel
theorem dM_count_5 : decode prog_14_method_106_code 5 = .ok (.bipush 19, 2) := by decide +kernel
theorem dM_count_7 : decode prog_14_method_106_code 7 = .ok (.aload_n 0, 1) := by decide +kernel
theorem dM_count_8 : decode prog_14_method_106_code 8 = .ok (.getfield 275, 3) := by decide +kernel
theorem dM_count_11 : decode prog_14_method_106_code 11 = .ok (.iadd, 1) := by decide +kernel
theorem dM_count_12 : decode prog_14_method_106_code 12 = .ok (.i2l, 1) := by decide +kernel
theorem dM_count_13 : decode prog_14_method_106_code 13 = .ok (.invokestatic 222, 3) := by decide +kernel
theorem dM_count_16 : decode prog_14_method_106_code 16 = .ok (.ifCond .eq 58, 3) := by decide +kernel
theorem dM_count_19 : decode prog_14_method_106_code 19 = .ok (.iconst 0, 1) := by decide +kernel
theorem dM_count_20 : decode prog_14_method_106_code 20 = .ok (.istore_n 2, 1) := by decide +kernel
theorem dM_count_21 : decode prog_14_method_106_code 21 = .ok (.iconst 0, 1) := by decide +kernel
theorem dM_count_22 : decode prog_14_method_106_code 22 = .ok (.istore_n 3, 1) := by decide +kernel
theorem dM_count_23 : decode prog_14_method_106_code 23 = .ok (.iload_n 3, 1) := by decide +kernel
theorem dM_count_24 : decode prog_14_method_106_code 24 = .ok (.aload_n 0, 1) := by decide +kernel
theorem dM_count_25 : decode prog_14_method_106_code 25 = .ok (.getfield 302, 3) := by decide +kernel
theorem dM_count_28 : decode prog_14_method_106_code 28 = .ok (.if_icmp .ge 44, 3) := by decide +kernel
theorem dM_count_31 : decode prog_14_method_106_code 31 = .ok (.iload_n 2, 1) := by decide +kernel
theorem dM_count_32 : decode prog_14_method_106_code 32 = .ok (.aload_n 0, 1) := by decide +kernel
theorem dM_count_33 : decode prog_14_method_106_code 33 = .ok (.getfield 89, 3) := by decide +kernel
theorem dM_count_36 : decode prog_14_method_106_code 36 = .ok (.iload_n 3, 1) := by decide +kernel
theorem dM_count_37 : decode prog_14_method_106_code 37 = .ok (.baload, 1) := by decide +kernel
theorem dM_count_38 : decode prog_14_method_106_code 38 = .ok (.ifCond .eq 25, 3) := by decide +kernel
theorem dM_count_41 : decode prog_14_method_106_code 41 = .ok (.aload_n 0, 1) := by decide +kernel
theorem dM_count_42 : decode prog_14_method_106_code 42 = .ok (.getfield 77, 3) := by decide +kernel
theorem dM_count_45 : decode prog_14_method_106_code 45 = .ok (.iload_n 3, 1) := by decide +kernel
theorem dM_count_46 : decode prog_14_method_106_code 46 = .ok (.iaload, 1) := by decide +kernel
theorem dM_count_47 : decode prog_14_method_106_code 47 = .ok (.iload_n 1, 1) := by decide +kernel
theorem dM_count_48 : decode prog_14_method_106_code 48 = .ok (.bipush 20, 2) := by decide +kernel
theorem dM_count_50 : decode prog_14_method_106_code 50 = .ok (.isub, 1) := by decide +kernel
theorem dM_count_51 : decode prog_14_method_106_code 51 = .ok (.if_icmp .ne 12, 3) := by decide +kernel
theorem dM_count_54 : decode prog_14_method_106_code 54 = .ok (.aload_n 0, 1) := by decide +kernel
theorem dM_count_55 : decode prog_14_method_106_code 55 = .ok (.getfield 86, 3) := by decide +kernel
theorem dM_count_58 : decode prog_14_method_106_code 58 = .ok (.iload_n 3, 1) := by decide +kernel
theorem dM_count_59 : decode prog_14_method_106_code 59 = .ok (.iaload, 1) := by decide +kernel
theorem dM_count_60 : decode prog_14_method_106_code 60 = .ok (.goto 4, 3) := by decide +kernel
theorem dM_count_63 : decode prog_14_method_106_code 63 = .ok (.iconst 0, 1) := by decide +kernel
theorem dM_count_64 : decode prog_14_method_106_code 64 = .ok (.iadd, 1) := by decide +kernel
theorem dM_count_65 : decode prog_14_method_106_code 65 = .ok (.istore_n 2, 1) := by decide +kernel
theorem dM_count_66 : decode prog_14_method_106_code 66 = .ok (.iinc 3 1, 3) := by decide +kernel
theorem dM_count_69 : decode prog_14_method_106_code 69 = .ok (.goto (-46), 3) := by decide +kernel
theorem dM_count_72 : decode prog_14_method_106_code 72 = .ok (.iload_n 2, 1) := by decide +kernel
theorem dM_count_73 : decode prog_14_method_106_code 73 = .ok (.ireturn, 1) := by decide +kernel
theorem dM_count_74 : decode prog_14_method_106_code 74 = .ok (.iload_n 1, 1) := by decide +kernel
theorem dM_count_75 : decode prog_14_method_106_code 75 = .ok (.tableswitch 112 0 10 #[57, 62, 67, 72, 77, 82, 87, 92, 97, 102, 107], 57) := by decide +kernel
theorem dM_count_132 : decode prog_14_method_106_code 132 = .ok (.aload_n 0, 1) := by decide +kernel
theorem dM_count_133 : decode prog_14_method_106_code 133 = .ok (.getfield 216, 3) := by decide +kernel
theorem dM_count_136 : decode prog_14_method_106_code 136 = .ok (.ireturn, 1) := by decide +kernel
theorem dM_count_137 : decode prog_14_method_106_code 137 = .ok (.aload_n 0, 1) := by decide +kernel
theorem dM_count_138 : decode prog_14_method_106_code 138 = .ok (.getfield 275, 3) := by decide +kernel
theorem dM_count_141 : decode prog_14_method_106_code 141 = .ok (.ireturn, 1) := by decide +kernel
theorem dM_count_142 : decode prog_14_method_106_code 142 = .ok (.aload_n 0, 1) := by decide +kernel
theorem dM_count_143 : decode prog_14_method_106_code 143 = .ok (.getfield 284, 3) := by decide +kernel
theorem dM_count_146 : decode prog_14_method_106_code 146 = .ok (.ireturn, 1) := by decide +kernel
theorem dM_count_147 : decode prog_14_method_106_code 147 = .ok (.aload_n 0, 1) := by decide +kernel
theorem dM_count_148 : decode prog_14_method_106_code 148 = .ok (.getfield 251, 3) := by decide +kernel
theorem dM_count_151 : decode prog_14_method_106_code 151 = .ok (.ireturn, 1) := by decide +kernel
theorem dM_count_152 : decode prog_14_method_106_code 152 = .ok (.aload_n 0, 1) := by decide +kernel
theorem dM_count_153 : decode prog_14_method_106_code 153 = .ok (.getfield 294, 3) := by decide +kernel
theorem dM_count_156 : decode prog_14_method_106_code 156 = .ok (.ireturn, 1) := by decide +kernel
theorem dM_count_157 : decode prog_14_method_106_code 157 = .ok (.aload_n 0, 1) := by decide +kernel
theorem dM_count_158 : decode prog_14_method_106_code 158 = .ok (.getfield 302, 3) := by decide +kernel
theorem dM_count_161 : decode prog_14_method_106_code 161 = .ok (.ireturn, 1) := by decide +kernel
theorem dM_count_162 : decode prog_14_method_106_code 162 = .ok (.aload_n 0, 1) := by decide +kernel
theorem dM_count_163 : decode prog_14_method_106_code 163 = .ok (.getfield 413, 3) := by decide +kernel
theorem dM_count_166 : decode prog_14_method_106_code 166 = .ok (.ireturn, 1) := by decide +kernel
theorem dM_count_167 : decode prog_14_method_106_code 167 = .ok (.aload_n 0, 1) := by decide +kernel
theorem dM_count_168 : decode prog_14_method_106_code 168 = .ok (.getfield 309, 3) := by decide +kernel
theorem dM_count_171 : decode prog_14_method_106_code 171 = .ok (.ireturn, 1) := by decide +kernel
theorem dM_count_172 : decode prog_14_method_106_code 172 = .ok (.aload_n 0, 1) := by decide +kernel
theorem dM_count_173 : decode prog_14_method_106_code 173 = .ok (.getfield 523, 3) := by decide +kernel
theorem dM_count_176 : decode prog_14_method_106_code 176 = .ok (.ireturn, 1) := by decide +kernel
theorem dM_count_177 : decode prog_14_method_106_code 177 = .ok (.aload_n 0, 1) := by decide +kernel
theorem dM_count_178 : decode prog_14_method_106_code 178 = .ok (.getfield 526, 3) := by decide +kernel
theorem dM_count_181 : decode prog_14_method_106_code 181 = .ok (.ireturn, 1) := by decide +kernel
theorem dM_count_182 : decode prog_14_method_106_code 182 = .ok (.aload_n 0, 1) := by decide +kernel
theorem dM_count_183 : decode prog_14_method_106_code 183 = .ok (.getfield 226, 3) := by decide +kernel
theorem dM_count_186 : decode prog_14_method_106_code 186 = .ok (.ireturn, 1) := by decide +kernel
theorem dM_count_187 : decode prog_14_method_106_code 187 = .ok (.iconst (-1), 1) := by decide +kernel
theorem dM_count_188 : decode prog_14_method_106_code 188 = .ok (.ireturn, 1) := by decide +kernel
theorem dM_counts_0 : decode prog_14_method_66_code 0 = .ok (.aload_n 0, 1) := by decide +kernel
theorem dM_counts_1 : decode prog_14_method_66_code 1 = .ok (.getfield 160, 3) := by decide +kernel
theorem dM_counts_4 : decode prog_14_method_66_code 4 = .ok (.iload_n 1, 1) := by decide +kernel
theorem dM_counts_5 : decode prog_14_method_66_code 5 = .ok (.aaload, 1) := by decide +kernel
theorem dM_counts_6 : decode prog_14_method_66_code 6 = .ok (.iload_n 2, 1) := by decide +kernel
theorem dM_counts_7 : decode prog_14_method_66_code 7 = .ok (.laload, 1) := by decide +kernel
theorem dM_counts_8 : decode prog_14_method_66_code 8 = .ok (.aload_n 0, 1) := by decide +kernel
theorem dM_counts_9 : decode prog_14_method_66_code 9 = .ok (.getfield 148, 3) := by decide +kernel
theorem dM_counts_12 : decode prog_14_method_66_code 12 = .ok (.iload_n 1, 1) := by decide +kernel
theorem dM_counts_13 : decode prog_14_method_66_code 13 = .ok (.aaload, 1) := by decide +kernel
theorem dM_counts_14 : decode prog_14_method_66_code 14 = .ok (.iload_n 2, 1) := by decide +kernel
theorem dM_counts_15 : decode prog_14_method_66_code 15 = .ok (.laload, 1) := by decide +kernel
theorem dM_counts_16 : decode prog_14_method_66_code 16 = .ok (.lsub, 1) := by decide +kernel
theorem dM_counts_17 : decode prog_14_method_66_code 17 = .ok (.lstore 4, 2) := by decide +kernel
theorem dM_counts_19 : decode prog_14_method_66_code 19 = .ok (.ldc2_w 243, 3) := by decide +kernel
theorem dM_counts_22 : decode prog_14_method_66_code 22 = .ok (.lload 4, 2) := by decide +kernel
theorem dM_counts_24 : decode prog_14_method_66_code 24 = .ok (.lconst 0, 1) := by decide +kernel
theorem dM_counts_25 : decode prog_14_method_66_code 25 = .ok (.lcmp, 1) := by decide +kernel
theorem dM_counts_26 : decode prog_14_method_66_code 26 = .ok (.ifCond .ge 9, 3) := by decide +kernel
theorem dM_counts_29 : decode prog_14_method_66_code 29 = .ok (.lload 4, 2) := by decide +kernel
theorem dM_counts_31 : decode prog_14_method_66_code 31 = .ok (.lneg, 1) := by decide +kernel
theorem dM_counts_32 : decode prog_14_method_66_code 32 = .ok (.goto 5, 3) := by decide +kernel
theorem dM_counts_35 : decode prog_14_method_66_code 35 = .ok (.lload 4, 2) := by decide +kernel
theorem dM_counts_37 : decode prog_14_method_66_code 37 = .ok (.lmul, 1) := by decide +kernel
theorem dM_counts_38 : decode prog_14_method_66_code 38 = .ok (.iload_n 3, 1) := by decide +kernel
theorem dM_counts_39 : decode prog_14_method_66_code 39 = .ok (.i2l, 1) := by decide +kernel
theorem dM_counts_40 : decode prog_14_method_66_code 40 = .ok (.aload_n 0, 1) := by decide +kernel
theorem dM_counts_41 : decode prog_14_method_66_code 41 = .ok (.getfield 148, 3) := by decide +kernel
theorem dM_counts_44 : decode prog_14_method_66_code 44 = .ok (.iload_n 1, 1) := by decide +kernel
theorem dM_counts_45 : decode prog_14_method_66_code 45 = .ok (.aaload, 1) := by decide +kernel
theorem dM_counts_46 : decode prog_14_method_66_code 46 = .ok (.iload_n 2, 1) := by decide +kernel
theorem dM_counts_47 : decode prog_14_method_66_code 47 = .ok (.laload, 1) := by decide +kernel
theorem dM_counts_48 : decode prog_14_method_66_code 48 = .ok (.lmul, 1) := by decide +kernel
theorem dM_counts_49 : decode prog_14_method_66_code 49 = .ok (.lcmp, 1) := by decide +kernel
theorem dM_counts_50 : decode prog_14_method_66_code 50 = .ok (.ifCond .le 7, 3) := by decide +kernel
theorem dM_counts_53 : decode prog_14_method_66_code 53 = .ok (.iconst 1, 1) := by decide +kernel
theorem dM_counts_54 : decode prog_14_method_66_code 54 = .ok (.goto 4, 3) := by decide +kernel
theorem dM_counts_57 : decode prog_14_method_66_code 57 = .ok (.iconst 0, 1) := by decide +kernel
theorem dM_counts_58 : decode prog_14_method_66_code 58 = .ok (.ireturn, 1) := by decide +kernel
theorem dM_deal_0 : decode prog_14_method_23_code 0 = .ok (.aload_n 0, 1) := by decide +kernel
theorem dM_deal_1 : decode prog_14_method_23_code 1 = .ok (.iload_n 1, 1) := by decide +kernel
theorem dM_deal_2 : decode prog_14_method_23_code 2 = .ok (.invokevirtual 297, 3) := by decide +kernel
theorem dM_deal_5 : decode prog_14_method_23_code 5 = .ok (.istore 5, 2) := by decide +kernel
theorem dM_deal_7 : decode prog_14_method_23_code 7 = .ok (.iload 5, 2) := by decide +kernel
theorem dM_deal_9 : decode prog_14_method_23_code 9 = .ok (.iconst (-1), 1) := by decide +kernel
theorem dM_deal_10 : decode prog_14_method_23_code 10 = .ok (.if_icmp .eq 68, 3) := by decide +kernel
theorem dM_deal_13 : decode prog_14_method_23_code 13 = .ok (.aload_n 0, 1) := by decide +kernel
theorem dM_deal_14 : decode prog_14_method_23_code 14 = .ok (.iload_n 2, 1) := by decide +kernel
theorem dM_deal_15 : decode prog_14_method_23_code 15 = .ok (.invokevirtual 287, 3) := by decide +kernel
theorem dM_deal_18 : decode prog_14_method_23_code 18 = .ok (.ifCond .eq 60, 3) := by decide +kernel
theorem dM_deal_21 : decode prog_14_method_23_code 21 = .ok (.iload 5, 2) := by decide +kernel
theorem dM_deal_23 : decode prog_14_method_23_code 23 = .ok (.bipush 16, 2) := by decide +kernel
theorem dM_deal_25 : decode prog_14_method_23_code 25 = .ok (.if_icmp .lt 12, 3) := by decide +kernel
theorem dM_deal_28 : decode prog_14_method_23_code 28 = .ok (.iload_n 2, 1) := by decide +kernel
theorem dM_deal_29 : decode prog_14_method_23_code 29 = .ok (.iload 5, 2) := by decide +kernel
theorem dM_deal_31 : decode prog_14_method_23_code 31 = .ok (.bipush 16, 2) := by decide +kernel
theorem dM_deal_33 : decode prog_14_method_23_code 33 = .ok (.isub, 1) := by decide +kernel
theorem dM_deal_34 : decode prog_14_method_23_code 34 = .ok (.if_icmp .ge 44, 3) := by decide +kernel
theorem dM_deal_37 : decode prog_14_method_23_code 37 = .ok (.iload 4, 2) := by decide +kernel
theorem dM_deal_39 : decode prog_14_method_23_code 39 = .ok (.i2l, 1) := by decide +kernel
theorem dM_deal_40 : decode prog_14_method_23_code 40 = .ok (.lconst 0, 1) := by decide +kernel
theorem dM_deal_41 : decode prog_14_method_23_code 41 = .ok (.ldc2_w 300, 3) := by decide +kernel
theorem dM_deal_44 : decode prog_14_method_23_code 44 = .ok (.invokestatic 222, 3) := by decide +kernel
theorem dM_deal_47 : decode prog_14_method_23_code 47 = .ok (.ifCond .eq 31, 3) := by decide +kernel
theorem dM_deal_50 : decode prog_14_method_23_code 50 = .ok (.iload_n 3, 1) := by decide +kernel
theorem dM_deal_51 : decode prog_14_method_23_code 51 = .ok (.i2l, 1) := by decide +kernel
theorem dM_deal_52 : decode prog_14_method_23_code 52 = .ok (.ldc2_w 290, 3) := by decide +kernel
theorem dM_deal_55 : decode prog_14_method_23_code 55 = .ok (.ldc2_w 243, 3) := by decide +kernel
theorem dM_deal_58 : decode prog_14_method_23_code 58 = .ok (.invokestatic 222, 3) := by decide +kernel
theorem dM_deal_61 : decode prog_14_method_23_code 61 = .ok (.ifCond .eq 17, 3) := by decide +kernel
theorem dM_deal_64 : decode prog_14_method_23_code 64 = .ok (.iload_n 3, 1) := by decide +kernel
theorem dM_deal_65 : decode prog_14_method_23_code 65 = .ok (.ifCond .eq 13, 3) := by decide +kernel
theorem dM_deal_68 : decode prog_14_method_23_code 68 = .ok (.aload_n 0, 1) := by decide +kernel
theorem dM_deal_69 : decode prog_14_method_23_code 69 = .ok (.getfield 302, 3) := by decide +kernel
theorem dM_deal_72 : decode prog_14_method_23_code 72 = .ok (.sipush 200, 3) := by decide +kernel
theorem dM_deal_75 : decode prog_14_method_23_code 75 = .ok (.if_icmp .ne 5, 3) := by decide +kernel
theorem dM_deal_78 : decode prog_14_method_23_code 78 = .ok (.iconst (-1), 1) := by decide +kernel
theorem dM_deal_79 : decode prog_14_method_23_code 79 = .ok (.ireturn, 1) := by decide +kernel
theorem dM_deal_80 : decode prog_14_method_23_code 80 = .ok (.aload_n 0, 1) := by decide +kernel
theorem dM_deal_81 : decode prog_14_method_23_code 81 = .ok (.getfield 216, 3) := by decide +kernel
theorem dM_deal_84 : decode prog_14_method_23_code 84 = .ok (.istore 6, 2) := by decide +kernel
theorem dM_deal_86 : decode prog_14_method_23_code 86 = .ok (.aload_n 0, 1) := by decide +kernel
theorem dM_deal_87 : decode prog_14_method_23_code 87 = .ok (.aload_n 0, 1) := by decide +kernel
theorem dM_deal_88 : decode prog_14_method_23_code 88 = .ok (.getfield 216, 3) := by decide +kernel
theorem dM_deal_91 : decode prog_14_method_23_code 91 = .ok (.invokevirtual 229, 3) := by decide +kernel
theorem dM_deal_94 : decode prog_14_method_23_code 94 = .ok (.ifCond .eq 41, 3) := by decide +kernel
theorem dM_deal_97 : decode prog_14_method_23_code 97 = .ok (.iload 4, 2) := by decide +kernel
theorem dM_deal_99 : decode prog_14_method_23_code 99 = .ok (.iload 5, 2) := by decide +kernel
theorem dM_deal_101 : decode prog_14_method_23_code 101 = .ok (.bipush 16, 2) := by decide +kernel
theorem dM_deal_103 : decode prog_14_method_23_code 103 = .ok (.if_icmp .ge 13, 3) := by decide +kernel
theorem dM_deal_106 : decode prog_14_method_23_code 106 = .ok (.aload_n 0, 1) := by decide +kernel
theorem dM_deal_107 : decode prog_14_method_23_code 107 = .ok (.getfield 47, 3) := by decide +kernel
theorem dM_deal_110 : decode prog_14_method_23_code 110 = .ok (.iload 5, 2) := by decide +kernel
theorem dM_deal_112 : decode prog_14_method_23_code 112 = .ok (.iaload, 1) := by decide +kernel
theorem dM_deal_113 : decode prog_14_method_23_code 113 = .ok (.goto 4, 3) := by decide +kernel
theorem dM_deal_116 : decode prog_14_method_23_code 116 = .ok (.iconst 0, 1) := by decide +kernel
theorem dM_deal_117 : decode prog_14_method_23_code 117 = .ok (.isub, 1) := by decide +kernel
theorem dM_deal_118 : decode prog_14_method_23_code 118 = .ok (.aload_n 0, 1) := by decide +kernel
theorem dM_deal_119 : decode prog_14_method_23_code 119 = .ok (.iload_n 2, 1) := by decide +kernel
theorem dM_deal_120 : decode prog_14_method_23_code 120 = .ok (.aload_n 0, 1) := by decide +kernel
theorem dM_deal_121 : decode prog_14_method_23_code 121 = .ok (.getfield 216, 3) := by decide +kernel
theorem dM_deal_124 : decode prog_14_method_23_code 124 = .ok (.iconst 3, 1) := by decide +kernel
theorem dM_deal_125 : decode prog_14_method_23_code 125 = .ok (.invokevirtual 305, 3) := by decide +kernel
theorem dM_deal_128 : decode prog_14_method_23_code 128 = .ok (.if_icmp .ge 7, 3) := by decide +kernel
theorem dM_deal_131 : decode prog_14_method_23_code 131 = .ok (.iconst 1, 1) := by decide +kernel
theorem dM_deal_132 : decode prog_14_method_23_code 132 = .ok (.goto 4, 3) := by decide +kernel
theorem dM_deal_135 : decode prog_14_method_23_code 135 = .ok (.iconst 0, 1) := by decide +kernel
theorem dM_deal_136 : decode prog_14_method_23_code 136 = .ok (.istore 7, 2) := by decide +kernel
theorem dM_deal_138 : decode prog_14_method_23_code 138 = .ok (.iload 7, 2) := by decide +kernel
theorem dM_deal_140 : decode prog_14_method_23_code 140 = .ok (.ifCond .ne 29, 3) := by decide +kernel
theorem dM_deal_143 : decode prog_14_method_23_code 143 = .ok (.iinc 6 1, 3) := by decide +kernel
theorem dM_deal_146 : decode prog_14_method_23_code 146 = .ok (.iload 6, 2) := by decide +kernel
theorem dM_deal_148 : decode prog_14_method_23_code 148 = .ok (.sipush 260, 3) := by decide +kernel
theorem dM_deal_151 : decode prog_14_method_23_code 151 = .ok (.if_icmp .ge 18, 3) := by decide +kernel
theorem dM_deal_154 : decode prog_14_method_23_code 154 = .ok (.aload_n 0, 1) := by decide +kernel
theorem dM_deal_155 : decode prog_14_method_23_code 155 = .ok (.iload 6, 2) := by decide +kernel
theorem dM_deal_157 : decode prog_14_method_23_code 157 = .ok (.invokevirtual 229, 3) := by decide +kernel
theorem dM_deal_160 : decode prog_14_method_23_code 160 = .ok (.ifCond .ne 9, 3) := by decide +kernel
theorem dM_deal_163 : decode prog_14_method_23_code 163 = .ok (.iinc 6 1, 3) := by decide +kernel
theorem dM_deal_166 : decode prog_14_method_23_code 166 = .ok (.goto (-20), 3) := by decide +kernel
theorem dM_deal_169 : decode prog_14_method_23_code 169 = .ok (.iload 6, 2) := by decide +kernel
theorem dM_deal_171 : decode prog_14_method_23_code 171 = .ok (.sipush 260, 3) := by decide +kernel
theorem dM_deal_174 : decode prog_14_method_23_code 174 = .ok (.if_icmp .lt 5, 3) := by decide +kernel
theorem dM_deal_177 : decode prog_14_method_23_code 177 = .ok (.iconst (-1), 1) := by decide +kernel
theorem dM_deal_178 : decode prog_14_method_23_code 178 = .ok (.ireturn, 1) := by decide +kernel
theorem dM_deal_179 : decode prog_14_method_23_code 179 = .ok (.aload_n 0, 1) := by decide +kernel
theorem dM_deal_180 : decode prog_14_method_23_code 180 = .ok (.getfield 74, 3) := by decide +kernel
theorem dM_deal_183 : decode prog_14_method_23_code 183 = .ok (.aload_n 0, 1) := by decide +kernel
theorem dM_deal_184 : decode prog_14_method_23_code 184 = .ok (.getfield 302, 3) := by decide +kernel
theorem dM_deal_187 : decode prog_14_method_23_code 187 = .ok (.iload 5, 2) := by decide +kernel
theorem dM_deal_189 : decode prog_14_method_23_code 189 = .ok (.iastore, 1) := by decide +kernel
theorem dM_deal_190 : decode prog_14_method_23_code 190 = .ok (.aload_n 0, 1) := by decide +kernel
theorem dM_deal_191 : decode prog_14_method_23_code 191 = .ok (.getfield 77, 3) := by decide +kernel
theorem dM_deal_194 : decode prog_14_method_23_code 194 = .ok (.aload_n 0, 1) := by decide +kernel
theorem dM_deal_195 : decode prog_14_method_23_code 195 = .ok (.getfield 302, 3) := by decide +kernel
theorem dM_deal_198 : decode prog_14_method_23_code 198 = .ok (.iload_n 2, 1) := by decide +kernel
theorem dM_deal_199 : decode prog_14_method_23_code 199 = .ok (.iastore, 1) := by decide +kernel
theorem dM_deal_200 : decode prog_14_method_23_code 200 = .ok (.aload_n 0, 1) := by decide +kernel
theorem dM_deal_201 : decode prog_14_method_23_code 201 = .ok (.getfield 80, 3) := by decide +kernel
theorem dM_deal_204 : decode prog_14_method_23_code 204 = .ok (.aload_n 0, 1) := by decide +kernel
theorem dM_deal_205 : decode prog_14_method_23_code 205 = .ok (.getfield 302, 3) := by decide +kernel
theorem dM_deal_208 : decode prog_14_method_23_code 208 = .ok (.iload_n 3, 1) := by decide +kernel
theorem dM_deal_209 : decode prog_14_method_23_code 209 = .ok (.iastore, 1) := by decide +kernel
theorem dM_deal_210 : decode prog_14_method_23_code 210 = .ok (.aload_n 0, 1) := by decide +kernel
theorem dM_deal_211 : decode prog_14_method_23_code 211 = .ok (.getfield 83, 3) := by decide +kernel
theorem dM_deal_214 : decode prog_14_method_23_code 214 = .ok (.aload_n 0, 1) := by decide +kernel
theorem dM_deal_215 : decode prog_14_method_23_code 215 = .ok (.getfield 302, 3) := by decide +kernel
theorem dM_deal_218 : decode prog_14_method_23_code 218 = .ok (.iload 6, 2) := by decide +kernel
theorem dM_deal_220 : decode prog_14_method_23_code 220 = .ok (.iastore, 1) := by decide +kernel
theorem dM_deal_221 : decode prog_14_method_23_code 221 = .ok (.aload_n 0, 1) := by decide +kernel
theorem dM_deal_222 : decode prog_14_method_23_code 222 = .ok (.dup, 1) := by decide +kernel
theorem dM_deal_223 : decode prog_14_method_23_code 223 = .ok (.getfield 302, 3) := by decide +kernel
theorem dM_deal_226 : decode prog_14_method_23_code 226 = .ok (.iconst 1, 1) := by decide +kernel
theorem dM_deal_227 : decode prog_14_method_23_code 227 = .ok (.iadd, 1) := by decide +kernel
theorem dM_deal_228 : decode prog_14_method_23_code 228 = .ok (.putfield 302, 3) := by decide +kernel
theorem dM_deal_231 : decode prog_14_method_23_code 231 = .ok (.aload_n 0, 1) := by decide +kernel
theorem dM_deal_232 : decode prog_14_method_23_code 232 = .ok (.getfield 302, 3) := by decide +kernel
theorem dM_deal_235 : decode prog_14_method_23_code 235 = .ok (.iconst 1, 1) := by decide +kernel
theorem dM_deal_236 : decode prog_14_method_23_code 236 = .ok (.isub, 1) := by decide +kernel
theorem dM_deal_237 : decode prog_14_method_23_code 237 = .ok (.ireturn, 1) := by decide +kernel
theorem dM_deals_0 : decode prog_14_method_56_code 0 = .ok (.iconst 0, 1) := by decide +kernel
theorem dM_deals_1 : decode prog_14_method_56_code 1 = .ok (.istore 5, 2) := by decide +kernel
theorem dM_deals_3 : decode prog_14_method_56_code 3 = .ok (.iload 5, 2) := by decide +kernel
theorem dM_deals_5 : decode prog_14_method_56_code 5 = .ok (.aload_n 0, 1) := by decide +kernel
theorem dM_deals_6 : decode prog_14_method_56_code 6 = .ok (.getfield 302, 3) := by decide +kernel
theorem dM_deals_9 : decode prog_14_method_56_code 9 = .ok (.if_icmp .ge 210, 3) := by decide +kernel
theorem dM_deals_12 : decode prog_14_method_56_code 12 = .ok (.aload_n 0, 1) := by decide +kernel
theorem dM_deals_13 : decode prog_14_method_56_code 13 = .ok (.getfield 77, 3) := by decide +kernel
theorem dM_deals_16 : decode prog_14_method_56_code 16 = .ok (.iload 5, 2) := by decide +kernel
theorem dM_deals_18 : decode prog_14_method_56_code 18 = .ok (.iaload, 1) := by decide +kernel
theorem dM_deals_19 : decode prog_14_method_56_code 19 = .ok (.iload_n 1, 1) := by decide +kernel
theorem dM_deals_20 : decode prog_14_method_56_code 20 = .ok (.if_icmp .ne 193, 3) := by decide +kernel
theorem dM_deals_23 : decode prog_14_method_56_code 23 = .ok (.aload_n 0, 1) := by decide +kernel
theorem dM_deals_24 : decode prog_14_method_56_code 24 = .ok (.getfield 83, 3) := by decide +kernel
theorem dM_deals_27 : decode prog_14_method_56_code 27 = .ok (.iload 5, 2) := by decide +kernel
theorem dM_deals_29 : decode prog_14_method_56_code 29 = .ok (.iaload, 1) := by decide +kernel
theorem dM_deals_30 : decode prog_14_method_56_code 30 = .ok (.iload_n 2, 1) := by decide +kernel
theorem dM_deals_31 : decode prog_14_method_56_code 31 = .ok (.if_icmp .eq 6, 3) := by decide +kernel
theorem dM_deals_34 : decode prog_14_method_56_code 34 = .ok (.goto 179, 3) := by decide +kernel
theorem dM_deals_37 : decode prog_14_method_56_code 37 = .ok (.aload_n 0, 1) := by decide +kernel
theorem dM_deals_38 : decode prog_14_method_56_code 38 = .ok (.iload 5, 2) := by decide +kernel
theorem dM_deals_40 : decode prog_14_method_56_code 40 = .ok (.iload 4, 2) := by decide +kernel
theorem dM_deals_42 : decode prog_14_method_56_code 42 = .ok (.aload_n 0, 1) := by decide +kernel
theorem dM_deals_43 : decode prog_14_method_56_code 43 = .ok (.getfield 154, 3) := by decide +kernel
theorem dM_deals_46 : decode prog_14_method_56_code 46 = .ok (.iload_n 1, 1) := by decide +kernel
theorem dM_deals_47 : decode prog_14_method_56_code 47 = .ok (.aaload, 1) := by decide +kernel
theorem dM_deals_48 : decode prog_14_method_56_code 48 = .ok (.aload_n 0, 1) := by decide +kernel
theorem dM_deals_49 : decode prog_14_method_56_code 49 = .ok (.getfield 74, 3) := by decide +kernel
theorem dM_deals_52 : decode prog_14_method_56_code 52 = .ok (.iload 5, 2) := by decide +kernel
theorem dM_deals_54 : decode prog_14_method_56_code 54 = .ok (.iaload, 1) := by decide +kernel
theorem dM_deals_55 : decode prog_14_method_56_code 55 = .ok (.laload, 1) := by decide +kernel
theorem dM_deals_56 : decode prog_14_method_56_code 56 = .ok (.invokevirtual 429, 3) := by decide +kernel
theorem dM_deals_59 : decode prog_14_method_56_code 59 = .ok (.lstore 6, 2) := by decide +kernel
theorem dM_deals_61 : decode prog_14_method_56_code 61 = .ok (.iload_n 3, 1) := by decide +kernel
theorem dM_deals_62 : decode prog_14_method_56_code 62 = .ok (.ifCond .eq 20, 3) := by decide +kernel
theorem dM_deals_65 : decode prog_14_method_56_code 65 = .ok (.aload_n 0, 1) := by decide +kernel
theorem dM_deals_66 : decode prog_14_method_56_code 66 = .ok (.getfield 140, 3) := by decide +kernel
theorem dM_deals_69 : decode prog_14_method_56_code 69 = .ok (.iload 5, 2) := by decide +kernel
theorem dM_deals_71 : decode prog_14_method_56_code 71 = .ok (.aload_n 0, 1) := by decide +kernel
theorem dM_deals_72 : decode prog_14_method_56_code 72 = .ok (.getfield 92, 3) := by decide +kernel
theorem dM_deals_75 : decode prog_14_method_56_code 75 = .ok (.iload 5, 2) := by decide +kernel
theorem dM_deals_77 : decode prog_14_method_56_code 77 = .ok (.laload, 1) := by decide +kernel
theorem dM_deals_78 : decode prog_14_method_56_code 78 = .ok (.lastore, 1) := by decide +kernel
theorem dM_deals_79 : decode prog_14_method_56_code 79 = .ok (.goto 55, 3) := by decide +kernel
theorem dM_deals_82 : decode prog_14_method_56_code 82 = .ok (.aload_n 0, 1) := by decide +kernel
theorem dM_deals_83 : decode prog_14_method_56_code 83 = .ok (.getfield 140, 3) := by decide +kernel
theorem dM_deals_86 : decode prog_14_method_56_code 86 = .ok (.iload 5, 2) := by decide +kernel
theorem dM_deals_88 : decode prog_14_method_56_code 88 = .ok (.lload 6, 2) := by decide +kernel
theorem dM_deals_90 : decode prog_14_method_56_code 90 = .ok (.lconst 0, 1) := by decide +kernel
theorem dM_deals_91 : decode prog_14_method_56_code 91 = .ok (.lcmp, 1) := by decide +kernel
theorem dM_deals_92 : decode prog_14_method_56_code 92 = .ok (.ifCond .le 25, 3) := by decide +kernel
theorem dM_deals_95 : decode prog_14_method_56_code 95 = .ok (.lload 6, 2) := by decide +kernel
theorem dM_deals_97 : decode prog_14_method_56_code 97 = .ok (.aload_n 0, 1) := by decide +kernel
theorem dM_deals_98 : decode prog_14_method_56_code 98 = .ok (.getfield 148, 3) := by decide +kernel
theorem dM_deals_101 : decode prog_14_method_56_code 101 = .ok (.iload_n 1, 1) := by decide +kernel
theorem dM_deals_102 : decode prog_14_method_56_code 102 = .ok (.aaload, 1) := by decide +kernel
theorem dM_deals_103 : decode prog_14_method_56_code 103 = .ok (.iload_n 2, 1) := by decide +kernel
theorem dM_deals_104 : decode prog_14_method_56_code 104 = .ok (.laload, 1) := by decide +kernel
theorem dM_deals_105 : decode prog_14_method_56_code 105 = .ok (.lmul, 1) := by decide +kernel
theorem dM_deals_106 : decode prog_14_method_56_code 106 = .ok (.ldc2_w 447, 3) := by decide +kernel
theorem dM_deals_109 : decode prog_14_method_56_code 109 = .ok (.ladd, 1) := by decide +kernel
theorem dM_deals_110 : decode prog_14_method_56_code 110 = .ok (.ldc2_w 249, 3) := by decide +kernel
theorem dM_deals_113 : decode prog_14_method_56_code 113 = .ok (.ldiv, 1) := by decide +kernel
theorem dM_deals_114 : decode prog_14_method_56_code 114 = .ok (.goto 19, 3) := by decide +kernel
theorem dM_deals_117 : decode prog_14_method_56_code 117 = .ok (.lload 6, 2) := by decide +kernel
theorem dM_deals_119 : decode prog_14_method_56_code 119 = .ok (.lneg, 1) := by decide +kernel
theorem dM_deals_120 : decode prog_14_method_56_code 120 = .ok (.aload_n 0, 1) := by decide +kernel
theorem dM_deals_121 : decode prog_14_method_56_code 121 = .ok (.getfield 148, 3) := by decide +kernel
theorem dM_deals_124 : decode prog_14_method_56_code 124 = .ok (.iload_n 1, 1) := by decide +kernel
theorem dM_deals_125 : decode prog_14_method_56_code 125 = .ok (.aaload, 1) := by decide +kernel
theorem dM_deals_126 : decode prog_14_method_56_code 126 = .ok (.iload_n 2, 1) := by decide +kernel
theorem dM_deals_127 : decode prog_14_method_56_code 127 = .ok (.laload, 1) := by decide +kernel
theorem dM_deals_128 : decode prog_14_method_56_code 128 = .ok (.lmul, 1) := by decide +kernel
theorem dM_deals_129 : decode prog_14_method_56_code 129 = .ok (.ldc2_w 249, 3) := by decide +kernel
theorem dM_deals_132 : decode prog_14_method_56_code 132 = .ok (.ldiv, 1) := by decide +kernel
theorem dM_deals_133 : decode prog_14_method_56_code 133 = .ok (.lastore, 1) := by decide +kernel
theorem dM_deals_134 : decode prog_14_method_56_code 134 = .ok (.aload_n 0, 1) := by decide +kernel
theorem dM_deals_135 : decode prog_14_method_56_code 135 = .ok (.getfield 137, 3) := by decide +kernel
theorem dM_deals_138 : decode prog_14_method_56_code 138 = .ok (.iload_n 1, 1) := by decide +kernel
theorem dM_deals_139 : decode prog_14_method_56_code 139 = .ok (.dup2, 1) := by decide +kernel
theorem dM_deals_140 : decode prog_14_method_56_code 140 = .ok (.laload, 1) := by decide +kernel
theorem dM_deals_141 : decode prog_14_method_56_code 141 = .ok (.lload 6, 2) := by decide +kernel
theorem dM_deals_143 : decode prog_14_method_56_code 143 = .ok (.lconst 0, 1) := by decide +kernel
theorem dM_deals_144 : decode prog_14_method_56_code 144 = .ok (.lcmp, 1) := by decide +kernel
theorem dM_deals_145 : decode prog_14_method_56_code 145 = .ok (.ifCond .le 13, 3) := by decide +kernel
theorem dM_deals_148 : decode prog_14_method_56_code 148 = .ok (.aload_n 0, 1) := by decide +kernel
theorem dM_deals_149 : decode prog_14_method_56_code 149 = .ok (.getfield 140, 3) := by decide +kernel
theorem dM_deals_152 : decode prog_14_method_56_code 152 = .ok (.iload 5, 2) := by decide +kernel
theorem dM_deals_154 : decode prog_14_method_56_code 154 = .ok (.laload, 1) := by decide +kernel
theorem dM_deals_155 : decode prog_14_method_56_code 155 = .ok (.goto 11, 3) := by decide +kernel
theorem dM_deals_158 : decode prog_14_method_56_code 158 = .ok (.aload_n 0, 1) := by decide +kernel
theorem dM_deals_159 : decode prog_14_method_56_code 159 = .ok (.getfield 140, 3) := by decide +kernel
theorem dM_deals_162 : decode prog_14_method_56_code 162 = .ok (.iload 5, 2) := by decide +kernel
theorem dM_deals_164 : decode prog_14_method_56_code 164 = .ok (.laload, 1) := by decide +kernel
theorem dM_deals_165 : decode prog_14_method_56_code 165 = .ok (.lneg, 1) := by decide +kernel
theorem dM_deals_166 : decode prog_14_method_56_code 166 = .ok (.ladd, 1) := by decide +kernel
theorem dM_deals_167 : decode prog_14_method_56_code 167 = .ok (.lastore, 1) := by decide +kernel
theorem dM_deals_168 : decode prog_14_method_56_code 168 = .ok (.aload_n 0, 1) := by decide +kernel
theorem dM_deals_169 : decode prog_14_method_56_code 169 = .ok (.getfield 154, 3) := by decide +kernel
theorem dM_deals_172 : decode prog_14_method_56_code 172 = .ok (.iload_n 1, 1) := by decide +kernel
theorem dM_deals_173 : decode prog_14_method_56_code 173 = .ok (.aaload, 1) := by decide +kernel
theorem dM_deals_174 : decode prog_14_method_56_code 174 = .ok (.aload_n 0, 1) := by decide +kernel
theorem dM_deals_175 : decode prog_14_method_56_code 175 = .ok (.getfield 74, 3) := by decide +kernel
theorem dM_deals_178 : decode prog_14_method_56_code 178 = .ok (.iload 5, 2) := by decide +kernel
theorem dM_deals_180 : decode prog_14_method_56_code 180 = .ok (.iaload, 1) := by decide +kernel
theorem dM_deals_181 : decode prog_14_method_56_code 181 = .ok (.dup2, 1) := by decide +kernel
theorem dM_deals_182 : decode prog_14_method_56_code 182 = .ok (.laload, 1) := by decide +kernel
theorem dM_deals_183 : decode prog_14_method_56_code 183 = .ok (.lload 6, 2) := by decide +kernel
theorem dM_deals_185 : decode prog_14_method_56_code 185 = .ok (.ladd, 1) := by decide +kernel
theorem dM_deals_186 : decode prog_14_method_56_code 186 = .ok (.lastore, 1) := by decide +kernel
theorem dM_deals_187 : decode prog_14_method_56_code 187 = .ok (.aload_n 0, 1) := by decide +kernel
theorem dM_deals_188 : decode prog_14_method_56_code 188 = .ok (.getfield 157, 3) := by decide +kernel
theorem dM_deals_191 : decode prog_14_method_56_code 191 = .ok (.iload_n 1, 1) := by decide +kernel
theorem dM_deals_192 : decode prog_14_method_56_code 192 = .ok (.dup2, 1) := by decide +kernel
theorem dM_deals_193 : decode prog_14_method_56_code 193 = .ok (.laload, 1) := by decide +kernel
theorem dM_deals_194 : decode prog_14_method_56_code 194 = .ok (.lload 6, 2) := by decide +kernel
theorem dM_deals_196 : decode prog_14_method_56_code 196 = .ok (.ladd, 1) := by decide +kernel
theorem dM_deals_197 : decode prog_14_method_56_code 197 = .ok (.lastore, 1) := by decide +kernel
theorem dM_deals_198 : decode prog_14_method_56_code 198 = .ok (.iload 4, 2) := by decide +kernel
theorem dM_deals_200 : decode prog_14_method_56_code 200 = .ok (.ifCond .eq 13, 3) := by decide +kernel
theorem dM_deals_203 : decode prog_14_method_56_code 203 = .ok (.aload_n 0, 1) := by decide +kernel
theorem dM_deals_204 : decode prog_14_method_56_code 204 = .ok (.getfield 86, 3) := by decide +kernel
theorem dM_deals_207 : decode prog_14_method_56_code 207 = .ok (.iload 5, 2) := by decide +kernel
theorem dM_deals_209 : decode prog_14_method_56_code 209 = .ok (.lload 6, 2) := by decide +kernel
theorem dM_deals_211 : decode prog_14_method_56_code 211 = .ok (.l2i, 1) := by decide +kernel
theorem dM_deals_212 : decode prog_14_method_56_code 212 = .ok (.iastore, 1) := by decide +kernel
theorem dM_deals_213 : decode prog_14_method_56_code 213 = .ok (.iinc 5 1, 3) := by decide +kernel
theorem dM_deals_216 : decode prog_14_method_56_code 216 = .ok (.goto (-213), 3) := by decide +kernel
theorem dM_deals_219 : decode prog_14_method_56_code 219 = .ok (.return_, 1) := by decide +kernel
theorem dM_dealt_0 : decode prog_14_method_83_code 0 = .ok (.iload_n 1, 1) := by decide +kernel
theorem dM_dealt_1 : decode prog_14_method_83_code 1 = .ok (.i2l, 1) := by decide +kernel
theorem dM_dealt_2 : decode prog_14_method_83_code 2 = .ok (.lconst 0, 1) := by decide +kernel
theorem dM_dealt_3 : decode prog_14_method_83_code 3 = .ok (.aload_n 0, 1) := by decide +kernel
theorem dM_dealt_4 : decode prog_14_method_83_code 4 = .ok (.getfield 302, 3) := by decide +kernel
theorem dM_dealt_7 : decode prog_14_method_83_code 7 = .ok (.iconst 1, 1) := by decide +kernel
theorem dM_dealt_8 : decode prog_14_method_83_code 8 = .ok (.isub, 1) := by decide +kernel
theorem dM_dealt_9 : decode prog_14_method_83_code 9 = .ok (.i2l, 1) := by decide +kernel
theorem dM_dealt_10 : decode prog_14_method_83_code 10 = .ok (.invokestatic 222, 3) := by decide +kernel
theorem dM_dealt_13 : decode prog_14_method_83_code 13 = .ok (.ifCond .ne 7, 3) := by decide +kernel
theorem dM_dealt_16 : decode prog_14_method_83_code 16 = .ok (.ldc_w 266, 3) := by decide +kernel
theorem dM_dealt_19 : decode prog_14_method_83_code 19 = .ok (.ireturn, 1) := by decide +kernel
theorem dM_dealt_20 : decode prog_14_method_83_code 20 = .ok (.iload_n 2, 1) := by decide +kernel
theorem dM_dealt_21 : decode prog_14_method_83_code 21 = .ok (.tableswitch 192 0 7 #[47, 80, 87, 94, 101, 111, 166, 111], 47) := by decide +kernel
theorem dM_dealt_68 : decode prog_14_method_83_code 68 = .ok (.aload_n 0, 1) := by decide +kernel
theorem dM_dealt_69 : decode prog_14_method_83_code 69 = .ok (.getfield 74, 3) := by decide +kernel
theorem dM_dealt_72 : decode prog_14_method_83_code 72 = .ok (.iload_n 1, 1) := by decide +kernel
theorem dM_dealt_73 : decode prog_14_method_83_code 73 = .ok (.iaload, 1) := by decide +kernel
theorem dM_dealt_74 : decode prog_14_method_83_code 74 = .ok (.bipush 16, 2) := by decide +kernel
theorem dM_dealt_76 : decode prog_14_method_83_code 76 = .ok (.if_icmp .ge 12, 3) := by decide +kernel
theorem dM_dealt_79 : decode prog_14_method_83_code 79 = .ok (.aload_n 0, 1) := by decide +kernel
theorem dM_dealt_80 : decode prog_14_method_83_code 80 = .ok (.getfield 74, 3) := by decide +kernel
theorem dM_dealt_83 : decode prog_14_method_83_code 83 = .ok (.iload_n 1, 1) := by decide +kernel
theorem dM_dealt_84 : decode prog_14_method_83_code 84 = .ok (.iaload, 1) := by decide +kernel
theorem dM_dealt_85 : decode prog_14_method_83_code 85 = .ok (.goto 15, 3) := by decide +kernel
theorem dM_dealt_88 : decode prog_14_method_83_code 88 = .ok (.aload_n 0, 1) := by decide +kernel
theorem dM_dealt_89 : decode prog_14_method_83_code 89 = .ok (.getfield 74, 3) := by decide +kernel
theorem dM_dealt_92 : decode prog_14_method_83_code 92 = .ok (.iload_n 1, 1) := by decide +kernel
theorem dM_dealt_93 : decode prog_14_method_83_code 93 = .ok (.iaload, 1) := by decide +kernel
theorem dM_dealt_94 : decode prog_14_method_83_code 94 = .ok (.bipush 16, 2) := by decide +kernel
theorem dM_dealt_96 : decode prog_14_method_83_code 96 = .ok (.isub, 1) := by decide +kernel
theorem dM_dealt_97 : decode prog_14_method_83_code 97 = .ok (.bipush 20, 2) := by decide +kernel
theorem dM_dealt_99 : decode prog_14_method_83_code 99 = .ok (.iadd, 1) := by decide +kernel
theorem dM_dealt_100 : decode prog_14_method_83_code 100 = .ok (.ireturn, 1) := by decide +kernel
theorem dM_dealt_101 : decode prog_14_method_83_code 101 = .ok (.aload_n 0, 1) := by decide +kernel
theorem dM_dealt_102 : decode prog_14_method_83_code 102 = .ok (.getfield 77, 3) := by decide +kernel
theorem dM_dealt_105 : decode prog_14_method_83_code 105 = .ok (.iload_n 1, 1) := by decide +kernel
theorem dM_dealt_106 : decode prog_14_method_83_code 106 = .ok (.iaload, 1) := by decide +kernel
theorem dM_dealt_107 : decode prog_14_method_83_code 107 = .ok (.ireturn, 1) := by decide +kernel
theorem dM_dealt_108 : decode prog_14_method_83_code 108 = .ok (.aload_n 0, 1) := by decide +kernel
theorem dM_dealt_109 : decode prog_14_method_83_code 109 = .ok (.getfield 83, 3) := by decide +kernel
theorem dM_dealt_112 : decode prog_14_method_83_code 112 = .ok (.iload_n 1, 1) := by decide +kernel
theorem dM_dealt_113 : decode prog_14_method_83_code 113 = .ok (.iaload, 1) := by decide +kernel
theorem dM_dealt_114 : decode prog_14_method_83_code 114 = .ok (.ireturn, 1) := by decide +kernel
theorem dM_dealt_115 : decode prog_14_method_83_code 115 = .ok (.aload_n 0, 1) := by decide +kernel
theorem dM_dealt_116 : decode prog_14_method_83_code 116 = .ok (.getfield 86, 3) := by decide +kernel
theorem dM_dealt_119 : decode prog_14_method_83_code 119 = .ok (.iload_n 1, 1) := by decide +kernel
theorem dM_dealt_120 : decode prog_14_method_83_code 120 = .ok (.iaload, 1) := by decide +kernel
theorem dM_dealt_121 : decode prog_14_method_83_code 121 = .ok (.ireturn, 1) := by decide +kernel
theorem dM_dealt_122 : decode prog_14_method_83_code 122 = .ok (.aload_n 0, 1) := by decide +kernel
theorem dM_dealt_123 : decode prog_14_method_83_code 123 = .ok (.getfield 92, 3) := by decide +kernel
theorem dM_dealt_126 : decode prog_14_method_83_code 126 = .ok (.iload_n 1, 1) := by decide +kernel
theorem dM_dealt_127 : decode prog_14_method_83_code 127 = .ok (.laload, 1) := by decide +kernel
theorem dM_dealt_128 : decode prog_14_method_83_code 128 = .ok (.invokestatic 482, 3) := by decide +kernel
theorem dM_dealt_131 : decode prog_14_method_83_code 131 = .ok (.ireturn, 1) := by decide +kernel
theorem dM_dealt_132 : decode prog_14_method_83_code 132 = .ok (.aload_n 0, 1) := by decide +kernel
theorem dM_dealt_133 : decode prog_14_method_83_code 133 = .ok (.getfield 89, 3) := by decide +kernel
theorem dM_dealt_136 : decode prog_14_method_83_code 136 = .ok (.iload_n 1, 1) := by decide +kernel
theorem dM_dealt_137 : decode prog_14_method_83_code 137 = .ok (.baload, 1) := by decide +kernel
theorem dM_dealt_138 : decode prog_14_method_83_code 138 = .ok (.ifCond .ne 5, 3) := by decide +kernel
theorem dM_dealt_141 : decode prog_14_method_83_code 141 = .ok (.iconst 0, 1) := by decide +kernel
theorem dM_dealt_142 : decode prog_14_method_83_code 142 = .ok (.ireturn, 1) := by decide +kernel
theorem dM_dealt_143 : decode prog_14_method_83_code 143 = .ok (.aload_n 0, 1) := by decide +kernel
theorem dM_dealt_144 : decode prog_14_method_83_code 144 = .ok (.aload_n 0, 1) := by decide +kernel
theorem dM_dealt_145 : decode prog_14_method_83_code 145 = .ok (.aload_n 0, 1) := by decide +kernel
theorem dM_dealt_146 : decode prog_14_method_83_code 146 = .ok (.invokevirtual 254, 3) := by decide +kernel
theorem dM_dealt_149 : decode prog_14_method_83_code 149 = .ok (.invokevirtual 486, 3) := by decide +kernel
theorem dM_dealt_152 : decode prog_14_method_83_code 152 = .ok (.aload_n 0, 1) := by decide +kernel
theorem dM_dealt_153 : decode prog_14_method_83_code 153 = .ok (.invokevirtual 254, 3) := by decide +kernel
theorem dM_dealt_156 : decode prog_14_method_83_code 156 = .ok (.iconst 0, 1) := by decide +kernel
theorem dM_dealt_157 : decode prog_14_method_83_code 157 = .ok (.invokevirtual 471, 3) := by decide +kernel
theorem dM_dealt_160 : decode prog_14_method_83_code 160 = .ok (.iload_n 2, 1) := by decide +kernel
theorem dM_dealt_161 : decode prog_14_method_83_code 161 = .ok (.iconst 5, 1) := by decide +kernel
theorem dM_dealt_162 : decode prog_14_method_83_code 162 = .ok (.if_icmp .ne 12, 3) := by decide +kernel
theorem dM_dealt_165 : decode prog_14_method_83_code 165 = .ok (.aload_n 0, 1) := by decide +kernel
theorem dM_dealt_166 : decode prog_14_method_83_code 166 = .ok (.getfield 140, 3) := by decide +kernel
theorem dM_dealt_169 : decode prog_14_method_83_code 169 = .ok (.iload_n 1, 1) := by decide +kernel
theorem dM_dealt_170 : decode prog_14_method_83_code 170 = .ok (.laload, 1) := by decide +kernel
theorem dM_dealt_171 : decode prog_14_method_83_code 171 = .ok (.goto 12, 3) := by decide +kernel
theorem dM_dealt_174 : decode prog_14_method_83_code 174 = .ok (.aload_n 0, 1) := by decide +kernel
theorem dM_dealt_175 : decode prog_14_method_83_code 175 = .ok (.iload_n 1, 1) := by decide +kernel
theorem dM_dealt_176 : decode prog_14_method_83_code 176 = .ok (.aload_n 0, 1) := by decide +kernel
theorem dM_dealt_177 : decode prog_14_method_83_code 177 = .ok (.getfield 140, 3) := by decide +kernel
theorem dM_dealt_180 : decode prog_14_method_83_code 180 = .ok (.invokevirtual 519, 3) := by decide +kernel
theorem dM_dealt_183 : decode prog_14_method_83_code 183 = .ok (.invokestatic 482, 3) := by decide +kernel
theorem dM_dealt_186 : decode prog_14_method_83_code 186 = .ok (.ireturn, 1) := by decide +kernel
theorem dM_dealt_187 : decode prog_14_method_83_code 187 = .ok (.aload_n 0, 1) := by decide +kernel
theorem dM_dealt_188 : decode prog_14_method_83_code 188 = .ok (.getfield 89, 3) := by decide +kernel
theorem dM_dealt_191 : decode prog_14_method_83_code 191 = .ok (.iload_n 1, 1) := by decide +kernel
theorem dM_dealt_192 : decode prog_14_method_83_code 192 = .ok (.baload, 1) := by decide +kernel
theorem dM_dealt_193 : decode prog_14_method_83_code 193 = .ok (.ifCond .eq 18, 3) := by decide +kernel
theorem dM_dealt_196 : decode prog_14_method_83_code 196 = .ok (.aload_n 0, 1) := by decide +kernel
theorem dM_dealt_197 : decode prog_14_method_83_code 197 = .ok (.iload_n 1, 1) := by decide +kernel
theorem dM_dealt_198 : decode prog_14_method_83_code 198 = .ok (.aload_n 0, 1) := by decide +kernel
theorem dM_dealt_199 : decode prog_14_method_83_code 199 = .ok (.getfield 92, 3) := by decide +kernel
theorem dM_dealt_202 : decode prog_14_method_83_code 202 = .ok (.invokevirtual 519, 3) := by decide +kernel
theorem dM_dealt_205 : decode prog_14_method_83_code 205 = .ok (.invokestatic 482, 3) := by decide +kernel
theorem dM_dealt_208 : decode prog_14_method_83_code 208 = .ok (.goto 4, 3) := by decide +kernel
theorem dM_dealt_211 : decode prog_14_method_83_code 211 = .ok (.iconst 0, 1) := by decide +kernel
theorem dM_dealt_212 : decode prog_14_method_83_code 212 = .ok (.ireturn, 1) := by decide +kernel
theorem dM_dealt_213 : decode prog_14_method_83_code 213 = .ok (.ldc_w 266, 3) := by decide +kernel
theorem dM_dealt_216 : decode prog_14_method_83_code 216 = .ok (.ireturn, 1) := by decide +kernel
theorem dM_dealtOf_0 : decode prog_14_method_52_code 0 = .ok (.iload_n 2, 1) := by decide +kernel
theorem dM_dealtOf_1 : decode prog_14_method_52_code 1 = .ok (.ifCond .ne 11, 3) := by decide +kernel
theorem dM_dealtOf_4 : decode prog_14_method_52_code 4 = .ok (.aload_n 0, 1) := by decide +kernel
theorem dM_dealtOf_5 : decode prog_14_method_52_code 5 = .ok (.getfield 86, 3) := by decide +kernel
theorem dM_dealtOf_8 : decode prog_14_method_52_code 8 = .ok (.iload_n 1, 1) := by decide +kernel
theorem dM_dealtOf_9 : decode prog_14_method_52_code 9 = .ok (.iaload, 1) := by decide +kernel
theorem dM_dealtOf_10 : decode prog_14_method_52_code 10 = .ok (.i2l, 1) := by decide +kernel
theorem dM_dealtOf_11 : decode prog_14_method_52_code 11 = .ok (.lreturn, 1) := by decide +kernel
theorem dM_dealtOf_12 : decode prog_14_method_52_code 12 = .ok (.aload_n 0, 1) := by decide +kernel
theorem dM_dealtOf_13 : decode prog_14_method_52_code 13 = .ok (.getfield 80, 3) := by decide +kernel
theorem dM_dealtOf_16 : decode prog_14_method_52_code 16 = .ok (.iload_n 1, 1) := by decide +kernel
theorem dM_dealtOf_17 : decode prog_14_method_52_code 17 = .ok (.iaload, 1) := by decide +kernel
theorem dM_dealtOf_18 : decode prog_14_method_52_code 18 = .ok (.ifCond .le 13, 3) := by decide +kernel
theorem dM_dealtOf_21 : decode prog_14_method_52_code 21 = .ok (.aload_n 0, 1) := by decide +kernel
theorem dM_dealtOf_22 : decode prog_14_method_52_code 22 = .ok (.getfield 80, 3) := by decide +kernel
theorem dM_dealtOf_25 : decode prog_14_method_52_code 25 = .ok (.iload_n 1, 1) := by decide +kernel
theorem dM_dealtOf_26 : decode prog_14_method_52_code 26 = .ok (.iaload, 1) := by decide +kernel
theorem dM_dealtOf_27 : decode prog_14_method_52_code 27 = .ok (.i2l, 1) := by decide +kernel
theorem dM_dealtOf_28 : decode prog_14_method_52_code 28 = .ok (.goto 17, 3) := by decide +kernel
theorem dM_dealtOf_31 : decode prog_14_method_52_code 31 = .ok (.aload_n 0, 1) := by decide +kernel
theorem dM_dealtOf_32 : decode prog_14_method_52_code 32 = .ok (.getfield 80, 3) := by decide +kernel
theorem dM_dealtOf_35 : decode prog_14_method_52_code 35 = .ok (.iload_n 1, 1) := by decide +kernel
theorem dM_dealtOf_36 : decode prog_14_method_52_code 36 = .ok (.iaload, 1) := by decide +kernel
theorem dM_dealtOf_37 : decode prog_14_method_52_code 37 = .ok (.ineg, 1) := by decide +kernel
theorem dM_dealtOf_38 : decode prog_14_method_52_code 38 = .ok (.i2l, 1) := by decide +kernel
theorem dM_dealtOf_39 : decode prog_14_method_52_code 39 = .ok (.lconst 0, 1) := by decide +kernel
theorem dM_dealtOf_40 : decode prog_14_method_52_code 40 = .ok (.lload_n 3, 1) := by decide +kernel
theorem dM_dealtOf_41 : decode prog_14_method_52_code 41 = .ok (.invokestatic 212, 3) := by decide +kernel
theorem dM_dealtOf_44 : decode prog_14_method_52_code 44 = .ok (.lneg, 1) := by decide +kernel
theorem dM_dealtOf_45 : decode prog_14_method_52_code 45 = .ok (.lreturn, 1) := by decide +kernel
theorem dM_due_0 : decode prog_14_method_86_code 0 = .ok (.aload_n 0, 1) := by decide +kernel
theorem dM_due_1 : decode prog_14_method_86_code 1 = .ok (.iload_n 1, 1) := by decide +kernel
theorem dM_due_2 : decode prog_14_method_86_code 2 = .ok (.invokevirtual 287, 3) := by decide +kernel
theorem dM_due_5 : decode prog_14_method_86_code 5 = .ok (.ifCond .eq 13, 3) := by decide +kernel
theorem dM_due_8 : decode prog_14_method_86_code 8 = .ok (.aload_n 0, 1) := by decide +kernel
theorem dM_due_9 : decode prog_14_method_86_code 9 = .ok (.getfield 53, 3) := by decide +kernel
theorem dM_due_12 : decode prog_14_method_86_code 12 = .ok (.iload_n 1, 1) := by decide +kernel
theorem dM_due_13 : decode prog_14_method_86_code 13 = .ok (.iaload, 1) := by decide +kernel
theorem dM_due_14 : decode prog_14_method_86_code 14 = .ok (.iconst (-1), 1) := by decide +kernel
theorem dM_due_15 : decode prog_14_method_86_code 15 = .ok (.if_icmp .ne 5, 3) := by decide +kernel
theorem dM_due_18 : decode prog_14_method_86_code 18 = .ok (.iconst (-1), 1) := by decide +kernel
theorem dM_due_19 : decode prog_14_method_86_code 19 = .ok (.ireturn, 1) := by decide +kernel
theorem dM_due_20 : decode prog_14_method_86_code 20 = .ok (.aload_n 0, 1) := by decide +kernel
theorem dM_due_21 : decode prog_14_method_86_code 21 = .ok (.iload_n 1, 1) := by decide +kernel
theorem dM_due_22 : decode prog_14_method_86_code 22 = .ok (.aload_n 0, 1) := by decide +kernel
theorem dM_due_23 : decode prog_14_method_86_code 23 = .ok (.getfield 53, 3) := by decide +kernel
theorem dM_due_26 : decode prog_14_method_86_code 26 = .ok (.iload_n 1, 1) := by decide +kernel
theorem dM_due_27 : decode prog_14_method_86_code 27 = .ok (.iaload, 1) := by decide +kernel
theorem dM_due_28 : decode prog_14_method_86_code 28 = .ok (.bipush 11, 2) := by decide +kernel
theorem dM_due_30 : decode prog_14_method_86_code 30 = .ok (.invokevirtual 305, 3) := by decide +kernel
theorem dM_due_33 : decode prog_14_method_86_code 33 = .ok (.istore_n 2, 1) := by decide +kernel
theorem dM_due_34 : decode prog_14_method_86_code 34 = .ok (.aload_n 0, 1) := by decide +kernel
theorem dM_due_35 : decode prog_14_method_86_code 35 = .ok (.getfield 53, 3) := by decide +kernel
theorem dM_due_38 : decode prog_14_method_86_code 38 = .ok (.iload_n 1, 1) := by decide +kernel
theorem dM_due_39 : decode prog_14_method_86_code 39 = .ok (.iaload, 1) := by decide +kernel
theorem dM_due_40 : decode prog_14_method_86_code 40 = .ok (.istore_n 3, 1) := by decide +kernel
theorem dM_due_41 : decode prog_14_method_86_code 41 = .ok (.iload_n 2, 1) := by decide +kernel
theorem dM_due_42 : decode prog_14_method_86_code 42 = .ok (.ifCond .le 27, 3) := by decide +kernel
theorem dM_due_45 : decode prog_14_method_86_code 45 = .ok (.iload_n 3, 1) := by decide +kernel
theorem dM_due_46 : decode prog_14_method_86_code 46 = .ok (.sipush 260, 3) := by decide +kernel
theorem dM_due_49 : decode prog_14_method_86_code 49 = .ok (.if_icmp .ge 20, 3) := by decide +kernel
theorem dM_due_52 : decode prog_14_method_86_code 52 = .ok (.iinc 3 1, 3) := by decide +kernel
theorem dM_due_55 : decode prog_14_method_86_code 55 = .ok (.aload_n 0, 1) := by decide +kernel
theorem dM_due_56 : decode prog_14_method_86_code 56 = .ok (.iload_n 3, 1) := by decide +kernel
theorem dM_due_57 : decode prog_14_method_86_code 57 = .ok (.invokevirtual 229, 3) := by decide +kernel
theorem dM_due_60 : decode prog_14_method_86_code 60 = .ok (.ifCond .eq (-19), 3) := by decide +kernel
theorem dM_due_63 : decode prog_14_method_86_code 63 = .ok (.iinc 2 (-1), 3) := by decide +kernel
theorem dM_due_66 : decode prog_14_method_86_code 66 = .ok (.goto (-25), 3) := by decide +kernel
theorem dM_due_69 : decode prog_14_method_86_code 69 = .ok (.iload_n 3, 1) := by decide +kernel
theorem dM_due_70 : decode prog_14_method_86_code 70 = .ok (.sipush 260, 3) := by decide +kernel
theorem dM_due_73 : decode prog_14_method_86_code 73 = .ok (.if_icmp .ge 7, 3) := by decide +kernel
theorem dM_due_76 : decode prog_14_method_86_code 76 = .ok (.iload_n 3, 1) := by decide +kernel
theorem dM_due_77 : decode prog_14_method_86_code 77 = .ok (.goto 4, 3) := by decide +kernel
theorem dM_due_80 : decode prog_14_method_86_code 80 = .ok (.iconst (-1), 1) := by decide +kernel
theorem dM_due_81 : decode prog_14_method_86_code 81 = .ok (.ireturn, 1) := by decide +kernel
theorem dM_end_0 : decode prog_14_method_26_code 0 = .ok (.iload_n 1, 1) := by decide +kernel
theorem dM_end_1 : decode prog_14_method_26_code 1 = .ok (.i2l, 1) := by decide +kernel
theorem dM_end_2 : decode prog_14_method_26_code 2 = .ok (.lconst 0, 1) := by decide +kernel
theorem dM_end_3 : decode prog_14_method_26_code 3 = .ok (.aload_n 0, 1) := by decide +kernel
theorem dM_end_4 : decode prog_14_method_26_code 4 = .ok (.getfield 309, 3) := by decide +kernel
theorem dM_end_7 : decode prog_14_method_26_code 7 = .ok (.i2l, 1) := by decide +kernel
theorem dM_end_8 : decode prog_14_method_26_code 8 = .ok (.invokestatic 222, 3) := by decide +kernel
theorem dM_end_11 : decode prog_14_method_26_code 11 = .ok (.ifCond .ne 5, 3) := by decide +kernel
theorem dM_end_14 : decode prog_14_method_26_code 14 = .ok (.iconst 0, 1) := by decide +kernel
theorem dM_end_15 : decode prog_14_method_26_code 15 = .ok (.ireturn, 1) := by decide +kernel
theorem dM_end_16 : decode prog_14_method_26_code 16 = .ok (.aload_n 0, 1) := by decide +kernel
theorem dM_end_17 : decode prog_14_method_26_code 17 = .ok (.iload_n 1, 1) := by decide +kernel
theorem dM_end_18 : decode prog_14_method_26_code 18 = .ok (.putfield 309, 3) := by decide +kernel
theorem dM_end_21 : decode prog_14_method_26_code 21 = .ok (.iconst 1, 1) := by decide +kernel
theorem dM_end_22 : decode prog_14_method_26_code 22 = .ok (.ireturn, 1) := by decide +kernel
theorem dM_error_0 : decode prog_14_method_65_code 0 = .ok (.aload_n 0, 1) := by decide +kernel
theorem dM_error_1 : decode prog_14_method_65_code 1 = .ok (.iload_n 1, 1) := by decide +kernel
theorem dM_error_2 : decode prog_14_method_65_code 2 = .ok (.iload_n 2, 1) := by decide +kernel
theorem dM_error_3 : decode prog_14_method_65_code 3 = .ok (.invokevirtual 479, 3) := by decide +kernel
theorem dM_error_6 : decode prog_14_method_65_code 6 = .ok (.ifCond .eq 18, 3) := by decide +kernel
theorem dM_error_9 : decode prog_14_method_65_code 9 = .ok (.iload_n 3, 1) := by decide +kernel
theorem dM_error_10 : decode prog_14_method_65_code 10 = .ok (.i2l, 1) := by decide +kernel
theorem dM_error_11 : decode prog_14_method_65_code 11 = .ok (.iload_n 2, 1) := by decide +kernel
theorem dM_error_12 : decode prog_14_method_65_code 12 = .ok (.i2l, 1) := by decide +kernel
theorem dM_error_13 : decode prog_14_method_65_code 13 = .ok (.aload_n 0, 1) := by decide +kernel
theorem dM_error_14 : decode prog_14_method_65_code 14 = .ok (.invokevirtual 254, 3) := by decide +kernel
theorem dM_error_17 : decode prog_14_method_65_code 17 = .ok (.i2l, 1) := by decide +kernel
theorem dM_error_18 : decode prog_14_method_65_code 18 = .ok (.invokestatic 222, 3) := by decide +kernel
theorem dM_error_21 : decode prog_14_method_65_code 21 = .ok (.ifCond .ne 7, 3) := by decide +kernel
theorem dM_error_24 : decode prog_14_method_65_code 24 = .ok (.ldc_w 266, 3) := by decide +kernel
theorem dM_error_27 : decode prog_14_method_65_code 27 = .ok (.ireturn, 1) := by decide +kernel
theorem dM_error_28 : decode prog_14_method_65_code 28 = .ok (.aload_n 0, 1) := by decide +kernel
theorem dM_error_29 : decode prog_14_method_65_code 29 = .ok (.iload_n 2, 1) := by decide +kernel
theorem dM_error_30 : decode prog_14_method_65_code 30 = .ok (.iload_n 3, 1) := by decide +kernel
theorem dM_error_31 : decode prog_14_method_65_code 31 = .ok (.iconst 0, 1) := by decide +kernel
theorem dM_error_32 : decode prog_14_method_65_code 32 = .ok (.invokevirtual 471, 3) := by decide +kernel
theorem dM_error_35 : decode prog_14_method_65_code 35 = .ok (.aload_n 0, 1) := by decide +kernel
theorem dM_error_36 : decode prog_14_method_65_code 36 = .ok (.getfield 160, 3) := by decide +kernel
theorem dM_error_39 : decode prog_14_method_65_code 39 = .ok (.iload_n 1, 1) := by decide +kernel
theorem dM_error_40 : decode prog_14_method_65_code 40 = .ok (.aaload, 1) := by decide +kernel
theorem dM_error_41 : decode prog_14_method_65_code 41 = .ok (.iload_n 2, 1) := by decide +kernel
theorem dM_error_42 : decode prog_14_method_65_code 42 = .ok (.laload, 1) := by decide +kernel
theorem dM_error_43 : decode prog_14_method_65_code 43 = .ok (.aload_n 0, 1) := by decide +kernel
theorem dM_error_44 : decode prog_14_method_65_code 44 = .ok (.getfield 148, 3) := by decide +kernel
theorem dM_error_47 : decode prog_14_method_65_code 47 = .ok (.iload_n 1, 1) := by decide +kernel
theorem dM_error_48 : decode prog_14_method_65_code 48 = .ok (.aaload, 1) := by decide +kernel
theorem dM_error_49 : decode prog_14_method_65_code 49 = .ok (.iload_n 2, 1) := by decide +kernel
theorem dM_error_50 : decode prog_14_method_65_code 50 = .ok (.laload, 1) := by decide +kernel
theorem dM_error_51 : decode prog_14_method_65_code 51 = .ok (.lsub, 1) := by decide +kernel
theorem dM_error_52 : decode prog_14_method_65_code 52 = .ok (.invokestatic 482, 3) := by decide +kernel
theorem dM_error_55 : decode prog_14_method_65_code 55 = .ok (.ireturn, 1) := by decide +kernel
theorem dM_errors_0 : decode prog_14_method_68_code 0 = .ok (.aload_n 0, 1) := by decide +kernel
theorem dM_errors_1 : decode prog_14_method_68_code 1 = .ok (.iload_n 1, 1) := by decide +kernel
theorem dM_errors_2 : decode prog_14_method_68_code 2 = .ok (.invokevirtual 287, 3) := by decide +kernel
theorem dM_errors_5 : decode prog_14_method_68_code 5 = .ok (.ifCond .ne 5, 3) := by decide +kernel
theorem dM_errors_8 : decode prog_14_method_68_code 8 = .ok (.iconst (-1), 1) := by decide +kernel
theorem dM_errors_9 : decode prog_14_method_68_code 9 = .ok (.ireturn, 1) := by decide +kernel
theorem dM_errors_10 : decode prog_14_method_68_code 10 = .ok (.iconst 0, 1) := by decide +kernel
theorem dM_errors_11 : decode prog_14_method_68_code 11 = .ok (.istore_n 2, 1) := by decide +kernel
theorem dM_errors_12 : decode prog_14_method_68_code 12 = .ok (.aload_n 0, 1) := by decide +kernel
theorem dM_errors_13 : decode prog_14_method_68_code 13 = .ok (.aload_n 0, 1) := by decide +kernel
theorem dM_errors_14 : decode prog_14_method_68_code 14 = .ok (.aload_n 0, 1) := by decide +kernel
theorem dM_errors_15 : decode prog_14_method_68_code 15 = .ok (.invokevirtual 254, 3) := by decide +kernel
theorem dM_errors_18 : decode prog_14_method_68_code 18 = .ok (.invokevirtual 486, 3) := by decide +kernel
theorem dM_errors_21 : decode prog_14_method_68_code 21 = .ok (.aload_n 0, 1) := by decide +kernel
theorem dM_errors_22 : decode prog_14_method_68_code 22 = .ok (.invokevirtual 254, 3) := by decide +kernel
theorem dM_errors_25 : decode prog_14_method_68_code 25 = .ok (.iconst 0, 1) := by decide +kernel
theorem dM_errors_26 : decode prog_14_method_68_code 26 = .ok (.invokevirtual 471, 3) := by decide +kernel
theorem dM_errors_29 : decode prog_14_method_68_code 29 = .ok (.iconst 0, 1) := by decide +kernel
theorem dM_errors_30 : decode prog_14_method_68_code 30 = .ok (.istore_n 3, 1) := by decide +kernel
theorem dM_errors_31 : decode prog_14_method_68_code 31 = .ok (.iload_n 3, 1) := by decide +kernel
theorem dM_errors_32 : decode prog_14_method_68_code 32 = .ok (.aload_n 0, 1) := by decide +kernel
theorem dM_errors_33 : decode prog_14_method_68_code 33 = .ok (.aload_n 0, 1) := by decide +kernel
theorem dM_errors_34 : decode prog_14_method_68_code 34 = .ok (.invokevirtual 254, 3) := by decide +kernel
theorem dM_errors_37 : decode prog_14_method_68_code 37 = .ok (.invokevirtual 486, 3) := by decide +kernel
theorem dM_errors_40 : decode prog_14_method_68_code 40 = .ok (.if_icmp .gt 44, 3) := by decide +kernel
theorem dM_errors_43 : decode prog_14_method_68_code 43 = .ok (.iload_n 2, 1) := by decide +kernel
theorem dM_errors_44 : decode prog_14_method_68_code 44 = .ok (.aload_n 0, 1) := by decide +kernel
theorem dM_errors_45 : decode prog_14_method_68_code 45 = .ok (.iload_n 3, 1) := by decide +kernel
theorem dM_errors_46 : decode prog_14_method_68_code 46 = .ok (.invokevirtual 229, 3) := by decide +kernel
theorem dM_errors_49 : decode prog_14_method_68_code 49 = .ok (.ifCond .eq 26, 3) := by decide +kernel
theorem dM_errors_52 : decode prog_14_method_68_code 52 = .ok (.aload_n 0, 1) := by decide +kernel
theorem dM_errors_53 : decode prog_14_method_68_code 53 = .ok (.iload_n 1, 1) := by decide +kernel
theorem dM_errors_54 : decode prog_14_method_68_code 54 = .ok (.iload_n 3, 1) := by decide +kernel
theorem dM_errors_55 : decode prog_14_method_68_code 55 = .ok (.aload_n 0, 1) := by decide +kernel
theorem dM_errors_56 : decode prog_14_method_68_code 56 = .ok (.iload_n 1, 1) := by decide +kernel
theorem dM_errors_57 : decode prog_14_method_68_code 57 = .ok (.aload_n 0, 1) := by decide +kernel
theorem dM_errors_58 : decode prog_14_method_68_code 58 = .ok (.invokevirtual 254, 3) := by decide +kernel
theorem dM_errors_61 : decode prog_14_method_68_code 61 = .ok (.iconst 4, 1) := by decide +kernel
theorem dM_errors_62 : decode prog_14_method_68_code 62 = .ok (.invokevirtual 305, 3) := by decide +kernel
theorem dM_errors_65 : decode prog_14_method_68_code 65 = .ok (.invokevirtual 489, 3) := by decide +kernel
theorem dM_errors_68 : decode prog_14_method_68_code 68 = .ok (.ifCond .eq 7, 3) := by decide +kernel
theorem dM_errors_71 : decode prog_14_method_68_code 71 = .ok (.iconst 1, 1) := by decide +kernel
theorem dM_errors_72 : decode prog_14_method_68_code 72 = .ok (.goto 4, 3) := by decide +kernel
theorem dM_errors_75 : decode prog_14_method_68_code 75 = .ok (.iconst 0, 1) := by decide +kernel
theorem dM_errors_76 : decode prog_14_method_68_code 76 = .ok (.iadd, 1) := by decide +kernel
theorem dM_errors_77 : decode prog_14_method_68_code 77 = .ok (.istore_n 2, 1) := by decide +kernel
theorem dM_errors_78 : decode prog_14_method_68_code 78 = .ok (.iinc 3 1, 3) := by decide +kernel
theorem dM_errors_81 : decode prog_14_method_68_code 81 = .ok (.goto (-50), 3) := by decide +kernel
theorem dM_errors_84 : decode prog_14_method_68_code 84 = .ok (.iload_n 2, 1) := by decide +kernel
theorem dM_errors_85 : decode prog_14_method_68_code 85 = .ok (.ireturn, 1) := by decide +kernel
theorem dM_explain_0 : decode prog_14_method_93_code 0 = .ok (.aload_n 0, 1) := by decide +kernel
theorem dM_explain_1 : decode prog_14_method_93_code 1 = .ok (.invokevirtual 541, 3) := by decide +kernel
theorem dM_explain_4 : decode prog_14_method_93_code 4 = .ok (.aload_n 0, 1) := by decide +kernel
theorem dM_explain_5 : decode prog_14_method_93_code 5 = .ok (.getfield 529, 3) := by decide +kernel
theorem dM_explain_8 : decode prog_14_method_93_code 8 = .ok (.ireturn, 1) := by decide +kernel
theorem dM_explains_0 : decode prog_14_method_90_code 0 = .ok (.aload_n 0, 1) := by decide +kernel
theorem dM_explains_1 : decode prog_14_method_90_code 1 = .ok (.getfield 251, 3) := by decide +kernel
theorem dM_explains_4 : decode prog_14_method_90_code 4 = .ok (.istore_n 2, 1) := by decide +kernel
theorem dM_explains_5 : decode prog_14_method_90_code 5 = .ok (.iconst 0, 1) := by decide +kernel
theorem dM_explains_6 : decode prog_14_method_90_code 6 = .ok (.istore_n 3, 1) := by decide +kernel
theorem dM_explains_7 : decode prog_14_method_90_code 7 = .ok (.iload_n 3, 1) := by decide +kernel
theorem dM_explains_8 : decode prog_14_method_90_code 8 = .ok (.aload_n 0, 1) := by decide +kernel
theorem dM_explains_9 : decode prog_14_method_90_code 9 = .ok (.getfield 526, 3) := by decide +kernel
theorem dM_explains_12 : decode prog_14_method_90_code 12 = .ok (.if_icmp .ge 46, 3) := by decide +kernel
theorem dM_explains_15 : decode prog_14_method_90_code 15 = .ok (.iload_n 1, 1) := by decide +kernel
theorem dM_explains_16 : decode prog_14_method_90_code 16 = .ok (.iload_n 3, 1) := by decide +kernel
theorem dM_explains_17 : decode prog_14_method_90_code 17 = .ok (.ishr, 1) := by decide +kernel
theorem dM_explains_18 : decode prog_14_method_90_code 18 = .ok (.iconst 1, 1) := by decide +kernel
theorem dM_explains_19 : decode prog_14_method_90_code 19 = .ok (.iand, 1) := by decide +kernel
theorem dM_explains_20 : decode prog_14_method_90_code 20 = .ok (.iconst 1, 1) := by decide +kernel
theorem dM_explains_21 : decode prog_14_method_90_code 21 = .ok (.if_icmp .ne 31, 3) := by decide +kernel
theorem dM_explains_24 : decode prog_14_method_90_code 24 = .ok (.aload_n 0, 1) := by decide +kernel
theorem dM_explains_25 : decode prog_14_method_90_code 25 = .ok (.aload_n 0, 1) := by decide +kernel
theorem dM_explains_26 : decode prog_14_method_90_code 26 = .ok (.getfield 29, 3) := by decide +kernel
theorem dM_explains_29 : decode prog_14_method_90_code 29 = .ok (.iload_n 3, 1) := by decide +kernel
theorem dM_explains_30 : decode prog_14_method_90_code 30 = .ok (.iaload, 1) := by decide +kernel
theorem dM_explains_31 : decode prog_14_method_90_code 31 = .ok (.aload_n 0, 1) := by decide +kernel
theorem dM_explains_32 : decode prog_14_method_90_code 32 = .ok (.getfield 32, 3) := by decide +kernel
theorem dM_explains_35 : decode prog_14_method_90_code 35 = .ok (.iload_n 3, 1) := by decide +kernel
theorem dM_explains_36 : decode prog_14_method_90_code 36 = .ok (.iaload, 1) := by decide +kernel
theorem dM_explains_37 : decode prog_14_method_90_code 37 = .ok (.aload_n 0, 1) := by decide +kernel
theorem dM_explains_38 : decode prog_14_method_90_code 38 = .ok (.getfield 35, 3) := by decide +kernel
theorem dM_explains_41 : decode prog_14_method_90_code 41 = .ok (.iload_n 3, 1) := by decide +kernel
theorem dM_explains_42 : decode prog_14_method_90_code 42 = .ok (.iaload, 1) := by decide +kernel
theorem dM_explains_43 : decode prog_14_method_90_code 43 = .ok (.aload_n 0, 1) := by decide +kernel
theorem dM_explains_44 : decode prog_14_method_90_code 44 = .ok (.getfield 38, 3) := by decide +kernel
theorem dM_explains_47 : decode prog_14_method_90_code 47 = .ok (.iload_n 3, 1) := by decide +kernel
theorem dM_explains_48 : decode prog_14_method_90_code 48 = .ok (.iaload, 1) := by decide +kernel
theorem dM_explains_49 : decode prog_14_method_90_code 49 = .ok (.invokevirtual 262, 3) := by decide +kernel
theorem dM_explains_52 : decode prog_14_method_90_code 52 = .ok (.iinc 3 1, 3) := by decide +kernel
theorem dM_explains_55 : decode prog_14_method_90_code 55 = .ok (.goto (-48), 3) := by decide +kernel
theorem dM_explains_58 : decode prog_14_method_90_code 58 = .ok (.aload_n 0, 1) := by decide +kernel
theorem dM_explains_59 : decode prog_14_method_90_code 59 = .ok (.aload_n 0, 1) := by decide +kernel
theorem dM_explains_60 : decode prog_14_method_90_code 60 = .ok (.aload_n 0, 1) := by decide +kernel
theorem dM_explains_61 : decode prog_14_method_90_code 61 = .ok (.invokevirtual 254, 3) := by decide +kernel
theorem dM_explains_64 : decode prog_14_method_90_code 64 = .ok (.invokevirtual 486, 3) := by decide +kernel
theorem dM_explains_67 : decode prog_14_method_90_code 67 = .ok (.aload_n 0, 1) := by decide +kernel
theorem dM_explains_68 : decode prog_14_method_90_code 68 = .ok (.invokevirtual 254, 3) := by decide +kernel
theorem dM_explains_71 : decode prog_14_method_90_code 71 = .ok (.iconst 0, 1) := by decide +kernel
theorem dM_explains_72 : decode prog_14_method_90_code 72 = .ok (.invokevirtual 471, 3) := by decide +kernel
theorem dM_explains_75 : decode prog_14_method_90_code 75 = .ok (.aload_n 0, 1) := by decide +kernel
theorem dM_explains_76 : decode prog_14_method_90_code 76 = .ok (.iload_n 2, 1) := by decide +kernel
theorem dM_explains_77 : decode prog_14_method_90_code 77 = .ok (.putfield 251, 3) := by decide +kernel
theorem dM_explains_80 : decode prog_14_method_90_code 80 = .ok (.iconst 1, 1) := by decide +kernel
theorem dM_explains_81 : decode prog_14_method_90_code 81 = .ok (.istore_n 3, 1) := by decide +kernel
theorem dM_explains_82 : decode prog_14_method_90_code 82 = .ok (.iconst 0, 1) := by decide +kernel
theorem dM_explains_83 : decode prog_14_method_90_code 83 = .ok (.istore 4, 2) := by decide +kernel
theorem dM_explains_85 : decode prog_14_method_90_code 85 = .ok (.iload 4, 2) := by decide +kernel
theorem dM_explains_87 : decode prog_14_method_90_code 87 = .ok (.aload_n 0, 1) := by decide +kernel
theorem dM_explains_88 : decode prog_14_method_90_code 88 = .ok (.getfield 523, 3) := by decide +kernel
theorem dM_explains_91 : decode prog_14_method_90_code 91 = .ok (.if_icmp .ge 51, 3) := by decide +kernel
theorem dM_explains_94 : decode prog_14_method_90_code 94 = .ok (.iload_n 3, 1) := by decide +kernel
theorem dM_explains_95 : decode prog_14_method_90_code 95 = .ok (.ifCond .eq 39, 3) := by decide +kernel
theorem dM_explains_98 : decode prog_14_method_90_code 98 = .ok (.aload_n 0, 1) := by decide +kernel
theorem dM_explains_99 : decode prog_14_method_90_code 99 = .ok (.getfield 148, 3) := by decide +kernel
theorem dM_explains_102 : decode prog_14_method_90_code 102 = .ok (.aload_n 0, 1) := by decide +kernel
theorem dM_explains_103 : decode prog_14_method_90_code 103 = .ok (.getfield 184, 3) := by decide +kernel
theorem dM_explains_106 : decode prog_14_method_90_code 106 = .ok (.iload 4, 2) := by decide +kernel
theorem dM_explains_108 : decode prog_14_method_90_code 108 = .ok (.iaload, 1) := by decide +kernel
theorem dM_explains_109 : decode prog_14_method_90_code 109 = .ok (.aaload, 1) := by decide +kernel
theorem dM_explains_110 : decode prog_14_method_90_code 110 = .ok (.aload_n 0, 1) := by decide +kernel
theorem dM_explains_111 : decode prog_14_method_90_code 111 = .ok (.getfield 187, 3) := by decide +kernel
theorem dM_explains_114 : decode prog_14_method_90_code 114 = .ok (.iload 4, 2) := by decide +kernel
theorem dM_explains_116 : decode prog_14_method_90_code 116 = .ok (.iaload, 1) := by decide +kernel
theorem dM_explains_117 : decode prog_14_method_90_code 117 = .ok (.laload, 1) := by decide +kernel
theorem dM_explains_118 : decode prog_14_method_90_code 118 = .ok (.aload_n 0, 1) := by decide +kernel
theorem dM_explains_119 : decode prog_14_method_90_code 119 = .ok (.getfield 190, 3) := by decide +kernel
theorem dM_explains_122 : decode prog_14_method_90_code 122 = .ok (.iload 4, 2) := by decide +kernel
theorem dM_explains_124 : decode prog_14_method_90_code 124 = .ok (.iaload, 1) := by decide +kernel
theorem dM_explains_125 : decode prog_14_method_90_code 125 = .ok (.i2l, 1) := by decide +kernel
theorem dM_explains_126 : decode prog_14_method_90_code 126 = .ok (.lcmp, 1) := by decide +kernel
theorem dM_explains_127 : decode prog_14_method_90_code 127 = .ok (.ifCond .ne 7, 3) := by decide +kernel
theorem dM_explains_130 : decode prog_14_method_90_code 130 = .ok (.iconst 1, 1) := by decide +kernel
theorem dM_explains_131 : decode prog_14_method_90_code 131 = .ok (.goto 4, 3) := by decide +kernel
theorem dM_explains_134 : decode prog_14_method_90_code 134 = .ok (.iconst 0, 1) := by decide +kernel
theorem dM_explains_135 : decode prog_14_method_90_code 135 = .ok (.istore_n 3, 1) := by decide +kernel
theorem dM_explains_136 : decode prog_14_method_90_code 136 = .ok (.iinc 4 1, 3) := by decide +kernel
theorem dM_explains_139 : decode prog_14_method_90_code 139 = .ok (.goto (-54), 3) := by decide +kernel
theorem dM_explains_142 : decode prog_14_method_90_code 142 = .ok (.iload_n 3, 1) := by decide +kernel
theorem dM_explains_143 : decode prog_14_method_90_code 143 = .ok (.ireturn, 1) := by decide +kernel
theorem dM_fails_0 : decode prog_14_method_27_code 0 = .ok (.aload_n 0, 1) := by decide +kernel
theorem dM_fails_1 : decode prog_14_method_27_code 1 = .ok (.getfield 316, 3) := by decide +kernel
theorem dM_fails_4 : decode prog_14_method_27_code 4 = .ok (.iconst (-1), 1) := by decide +kernel
theorem dM_fails_5 : decode prog_14_method_27_code 5 = .ok (.if_icmp .ne 11, 3) := by decide +kernel
theorem dM_fails_8 : decode prog_14_method_27_code 8 = .ok (.aload_n 0, 1) := by decide +kernel
theorem dM_fails_9 : decode prog_14_method_27_code 9 = .ok (.aload_n 0, 1) := by decide +kernel
theorem dM_fails_10 : decode prog_14_method_27_code 10 = .ok (.getfield 319, 3) := by decide +kernel
theorem dM_fails_13 : decode prog_14_method_27_code 13 = .ok (.putfield 316, 3) := by decide +kernel
theorem dM_fails_16 : decode prog_14_method_27_code 16 = .ok (.return_, 1) := by decide +kernel
theorem dM_fault_0 : decode prog_14_method_42_code 0 = .ok (.aload_n 0, 1) := by decide +kernel
theorem dM_fault_1 : decode prog_14_method_42_code 1 = .ok (.invokevirtual 410, 3) := by decide +kernel
theorem dM_fault_4 : decode prog_14_method_42_code 4 = .ok (.aload_n 0, 1) := by decide +kernel
theorem dM_fault_5 : decode prog_14_method_42_code 5 = .ok (.getfield 316, 3) := by decide +kernel
theorem dM_fault_8 : decode prog_14_method_42_code 8 = .ok (.ireturn, 1) := by decide +kernel
theorem dM_fee_0 : decode prog_14_method_64_code 0 = .ok (.aload_n 0, 1) := by decide +kernel
theorem dM_fee_1 : decode prog_14_method_64_code 1 = .ok (.iload_n 1, 1) := by decide +kernel
theorem dM_fee_2 : decode prog_14_method_64_code 2 = .ok (.iload_n 2, 1) := by decide +kernel
theorem dM_fee_3 : decode prog_14_method_64_code 3 = .ok (.invokevirtual 479, 3) := by decide +kernel
theorem dM_fee_6 : decode prog_14_method_64_code 6 = .ok (.ifCond .eq 13, 3) := by decide +kernel
theorem dM_fee_9 : decode prog_14_method_64_code 9 = .ok (.iload_n 3, 1) := by decide +kernel
theorem dM_fee_10 : decode prog_14_method_64_code 10 = .ok (.i2l, 1) := by decide +kernel
theorem dM_fee_11 : decode prog_14_method_64_code 11 = .ok (.lconst 0, 1) := by decide +kernel
theorem dM_fee_12 : decode prog_14_method_64_code 12 = .ok (.lconst 1, 1) := by decide +kernel
theorem dM_fee_13 : decode prog_14_method_64_code 13 = .ok (.invokestatic 222, 3) := by decide +kernel
theorem dM_fee_16 : decode prog_14_method_64_code 16 = .ok (.ifCond .ne 5, 3) := by decide +kernel
theorem dM_fee_19 : decode prog_14_method_64_code 19 = .ok (.iconst (-1), 1) := by decide +kernel
theorem dM_fee_20 : decode prog_14_method_64_code 20 = .ok (.ireturn, 1) := by decide +kernel
theorem dM_fee_21 : decode prog_14_method_64_code 21 = .ok (.iload_n 3, 1) := by decide +kernel
theorem dM_fee_22 : decode prog_14_method_64_code 22 = .ok (.ifCond .ne 15, 3) := by decide +kernel
theorem dM_fee_25 : decode prog_14_method_64_code 25 = .ok (.aload_n 0, 1) := by decide +kernel
theorem dM_fee_26 : decode prog_14_method_64_code 26 = .ok (.getfield 163, 3) := by decide +kernel
theorem dM_fee_29 : decode prog_14_method_64_code 29 = .ok (.iload_n 1, 1) := by decide +kernel
theorem dM_fee_30 : decode prog_14_method_64_code 30 = .ok (.aaload, 1) := by decide +kernel
theorem dM_fee_31 : decode prog_14_method_64_code 31 = .ok (.iload_n 2, 1) := by decide +kernel
theorem dM_fee_32 : decode prog_14_method_64_code 32 = .ok (.laload, 1) := by decide +kernel
theorem dM_fee_33 : decode prog_14_method_64_code 33 = .ok (.invokestatic 482, 3) := by decide +kernel
theorem dM_fee_36 : decode prog_14_method_64_code 36 = .ok (.ireturn, 1) := by decide +kernel
theorem dM_fee_37 : decode prog_14_method_64_code 37 = .ok (.aload_n 0, 1) := by decide +kernel
theorem dM_fee_38 : decode prog_14_method_64_code 38 = .ok (.iload_n 2, 1) := by decide +kernel
theorem dM_fee_39 : decode prog_14_method_64_code 39 = .ok (.aload_n 0, 1) := by decide +kernel
theorem dM_fee_40 : decode prog_14_method_64_code 40 = .ok (.invokevirtual 254, 3) := by decide +kernel
theorem dM_fee_43 : decode prog_14_method_64_code 43 = .ok (.iconst 0, 1) := by decide +kernel
theorem dM_fee_44 : decode prog_14_method_64_code 44 = .ok (.invokevirtual 471, 3) := by decide +kernel
theorem dM_fee_47 : decode prog_14_method_64_code 47 = .ok (.aload_n 0, 1) := by decide +kernel
theorem dM_fee_48 : decode prog_14_method_64_code 48 = .ok (.getfield 151, 3) := by decide +kernel
theorem dM_fee_51 : decode prog_14_method_64_code 51 = .ok (.iload_n 1, 1) := by decide +kernel
theorem dM_fee_52 : decode prog_14_method_64_code 52 = .ok (.aaload, 1) := by decide +kernel
theorem dM_fee_53 : decode prog_14_method_64_code 53 = .ok (.iload_n 2, 1) := by decide +kernel
theorem dM_fee_54 : decode prog_14_method_64_code 54 = .ok (.laload, 1) := by decide +kernel
theorem dM_fee_55 : decode prog_14_method_64_code 55 = .ok (.invokestatic 482, 3) := by decide +kernel
theorem dM_fee_58 : decode prog_14_method_64_code 58 = .ok (.ireturn, 1) := by decide +kernel
theorem dM_feed_0 : decode prog_14_method_25_code 0 = .ok (.aload_n 0, 1) := by decide +kernel
theorem dM_feed_1 : decode prog_14_method_25_code 1 = .ok (.getfield 309, 3) := by decide +kernel
theorem dM_feed_4 : decode prog_14_method_25_code 4 = .ok (.bipush 20, 2) := by decide +kernel
theorem dM_feed_6 : decode prog_14_method_25_code 6 = .ok (.iadd, 1) := by decide +kernel
theorem dM_feed_7 : decode prog_14_method_25_code 7 = .ok (.sipush 600, 3) := by decide +kernel
theorem dM_feed_10 : decode prog_14_method_25_code 10 = .ok (.if_icmp .le 5, 3) := by decide +kernel
theorem dM_feed_13 : decode prog_14_method_25_code 13 = .ok (.iconst (-1), 1) := by decide +kernel
theorem dM_feed_14 : decode prog_14_method_25_code 14 = .ok (.ireturn, 1) := by decide +kernel
theorem dM_feed_15 : decode prog_14_method_25_code 15 = .ok (.aload_n 0, 1) := by decide +kernel
theorem dM_feed_16 : decode prog_14_method_25_code 16 = .ok (.iload_n 1, 1) := by decide +kernel
theorem dM_feed_17 : decode prog_14_method_25_code 17 = .ok (.invokevirtual 312, 3) := by decide +kernel
theorem dM_feed_20 : decode prog_14_method_25_code 20 = .ok (.aload_n 0, 1) := by decide +kernel
theorem dM_feed_21 : decode prog_14_method_25_code 21 = .ok (.iload_n 2, 1) := by decide +kernel
theorem dM_feed_22 : decode prog_14_method_25_code 22 = .ok (.invokevirtual 312, 3) := by decide +kernel
theorem dM_feed_25 : decode prog_14_method_25_code 25 = .ok (.aload_n 0, 1) := by decide +kernel
theorem dM_feed_26 : decode prog_14_method_25_code 26 = .ok (.iload_n 3, 1) := by decide +kernel
theorem dM_feed_27 : decode prog_14_method_25_code 27 = .ok (.invokevirtual 312, 3) := by decide +kernel
theorem dM_feed_30 : decode prog_14_method_25_code 30 = .ok (.aload_n 0, 1) := by decide +kernel
theorem dM_feed_31 : decode prog_14_method_25_code 31 = .ok (.iload 4, 2) := by decide +kernel
theorem dM_feed_33 : decode prog_14_method_25_code 33 = .ok (.invokevirtual 312, 3) := by decide +kernel
theorem dM_feed_36 : decode prog_14_method_25_code 36 = .ok (.aload_n 0, 1) := by decide +kernel
theorem dM_feed_37 : decode prog_14_method_25_code 37 = .ok (.iload 5, 2) := by decide +kernel
theorem dM_feed_39 : decode prog_14_method_25_code 39 = .ok (.invokevirtual 312, 3) := by decide +kernel
theorem dM_feed_42 : decode prog_14_method_25_code 42 = .ok (.aload_n 0, 1) := by decide +kernel
theorem dM_feed_43 : decode prog_14_method_25_code 43 = .ok (.getfield 309, 3) := by decide +kernel
theorem dM_feed_46 : decode prog_14_method_25_code 46 = .ok (.ireturn, 1) := by decide +kernel
theorem dM_feeds0_0 : decode prog_14_method_24_code 0 = .ok (.iconst 3, 1) := by decide +kernel
theorem dM_feeds0_1 : decode prog_14_method_24_code 1 = .ok (.istore_n 2, 1) := by decide +kernel
theorem dM_feeds0_2 : decode prog_14_method_24_code 2 = .ok (.iload_n 2, 1) := by decide +kernel
theorem dM_feeds0_3 : decode prog_14_method_24_code 3 = .ok (.ifCond .lt 35, 3) := by decide +kernel
theorem dM_feeds0_6 : decode prog_14_method_24_code 6 = .ok (.aload_n 0, 1) := by decide +kernel
theorem dM_feeds0_7 : decode prog_14_method_24_code 7 = .ok (.getfield 96, 3) := by decide +kernel
theorem dM_feeds0_10 : decode prog_14_method_24_code 10 = .ok (.aload_n 0, 1) := by decide +kernel
theorem dM_feeds0_11 : decode prog_14_method_24_code 11 = .ok (.getfield 309, 3) := by decide +kernel
theorem dM_feeds0_14 : decode prog_14_method_24_code 14 = .ok (.iload_n 1, 1) := by decide +kernel
theorem dM_feeds0_15 : decode prog_14_method_24_code 15 = .ok (.bipush 8, 2) := by decide +kernel
theorem dM_feeds0_17 : decode prog_14_method_24_code 17 = .ok (.iload_n 2, 1) := by decide +kernel
theorem dM_feeds0_18 : decode prog_14_method_24_code 18 = .ok (.imul, 1) := by decide +kernel
theorem dM_feeds0_19 : decode prog_14_method_24_code 19 = .ok (.iushr, 1) := by decide +kernel
theorem dM_feeds0_20 : decode prog_14_method_24_code 20 = .ok (.i2b, 1) := by decide +kernel
theorem dM_feeds0_21 : decode prog_14_method_24_code 21 = .ok (.bastore, 1) := by decide +kernel
theorem dM_feeds0_22 : decode prog_14_method_24_code 22 = .ok (.aload_n 0, 1) := by decide +kernel
theorem dM_feeds0_23 : decode prog_14_method_24_code 23 = .ok (.dup, 1) := by decide +kernel
theorem dM_feeds0_24 : decode prog_14_method_24_code 24 = .ok (.getfield 309, 3) := by decide +kernel
theorem dM_feeds0_27 : decode prog_14_method_24_code 27 = .ok (.iconst 1, 1) := by decide +kernel
theorem dM_feeds0_28 : decode prog_14_method_24_code 28 = .ok (.iadd, 1) := by decide +kernel
theorem dM_feeds0_29 : decode prog_14_method_24_code 29 = .ok (.putfield 309, 3) := by decide +kernel
theorem dM_feeds0_32 : decode prog_14_method_24_code 32 = .ok (.iinc 2 (-1), 3) := by decide +kernel
theorem dM_feeds0_35 : decode prog_14_method_24_code 35 = .ok (.goto (-33), 3) := by decide +kernel
theorem dM_feeds0_38 : decode prog_14_method_24_code 38 = .ok (.return_, 1) := by decide +kernel
theorem dM_feeds1_0 : decode prog_14_method_50_code 0 = .ok (.iconst 0, 1) := by decide +kernel
theorem dM_feeds1_1 : decode prog_14_method_50_code 1 = .ok (.istore_n 3, 1) := by decide +kernel
theorem dM_feeds1_2 : decode prog_14_method_50_code 2 = .ok (.iload_n 3, 1) := by decide +kernel
theorem dM_feeds1_3 : decode prog_14_method_50_code 3 = .ok (.aload_n 0, 1) := by decide +kernel
theorem dM_feeds1_4 : decode prog_14_method_50_code 4 = .ok (.getfield 302, 3) := by decide +kernel
theorem dM_feeds1_7 : decode prog_14_method_50_code 7 = .ok (.if_icmp .ge 69, 3) := by decide +kernel
theorem dM_feeds1_10 : decode prog_14_method_50_code 10 = .ok (.aload_n 0, 1) := by decide +kernel
theorem dM_feeds1_11 : decode prog_14_method_50_code 11 = .ok (.getfield 74, 3) := by decide +kernel
theorem dM_feeds1_14 : decode prog_14_method_50_code 14 = .ok (.iload_n 3, 1) := by decide +kernel
theorem dM_feeds1_15 : decode prog_14_method_50_code 15 = .ok (.iaload, 1) := by decide +kernel
theorem dM_feeds1_16 : decode prog_14_method_50_code 16 = .ok (.bipush 16, 2) := by decide +kernel
theorem dM_feeds1_18 : decode prog_14_method_50_code 18 = .ok (.iload_n 1, 1) := by decide +kernel
theorem dM_feeds1_19 : decode prog_14_method_50_code 19 = .ok (.iadd, 1) := by decide +kernel
theorem dM_feeds1_20 : decode prog_14_method_50_code 20 = .ok (.if_icmp .ne 50, 3) := by decide +kernel
theorem dM_feeds1_23 : decode prog_14_method_50_code 23 = .ok (.aload_n 0, 1) := by decide +kernel
theorem dM_feeds1_24 : decode prog_14_method_50_code 24 = .ok (.getfield 83, 3) := by decide +kernel
theorem dM_feeds1_27 : decode prog_14_method_50_code 27 = .ok (.iload_n 3, 1) := by decide +kernel
theorem dM_feeds1_28 : decode prog_14_method_50_code 28 = .ok (.iaload, 1) := by decide +kernel
theorem dM_feeds1_29 : decode prog_14_method_50_code 29 = .ok (.iload_n 2, 1) := by decide +kernel
theorem dM_feeds1_30 : decode prog_14_method_50_code 30 = .ok (.if_icmp .eq 6, 3) := by decide +kernel
theorem dM_feeds1_33 : decode prog_14_method_50_code 33 = .ok (.goto 37, 3) := by decide +kernel
theorem dM_feeds1_36 : decode prog_14_method_50_code 36 = .ok (.aload_n 0, 1) := by decide +kernel
theorem dM_feeds1_37 : decode prog_14_method_50_code 37 = .ok (.getfield 137, 3) := by decide +kernel
theorem dM_feeds1_40 : decode prog_14_method_50_code 40 = .ok (.iload_n 1, 1) := by decide +kernel
theorem dM_feeds1_41 : decode prog_14_method_50_code 41 = .ok (.dup2, 1) := by decide +kernel
theorem dM_feeds1_42 : decode prog_14_method_50_code 42 = .ok (.laload, 1) := by decide +kernel
theorem dM_feeds1_43 : decode prog_14_method_50_code 43 = .ok (.aload_n 0, 1) := by decide +kernel
theorem dM_feeds1_44 : decode prog_14_method_50_code 44 = .ok (.getfield 80, 3) := by decide +kernel
theorem dM_feeds1_47 : decode prog_14_method_50_code 47 = .ok (.iload_n 3, 1) := by decide +kernel
theorem dM_feeds1_48 : decode prog_14_method_50_code 48 = .ok (.iaload, 1) := by decide +kernel
theorem dM_feeds1_49 : decode prog_14_method_50_code 49 = .ok (.ifCond .le 13, 3) := by decide +kernel
theorem dM_feeds1_52 : decode prog_14_method_50_code 52 = .ok (.aload_n 0, 1) := by decide +kernel
theorem dM_feeds1_53 : decode prog_14_method_50_code 53 = .ok (.getfield 140, 3) := by decide +kernel
theorem dM_feeds1_56 : decode prog_14_method_50_code 56 = .ok (.iload_n 3, 1) := by decide +kernel
theorem dM_feeds1_57 : decode prog_14_method_50_code 57 = .ok (.laload, 1) := by decide +kernel
theorem dM_feeds1_58 : decode prog_14_method_50_code 58 = .ok (.lneg, 1) := by decide +kernel
theorem dM_feeds1_59 : decode prog_14_method_50_code 59 = .ok (.goto 9, 3) := by decide +kernel
theorem dM_feeds1_62 : decode prog_14_method_50_code 62 = .ok (.aload_n 0, 1) := by decide +kernel
theorem dM_feeds1_63 : decode prog_14_method_50_code 63 = .ok (.getfield 140, 3) := by decide +kernel
theorem dM_feeds1_66 : decode prog_14_method_50_code 66 = .ok (.iload_n 3, 1) := by decide +kernel
theorem dM_feeds1_67 : decode prog_14_method_50_code 67 = .ok (.laload, 1) := by decide +kernel
theorem dM_feeds1_68 : decode prog_14_method_50_code 68 = .ok (.ladd, 1) := by decide +kernel
theorem dM_feeds1_69 : decode prog_14_method_50_code 69 = .ok (.lastore, 1) := by decide +kernel
theorem dM_feeds1_70 : decode prog_14_method_50_code 70 = .ok (.iinc 3 1, 3) := by decide +kernel
theorem dM_feeds1_73 : decode prog_14_method_50_code 73 = .ok (.goto (-71), 3) := by decide +kernel
theorem dM_feeds1_76 : decode prog_14_method_50_code 76 = .ok (.return_, 1) := by decide +kernel
theorem dM_flow_0 : decode prog_14_method_53_code 0 = .ok (.lconst 0, 1) := by decide +kernel
theorem dM_flow_1 : decode prog_14_method_53_code 1 = .ok (.lstore 4, 2) := by decide +kernel
theorem dM_flow_3 : decode prog_14_method_53_code 3 = .ok (.iconst 0, 1) := by decide +kernel
theorem dM_flow_4 : decode prog_14_method_53_code 4 = .ok (.istore 6, 2) := by decide +kernel
theorem dM_flow_6 : decode prog_14_method_53_code 6 = .ok (.iload 6, 2) := by decide +kernel
theorem dM_flow_8 : decode prog_14_method_53_code 8 = .ok (.bipush 20, 2) := by decide +kernel
theorem dM_flow_10 : decode prog_14_method_53_code 10 = .ok (.if_icmp .ge 25, 3) := by decide +kernel
theorem dM_flow_13 : decode prog_14_method_53_code 13 = .ok (.aload_n 0, 1) := by decide +kernel
theorem dM_flow_14 : decode prog_14_method_53_code 14 = .ok (.getfield 169, 3) := by decide +kernel
theorem dM_flow_17 : decode prog_14_method_53_code 17 = .ok (.iload 6, 2) := by decide +kernel
theorem dM_flow_19 : decode prog_14_method_53_code 19 = .ok (.aload_n 0, 1) := by decide +kernel
theorem dM_flow_20 : decode prog_14_method_53_code 20 = .ok (.getfield 154, 3) := by decide +kernel
theorem dM_flow_23 : decode prog_14_method_53_code 23 = .ok (.iload_n 1, 1) := by decide +kernel
theorem dM_flow_24 : decode prog_14_method_53_code 24 = .ok (.aaload, 1) := by decide +kernel
theorem dM_flow_25 : decode prog_14_method_53_code 25 = .ok (.iload 6, 2) := by decide +kernel
theorem dM_flow_27 : decode prog_14_method_53_code 27 = .ok (.laload, 1) := by decide +kernel
theorem dM_flow_28 : decode prog_14_method_53_code 28 = .ok (.lastore, 1) := by decide +kernel
theorem dM_flow_29 : decode prog_14_method_53_code 29 = .ok (.iinc 6 1, 3) := by decide +kernel
theorem dM_flow_32 : decode prog_14_method_53_code 32 = .ok (.goto (-26), 3) := by decide +kernel
theorem dM_flow_35 : decode prog_14_method_53_code 35 = .ok (.iconst 0, 1) := by decide +kernel
theorem dM_flow_36 : decode prog_14_method_53_code 36 = .ok (.istore 6, 2) := by decide +kernel
theorem dM_flow_38 : decode prog_14_method_53_code 38 = .ok (.iload 6, 2) := by decide +kernel
theorem dM_flow_40 : decode prog_14_method_53_code 40 = .ok (.aload_n 0, 1) := by decide +kernel
theorem dM_flow_41 : decode prog_14_method_53_code 41 = .ok (.getfield 302, 3) := by decide +kernel
theorem dM_flow_44 : decode prog_14_method_53_code 44 = .ok (.if_icmp .ge 79, 3) := by decide +kernel
theorem dM_flow_47 : decode prog_14_method_53_code 47 = .ok (.aload_n 0, 1) := by decide +kernel
theorem dM_flow_48 : decode prog_14_method_53_code 48 = .ok (.getfield 77, 3) := by decide +kernel
theorem dM_flow_51 : decode prog_14_method_53_code 51 = .ok (.iload 6, 2) := by decide +kernel
theorem dM_flow_53 : decode prog_14_method_53_code 53 = .ok (.iaload, 1) := by decide +kernel
theorem dM_flow_54 : decode prog_14_method_53_code 54 = .ok (.iload_n 1, 1) := by decide +kernel
theorem dM_flow_55 : decode prog_14_method_53_code 55 = .ok (.if_icmp .ne 62, 3) := by decide +kernel
theorem dM_flow_58 : decode prog_14_method_53_code 58 = .ok (.aload_n 0, 1) := by decide +kernel
theorem dM_flow_59 : decode prog_14_method_53_code 59 = .ok (.getfield 83, 3) := by decide +kernel
theorem dM_flow_62 : decode prog_14_method_53_code 62 = .ok (.iload 6, 2) := by decide +kernel
theorem dM_flow_64 : decode prog_14_method_53_code 64 = .ok (.iaload, 1) := by decide +kernel
theorem dM_flow_65 : decode prog_14_method_53_code 65 = .ok (.iload_n 2, 1) := by decide +kernel
theorem dM_flow_66 : decode prog_14_method_53_code 66 = .ok (.if_icmp .eq 6, 3) := by decide +kernel
theorem dM_flow_69 : decode prog_14_method_53_code 69 = .ok (.goto 48, 3) := by decide +kernel
theorem dM_flow_72 : decode prog_14_method_53_code 72 = .ok (.aload_n 0, 1) := by decide +kernel
theorem dM_flow_73 : decode prog_14_method_53_code 73 = .ok (.iload 6, 2) := by decide +kernel
theorem dM_flow_75 : decode prog_14_method_53_code 75 = .ok (.iload_n 3, 1) := by decide +kernel
theorem dM_flow_76 : decode prog_14_method_53_code 76 = .ok (.aload_n 0, 1) := by decide +kernel
theorem dM_flow_77 : decode prog_14_method_53_code 77 = .ok (.getfield 169, 3) := by decide +kernel
theorem dM_flow_80 : decode prog_14_method_53_code 80 = .ok (.aload_n 0, 1) := by decide +kernel
theorem dM_flow_81 : decode prog_14_method_53_code 81 = .ok (.getfield 74, 3) := by decide +kernel
theorem dM_flow_84 : decode prog_14_method_53_code 84 = .ok (.iload 6, 2) := by decide +kernel
theorem dM_flow_86 : decode prog_14_method_53_code 86 = .ok (.iaload, 1) := by decide +kernel
theorem dM_flow_87 : decode prog_14_method_53_code 87 = .ok (.laload, 1) := by decide +kernel
theorem dM_flow_88 : decode prog_14_method_53_code 88 = .ok (.invokevirtual 429, 3) := by decide +kernel
theorem dM_flow_91 : decode prog_14_method_53_code 91 = .ok (.lstore 7, 2) := by decide +kernel
theorem dM_flow_93 : decode prog_14_method_53_code 93 = .ok (.aload_n 0, 1) := by decide +kernel
theorem dM_flow_94 : decode prog_14_method_53_code 94 = .ok (.getfield 169, 3) := by decide +kernel
theorem dM_flow_97 : decode prog_14_method_53_code 97 = .ok (.aload_n 0, 1) := by decide +kernel
theorem dM_flow_98 : decode prog_14_method_53_code 98 = .ok (.getfield 74, 3) := by decide +kernel
theorem dM_flow_101 : decode prog_14_method_53_code 101 = .ok (.iload 6, 2) := by decide +kernel
theorem dM_flow_103 : decode prog_14_method_53_code 103 = .ok (.iaload, 1) := by decide +kernel
theorem dM_flow_104 : decode prog_14_method_53_code 104 = .ok (.dup2, 1) := by decide +kernel
theorem dM_flow_105 : decode prog_14_method_53_code 105 = .ok (.laload, 1) := by decide +kernel
theorem dM_flow_106 : decode prog_14_method_53_code 106 = .ok (.lload 7, 2) := by decide +kernel
theorem dM_flow_108 : decode prog_14_method_53_code 108 = .ok (.ladd, 1) := by decide +kernel
theorem dM_flow_109 : decode prog_14_method_53_code 109 = .ok (.lastore, 1) := by decide +kernel
theorem dM_flow_110 : decode prog_14_method_53_code 110 = .ok (.lload 4, 2) := by decide +kernel
theorem dM_flow_112 : decode prog_14_method_53_code 112 = .ok (.lload 7, 2) := by decide +kernel
theorem dM_flow_114 : decode prog_14_method_53_code 114 = .ok (.ladd, 1) := by decide +kernel
theorem dM_flow_115 : decode prog_14_method_53_code 115 = .ok (.lstore 4, 2) := by decide +kernel
theorem dM_flow_117 : decode prog_14_method_53_code 117 = .ok (.iinc 6 1, 3) := by decide +kernel
theorem dM_flow_120 : decode prog_14_method_53_code 120 = .ok (.goto (-82), 3) := by decide +kernel
theorem dM_flow_123 : decode prog_14_method_53_code 123 = .ok (.lload 4, 2) := by decide +kernel
theorem dM_flow_125 : decode prog_14_method_53_code 125 = .ok (.lreturn, 1) := by decide +kernel
theorem dM_forget_0 : decode prog_14_method_89_code 0 = .ok (.aload_n 0, 1) := by decide +kernel
theorem dM_forget_1 : decode prog_14_method_89_code 1 = .ok (.getfield 523, 3) := by decide +kernel
theorem dM_forget_4 : decode prog_14_method_89_code 4 = .ok (.aload_n 0, 1) := by decide +kernel
theorem dM_forget_5 : decode prog_14_method_89_code 5 = .ok (.getfield 526, 3) := by decide +kernel
theorem dM_forget_8 : decode prog_14_method_89_code 8 = .ok (.iadd, 1) := by decide +kernel
theorem dM_forget_9 : decode prog_14_method_89_code 9 = .ok (.istore_n 1, 1) := by decide +kernel
theorem dM_forget_10 : decode prog_14_method_89_code 10 = .ok (.aload_n 0, 1) := by decide +kernel
theorem dM_forget_11 : decode prog_14_method_89_code 11 = .ok (.iconst 0, 1) := by decide +kernel
theorem dM_forget_12 : decode prog_14_method_89_code 12 = .ok (.putfield 523, 3) := by decide +kernel
theorem dM_forget_15 : decode prog_14_method_89_code 15 = .ok (.aload_n 0, 1) := by decide +kernel
theorem dM_forget_16 : decode prog_14_method_89_code 16 = .ok (.iconst 0, 1) := by decide +kernel
theorem dM_forget_17 : decode prog_14_method_89_code 17 = .ok (.putfield 526, 3) := by decide +kernel
theorem dM_forget_20 : decode prog_14_method_89_code 20 = .ok (.iload_n 1, 1) := by decide +kernel
theorem dM_forget_21 : decode prog_14_method_89_code 21 = .ok (.ireturn, 1) := by decide +kernel
theorem dM_found_0 : decode prog_14_method_85_code 0 = .ok (.aload_n 0, 1) := by decide +kernel
theorem dM_found_1 : decode prog_14_method_85_code 1 = .ok (.iload_n 1, 1) := by decide +kernel
theorem dM_found_2 : decode prog_14_method_85_code 2 = .ok (.invokevirtual 287, 3) := by decide +kernel
theorem dM_found_5 : decode prog_14_method_85_code 5 = .ok (.ifCond .eq 23, 3) := by decide +kernel
theorem dM_found_8 : decode prog_14_method_85_code 8 = .ok (.aload_n 0, 1) := by decide +kernel
theorem dM_found_9 : decode prog_14_method_85_code 9 = .ok (.getfield 53, 3) := by decide +kernel
theorem dM_found_12 : decode prog_14_method_85_code 12 = .ok (.iload_n 1, 1) := by decide +kernel
theorem dM_found_13 : decode prog_14_method_85_code 13 = .ok (.iaload, 1) := by decide +kernel
theorem dM_found_14 : decode prog_14_method_85_code 14 = .ok (.iconst (-1), 1) := by decide +kernel
theorem dM_found_15 : decode prog_14_method_85_code 15 = .ok (.if_icmp .ne 13, 3) := by decide +kernel
theorem dM_found_18 : decode prog_14_method_85_code 18 = .ok (.aload_n 0, 1) := by decide +kernel
theorem dM_found_19 : decode prog_14_method_85_code 19 = .ok (.getfield 216, 3) := by decide +kernel
theorem dM_found_22 : decode prog_14_method_85_code 22 = .ok (.sipush 260, 3) := by decide +kernel
theorem dM_found_25 : decode prog_14_method_85_code 25 = .ok (.if_icmp .ne 5, 3) := by decide +kernel
theorem dM_found_28 : decode prog_14_method_85_code 28 = .ok (.iconst 0, 1) := by decide +kernel
theorem dM_found_29 : decode prog_14_method_85_code 29 = .ok (.ireturn, 1) := by decide +kernel
theorem dM_found_30 : decode prog_14_method_85_code 30 = .ok (.aload_n 0, 1) := by decide +kernel
theorem dM_found_31 : decode prog_14_method_85_code 31 = .ok (.getfield 53, 3) := by decide +kernel
theorem dM_found_34 : decode prog_14_method_85_code 34 = .ok (.iload_n 1, 1) := by decide +kernel
theorem dM_found_35 : decode prog_14_method_85_code 35 = .ok (.aload_n 0, 1) := by decide +kernel
theorem dM_found_36 : decode prog_14_method_85_code 36 = .ok (.getfield 216, 3) := by decide +kernel
theorem dM_found_39 : decode prog_14_method_85_code 39 = .ok (.iastore, 1) := by decide +kernel
theorem dM_found_40 : decode prog_14_method_85_code 40 = .ok (.iconst 1, 1) := by decide +kernel
theorem dM_found_41 : decode prog_14_method_85_code 41 = .ok (.ireturn, 1) := by decide +kernel
theorem dM_fund_0 : decode prog_14_method_19_code 0 = .ok (.iload_n 1, 1) := by decide +kernel
theorem dM_fund_1 : decode prog_14_method_19_code 1 = .ok (.i2l, 1) := by decide +kernel
theorem dM_fund_2 : decode prog_14_method_19_code 2 = .ok (.lconst 0, 1) := by decide +kernel
theorem dM_fund_3 : decode prog_14_method_19_code 3 = .ok (.ldc2_w 278, 3) := by decide +kernel
theorem dM_fund_6 : decode prog_14_method_19_code 6 = .ok (.invokestatic 222, 3) := by decide +kernel
theorem dM_fund_9 : decode prog_14_method_19_code 9 = .ok (.ifCond .eq 18, 3) := by decide +kernel
theorem dM_fund_12 : decode prog_14_method_19_code 12 = .ok (.aload_n 0, 1) := by decide +kernel
theorem dM_fund_13 : decode prog_14_method_19_code 13 = .ok (.getfield 275, 3) := by decide +kernel
theorem dM_fund_16 : decode prog_14_method_19_code 16 = .ok (.iconst 4, 1) := by decide +kernel
theorem dM_fund_17 : decode prog_14_method_19_code 17 = .ok (.if_icmp .eq 10, 3) := by decide +kernel
theorem dM_fund_20 : decode prog_14_method_19_code 20 = .ok (.aload_n 0, 1) := by decide +kernel
theorem dM_fund_21 : decode prog_14_method_19_code 21 = .ok (.getfield 216, 3) := by decide +kernel
theorem dM_fund_24 : decode prog_14_method_19_code 24 = .ok (.ifCond .eq 5, 3) := by decide +kernel
theorem dM_fund_27 : decode prog_14_method_19_code 27 = .ok (.iconst (-1), 1) := by decide +kernel
theorem dM_fund_28 : decode prog_14_method_19_code 28 = .ok (.ireturn, 1) := by decide +kernel
theorem dM_fund_29 : decode prog_14_method_19_code 29 = .ok (.aload_n 0, 1) := by decide +kernel
theorem dM_fund_30 : decode prog_14_method_19_code 30 = .ok (.getfield 44, 3) := by decide +kernel
theorem dM_fund_33 : decode prog_14_method_19_code 33 = .ok (.aload_n 0, 1) := by decide +kernel
theorem dM_fund_34 : decode prog_14_method_19_code 34 = .ok (.getfield 275, 3) := by decide +kernel
theorem dM_fund_37 : decode prog_14_method_19_code 37 = .ok (.iload_n 1, 1) := by decide +kernel
theorem dM_fund_38 : decode prog_14_method_19_code 38 = .ok (.iastore, 1) := by decide +kernel
theorem dM_fund_39 : decode prog_14_method_19_code 39 = .ok (.aload_n 0, 1) := by decide +kernel
theorem dM_fund_40 : decode prog_14_method_19_code 40 = .ok (.getfield 53, 3) := by decide +kernel
theorem dM_fund_43 : decode prog_14_method_19_code 43 = .ok (.aload_n 0, 1) := by decide +kernel
theorem dM_fund_44 : decode prog_14_method_19_code 44 = .ok (.getfield 275, 3) := by decide +kernel
theorem dM_fund_47 : decode prog_14_method_19_code 47 = .ok (.iconst (-1), 1) := by decide +kernel
theorem dM_fund_48 : decode prog_14_method_19_code 48 = .ok (.iastore, 1) := by decide +kernel
theorem dM_fund_49 : decode prog_14_method_19_code 49 = .ok (.aload_n 0, 1) := by decide +kernel
theorem dM_fund_50 : decode prog_14_method_19_code 50 = .ok (.dup, 1) := by decide +kernel
theorem dM_fund_51 : decode prog_14_method_19_code 51 = .ok (.getfield 275, 3) := by decide +kernel
theorem dM_fund_54 : decode prog_14_method_19_code 54 = .ok (.iconst 1, 1) := by decide +kernel
theorem dM_fund_55 : decode prog_14_method_19_code 55 = .ok (.iadd, 1) := by decide +kernel
theorem dM_fund_56 : decode prog_14_method_19_code 56 = .ok (.putfield 275, 3) := by decide +kernel
theorem dM_fund_59 : decode prog_14_method_19_code 59 = .ok (.aload_n 0, 1) := by decide +kernel
theorem dM_fund_60 : decode prog_14_method_19_code 60 = .ok (.getfield 275, 3) := by decide +kernel
theorem dM_fund_63 : decode prog_14_method_19_code 63 = .ok (.iconst 1, 1) := by decide +kernel
theorem dM_fund_64 : decode prog_14_method_19_code 64 = .ok (.isub, 1) := by decide +kernel
theorem dM_fund_65 : decode prog_14_method_19_code 65 = .ok (.ireturn, 1) := by decide +kernel
theorem dM_gains_0 : decode prog_14_method_39_code 0 = .ok (.aload_n 0, 1) := by decide +kernel
theorem dM_gains_1 : decode prog_14_method_39_code 1 = .ok (.invokevirtual 338, 3) := by decide +kernel
theorem dM_gains_4 : decode prog_14_method_39_code 4 = .ok (.aload_n 0, 1) := by decide +kernel
theorem dM_gains_5 : decode prog_14_method_39_code 5 = .ok (.ldc_w 400, 3) := by decide +kernel
theorem dM_gains_8 : decode prog_14_method_39_code 8 = .ok (.invokevirtual 357, 3) := by decide +kernel
theorem dM_gains_11 : decode prog_14_method_39_code 11 = .ok (.ifCond .eq 12, 3) := by decide +kernel
theorem dM_gains_14 : decode prog_14_method_39_code 14 = .ok (.aload_n 0, 1) := by decide +kernel
theorem dM_gains_15 : decode prog_14_method_39_code 15 = .ok (.iload_n 1, 1) := by decide +kernel
theorem dM_gains_16 : decode prog_14_method_39_code 16 = .ok (.bipush 7, 2) := by decide +kernel
theorem dM_gains_18 : decode prog_14_method_39_code 18 = .ok (.iconst (-1), 1) := by decide +kernel
theorem dM_gains_19 : decode prog_14_method_39_code 19 = .ok (.invokevirtual 362, 3) := by decide +kernel
theorem dM_gains_22 : decode prog_14_method_39_code 22 = .ok (.return_, 1) := by decide +kernel
theorem dM_gains_23 : decode prog_14_method_39_code 23 = .ok (.aload_n 0, 1) := by decide +kernel
theorem dM_gains_24 : decode prog_14_method_39_code 24 = .ok (.ldc_w 402, 3) := by decide +kernel
theorem dM_gains_27 : decode prog_14_method_39_code 27 = .ok (.invokevirtual 370, 3) := by decide +kernel
theorem dM_gains_30 : decode prog_14_method_39_code 30 = .ok (.aload_n 0, 1) := by decide +kernel
theorem dM_gains_31 : decode prog_14_method_39_code 31 = .ok (.ldc_w 378, 3) := by decide +kernel
theorem dM_gains_34 : decode prog_14_method_39_code 34 = .ok (.invokevirtual 370, 3) := by decide +kernel
theorem dM_gains_37 : decode prog_14_method_39_code 37 = .ok (.aload_n 0, 1) := by decide +kernel
theorem dM_gains_38 : decode prog_14_method_39_code 38 = .ok (.iload_n 1, 1) := by decide +kernel
theorem dM_gains_39 : decode prog_14_method_39_code 39 = .ok (.bipush 7, 2) := by decide +kernel
theorem dM_gains_41 : decode prog_14_method_39_code 41 = .ok (.aload_n 0, 1) := by decide +kernel
theorem dM_gains_42 : decode prog_14_method_39_code 42 = .ok (.ldc_w 382, 3) := by decide +kernel
theorem dM_gains_45 : decode prog_14_method_39_code 45 = .ok (.invokevirtual 360, 3) := by decide +kernel
theorem dM_gains_48 : decode prog_14_method_39_code 48 = .ok (.invokevirtual 362, 3) := by decide +kernel
theorem dM_gains_51 : decode prog_14_method_39_code 51 = .ok (.return_, 1) := by decide +kernel
theorem dM_go_0 : decode prog_14_method_60_code 0 = .ok (.iload_n 1, 1) := by decide +kernel
theorem dM_go_1 : decode prog_14_method_60_code 1 = .ok (.i2l, 1) := by decide +kernel
theorem dM_go_2 : decode prog_14_method_60_code 2 = .ok (.lconst 0, 1) := by decide +kernel
theorem dM_go_3 : decode prog_14_method_60_code 3 = .ok (.ldc2_w 474, 3) := by decide +kernel
theorem dM_go_6 : decode prog_14_method_60_code 6 = .ok (.invokestatic 222, 3) := by decide +kernel
theorem dM_go_9 : decode prog_14_method_60_code 9 = .ok (.ifCond .ne 5, 3) := by decide +kernel
theorem dM_go_12 : decode prog_14_method_60_code 12 = .ok (.iconst (-1), 1) := by decide +kernel
theorem dM_go_13 : decode prog_14_method_60_code 13 = .ok (.ireturn, 1) := by decide +kernel
theorem dM_go_14 : decode prog_14_method_60_code 14 = .ok (.iconst 0, 1) := by decide +kernel
theorem dM_go_15 : decode prog_14_method_60_code 15 = .ok (.istore_n 2, 1) := by decide +kernel
theorem dM_go_16 : decode prog_14_method_60_code 16 = .ok (.iload_n 2, 1) := by decide +kernel
theorem dM_go_17 : decode prog_14_method_60_code 17 = .ok (.iload_n 1, 1) := by decide +kernel
theorem dM_go_18 : decode prog_14_method_60_code 18 = .ok (.if_icmp .ge 33, 3) := by decide +kernel
theorem dM_go_21 : decode prog_14_method_60_code 21 = .ok (.aload_n 0, 1) := by decide +kernel
theorem dM_go_22 : decode prog_14_method_60_code 22 = .ok (.getfield 216, 3) := by decide +kernel
theorem dM_go_25 : decode prog_14_method_60_code 25 = .ok (.sipush 260, 3) := by decide +kernel
theorem dM_go_28 : decode prog_14_method_60_code 28 = .ok (.if_icmp .ge 23, 3) := by decide +kernel
theorem dM_go_31 : decode prog_14_method_60_code 31 = .ok (.aload_n 0, 1) := by decide +kernel
theorem dM_go_32 : decode prog_14_method_60_code 32 = .ok (.invokevirtual 476, 3) := by decide +kernel
theorem dM_go_35 : decode prog_14_method_60_code 35 = .ok (.aload_n 0, 1) := by decide +kernel
theorem dM_go_36 : decode prog_14_method_60_code 36 = .ok (.dup, 1) := by decide +kernel
theorem dM_go_37 : decode prog_14_method_60_code 37 = .ok (.getfield 216, 3) := by decide +kernel
theorem dM_go_40 : decode prog_14_method_60_code 40 = .ok (.iconst 1, 1) := by decide +kernel
theorem dM_go_41 : decode prog_14_method_60_code 41 = .ok (.iadd, 1) := by decide +kernel
theorem dM_go_42 : decode prog_14_method_60_code 42 = .ok (.putfield 216, 3) := by decide +kernel
theorem dM_go_45 : decode prog_14_method_60_code 45 = .ok (.iinc 2 1, 3) := by decide +kernel
theorem dM_go_48 : decode prog_14_method_60_code 48 = .ok (.goto (-32), 3) := by decide +kernel
theorem dM_go_51 : decode prog_14_method_60_code 51 = .ok (.aload_n 0, 1) := by decide +kernel
theorem dM_go_52 : decode prog_14_method_60_code 52 = .ok (.getfield 216, 3) := by decide +kernel
theorem dM_go_55 : decode prog_14_method_60_code 55 = .ok (.ireturn, 1) := by decide +kernel
theorem dM_goesThrough_0 : decode prog_14_method_57_code 0 = .ok (.iload_n 2, 1) := by decide +kernel
theorem dM_goesThrough_1 : decode prog_14_method_57_code 1 = .ok (.iconst 1, 1) := by decide +kernel
theorem dM_goesThrough_2 : decode prog_14_method_57_code 2 = .ok (.if_icmp .ne 12, 3) := by decide +kernel
theorem dM_goesThrough_5 : decode prog_14_method_57_code 5 = .ok (.iload_n 1, 1) := by decide +kernel
theorem dM_goesThrough_6 : decode prog_14_method_57_code 6 = .ok (.iload_n 3, 1) := by decide +kernel
theorem dM_goesThrough_7 : decode prog_14_method_57_code 7 = .ok (.if_icmp .ne 7, 3) := by decide +kernel
theorem dM_goesThrough_10 : decode prog_14_method_57_code 10 = .ok (.iconst 1, 1) := by decide +kernel
theorem dM_goesThrough_11 : decode prog_14_method_57_code 11 = .ok (.goto 4, 3) := by decide +kernel
theorem dM_goesThrough_14 : decode prog_14_method_57_code 14 = .ok (.iconst 0, 1) := by decide +kernel
theorem dM_goesThrough_15 : decode prog_14_method_57_code 15 = .ok (.istore 4, 2) := by decide +kernel
theorem dM_goesThrough_17 : decode prog_14_method_57_code 17 = .ok (.iload_n 2, 1) := by decide +kernel
theorem dM_goesThrough_18 : decode prog_14_method_57_code 18 = .ok (.ifCond .eq 12, 3) := by decide +kernel
theorem dM_goesThrough_21 : decode prog_14_method_57_code 21 = .ok (.iload 4, 2) := by decide +kernel
theorem dM_goesThrough_23 : decode prog_14_method_57_code 23 = .ok (.ifCond .ne 7, 3) := by decide +kernel
theorem dM_goesThrough_26 : decode prog_14_method_57_code 26 = .ok (.iconst 1, 1) := by decide +kernel
theorem dM_goesThrough_27 : decode prog_14_method_57_code 27 = .ok (.goto 4, 3) := by decide +kernel
theorem dM_goesThrough_30 : decode prog_14_method_57_code 30 = .ok (.iconst 0, 1) := by decide +kernel
theorem dM_goesThrough_31 : decode prog_14_method_57_code 31 = .ok (.istore 5, 2) := by decide +kernel
theorem dM_goesThrough_33 : decode prog_14_method_57_code 33 = .ok (.iconst 0, 1) := by decide +kernel
theorem dM_goesThrough_34 : decode prog_14_method_57_code 34 = .ok (.istore 6, 2) := by decide +kernel
theorem dM_goesThrough_36 : decode prog_14_method_57_code 36 = .ok (.iload 6, 2) := by decide +kernel
theorem dM_goesThrough_38 : decode prog_14_method_57_code 38 = .ok (.aload_n 0, 1) := by decide +kernel
theorem dM_goesThrough_39 : decode prog_14_method_57_code 39 = .ok (.getfield 275, 3) := by decide +kernel
theorem dM_goesThrough_42 : decode prog_14_method_57_code 42 = .ok (.if_icmp .ge 81, 3) := by decide +kernel
theorem dM_goesThrough_45 : decode prog_14_method_57_code 45 = .ok (.aload_n 0, 1) := by decide +kernel
theorem dM_goesThrough_46 : decode prog_14_method_57_code 46 = .ok (.iload 6, 2) := by decide +kernel
theorem dM_goesThrough_48 : decode prog_14_method_57_code 48 = .ok (.iload_n 1, 1) := by decide +kernel
theorem dM_goesThrough_49 : decode prog_14_method_57_code 49 = .ok (.invokevirtual 449, 3) := by decide +kernel
theorem dM_goesThrough_52 : decode prog_14_method_57_code 52 = .ok (.aload_n 0, 1) := by decide +kernel
theorem dM_goesThrough_53 : decode prog_14_method_57_code 53 = .ok (.iload 6, 2) := by decide +kernel
theorem dM_goesThrough_55 : decode prog_14_method_57_code 55 = .ok (.iload_n 1, 1) := by decide +kernel
theorem dM_goesThrough_56 : decode prog_14_method_57_code 56 = .ok (.invokevirtual 453, 3) := by decide +kernel
theorem dM_goesThrough_59 : decode prog_14_method_57_code 59 = .ok (.aload_n 0, 1) := by decide +kernel
theorem dM_goesThrough_60 : decode prog_14_method_57_code 60 = .ok (.iload_n 1, 1) := by decide +kernel
theorem dM_goesThrough_61 : decode prog_14_method_57_code 61 = .ok (.invokevirtual 229, 3) := by decide +kernel
theorem dM_goesThrough_64 : decode prog_14_method_57_code 64 = .ok (.ifCond .ne 6, 3) := by decide +kernel
theorem dM_goesThrough_67 : decode prog_14_method_57_code 67 = .ok (.goto 50, 3) := by decide +kernel
theorem dM_goesThrough_70 : decode prog_14_method_57_code 70 = .ok (.iload 5, 2) := by decide +kernel
theorem dM_goesThrough_72 : decode prog_14_method_57_code 72 = .ok (.ifCond .eq 25, 3) := by decide +kernel
theorem dM_goesThrough_75 : decode prog_14_method_57_code 75 = .ok (.aload_n 0, 1) := by decide +kernel
theorem dM_goesThrough_76 : decode prog_14_method_57_code 76 = .ok (.getfield 137, 3) := by decide +kernel
theorem dM_goesThrough_79 : decode prog_14_method_57_code 79 = .ok (.iload 6, 2) := by decide +kernel
theorem dM_goesThrough_81 : decode prog_14_method_57_code 81 = .ok (.dup2, 1) := by decide +kernel
theorem dM_goesThrough_82 : decode prog_14_method_57_code 82 = .ok (.laload, 1) := by decide +kernel
theorem dM_goesThrough_83 : decode prog_14_method_57_code 83 = .ok (.aload_n 0, 1) := by decide +kernel
theorem dM_goesThrough_84 : decode prog_14_method_57_code 84 = .ok (.getfield 163, 3) := by decide +kernel
theorem dM_goesThrough_87 : decode prog_14_method_57_code 87 = .ok (.iload 6, 2) := by decide +kernel
theorem dM_goesThrough_89 : decode prog_14_method_57_code 89 = .ok (.aaload, 1) := by decide +kernel
theorem dM_goesThrough_90 : decode prog_14_method_57_code 90 = .ok (.iload_n 1, 1) := by decide +kernel
theorem dM_goesThrough_91 : decode prog_14_method_57_code 91 = .ok (.laload, 1) := by decide +kernel
theorem dM_goesThrough_92 : decode prog_14_method_57_code 92 = .ok (.lsub, 1) := by decide +kernel
theorem dM_goesThrough_93 : decode prog_14_method_57_code 93 = .ok (.lastore, 1) := by decide +kernel
theorem dM_goesThrough_94 : decode prog_14_method_57_code 94 = .ok (.goto 12, 3) := by decide +kernel
theorem dM_goesThrough_97 : decode prog_14_method_57_code 97 = .ok (.aload_n 0, 1) := by decide +kernel
theorem dM_goesThrough_98 : decode prog_14_method_57_code 98 = .ok (.iload 6, 2) := by decide +kernel
theorem dM_goesThrough_100 : decode prog_14_method_57_code 100 = .ok (.iload_n 1, 1) := by decide +kernel
theorem dM_goesThrough_101 : decode prog_14_method_57_code 101 = .ok (.iload 4, 2) := by decide +kernel
theorem dM_goesThrough_103 : decode prog_14_method_57_code 103 = .ok (.invokevirtual 455, 3) := by decide +kernel
theorem dM_goesThrough_106 : decode prog_14_method_57_code 106 = .ok (.aload_n 0, 1) := by decide +kernel
theorem dM_goesThrough_107 : decode prog_14_method_57_code 107 = .ok (.iload 6, 2) := by decide +kernel
theorem dM_goesThrough_109 : decode prog_14_method_57_code 109 = .ok (.iload_n 1, 1) := by decide +kernel
theorem dM_goesThrough_110 : decode prog_14_method_57_code 110 = .ok (.iload 5, 2) := by decide +kernel
theorem dM_goesThrough_112 : decode prog_14_method_57_code 112 = .ok (.iload 4, 2) := by decide +kernel
theorem dM_goesThrough_114 : decode prog_14_method_57_code 114 = .ok (.invokevirtual 459, 3) := by decide +kernel
theorem dM_goesThrough_117 : decode prog_14_method_57_code 117 = .ok (.iinc 6 1, 3) := by decide +kernel
theorem dM_goesThrough_120 : decode prog_14_method_57_code 120 = .ok (.goto (-84), 3) := by decide +kernel
theorem dM_goesThrough_123 : decode prog_14_method_57_code 123 = .ok (.return_, 1) := by decide +kernel
theorem dM_goesTo_0 : decode prog_14_method_78_code 0 = .ok (.aload_n 0, 1) := by decide +kernel
theorem dM_goesTo_1 : decode prog_14_method_78_code 1 = .ok (.getfield 181, 3) := by decide +kernel
theorem dM_goesTo_4 : decode prog_14_method_78_code 4 = .ok (.iload_n 2, 1) := by decide +kernel
theorem dM_goesTo_5 : decode prog_14_method_78_code 5 = .ok (.iaload, 1) := by decide +kernel
theorem dM_goesTo_6 : decode prog_14_method_78_code 6 = .ok (.iconst 1, 1) := by decide +kernel
theorem dM_goesTo_7 : decode prog_14_method_78_code 7 = .ok (.if_icmp .ne 14, 3) := by decide +kernel
theorem dM_goesTo_10 : decode prog_14_method_78_code 10 = .ok (.aload_n 0, 1) := by decide +kernel
theorem dM_goesTo_11 : decode prog_14_method_78_code 11 = .ok (.iload_n 1, 1) := by decide +kernel
theorem dM_goesTo_12 : decode prog_14_method_78_code 12 = .ok (.iload_n 3, 1) := by decide +kernel
theorem dM_goesTo_13 : decode prog_14_method_78_code 13 = .ok (.bipush 6, 2) := by decide +kernel
theorem dM_goesTo_15 : decode prog_14_method_78_code 15 = .ok (.invokevirtual 305, 3) := by decide +kernel
theorem dM_goesTo_18 : decode prog_14_method_78_code 18 = .ok (.goto 25, 3) := by decide +kernel
theorem dM_goesTo_21 : decode prog_14_method_78_code 21 = .ok (.aload_n 0, 1) := by decide +kernel
theorem dM_goesTo_22 : decode prog_14_method_78_code 22 = .ok (.getfield 181, 3) := by decide +kernel
theorem dM_goesTo_25 : decode prog_14_method_78_code 25 = .ok (.iload_n 2, 1) := by decide +kernel
theorem dM_goesTo_26 : decode prog_14_method_78_code 26 = .ok (.iaload, 1) := by decide +kernel
theorem dM_goesTo_27 : decode prog_14_method_78_code 27 = .ok (.iconst 3, 1) := by decide +kernel
theorem dM_goesTo_28 : decode prog_14_method_78_code 28 = .ok (.if_icmp .ne 14, 3) := by decide +kernel
theorem dM_goesTo_31 : decode prog_14_method_78_code 31 = .ok (.aload_n 0, 1) := by decide +kernel
theorem dM_goesTo_32 : decode prog_14_method_78_code 32 = .ok (.iload_n 1, 1) := by decide +kernel
theorem dM_goesTo_33 : decode prog_14_method_78_code 33 = .ok (.iload_n 3, 1) := by decide +kernel
theorem dM_goesTo_34 : decode prog_14_method_78_code 34 = .ok (.bipush 9, 2) := by decide +kernel
theorem dM_goesTo_36 : decode prog_14_method_78_code 36 = .ok (.invokevirtual 305, 3) := by decide +kernel
theorem dM_goesTo_39 : decode prog_14_method_78_code 39 = .ok (.goto 4, 3) := by decide +kernel
theorem dM_goesTo_42 : decode prog_14_method_78_code 42 = .ok (.iconst (-1), 1) := by decide +kernel
theorem dM_goesTo_43 : decode prog_14_method_78_code 43 = .ok (.ireturn, 1) := by decide +kernel
theorem dM_gone_0 : decode prog_14_method_84_code 0 = .ok (.iload_n 1, 1) := by decide +kernel
theorem dM_gone_1 : decode prog_14_method_84_code 1 = .ok (.i2l, 1) := by decide +kernel
theorem dM_gone_2 : decode prog_14_method_84_code 2 = .ok (.lconst 0, 1) := by decide +kernel
theorem dM_gone_3 : decode prog_14_method_84_code 3 = .ok (.aload_n 0, 1) := by decide +kernel
theorem dM_gone_4 : decode prog_14_method_84_code 4 = .ok (.getfield 284, 3) := by decide +kernel
theorem dM_gone_7 : decode prog_14_method_84_code 7 = .ok (.iconst 1, 1) := by decide +kernel
theorem dM_gone_8 : decode prog_14_method_84_code 8 = .ok (.isub, 1) := by decide +kernel
theorem dM_gone_9 : decode prog_14_method_84_code 9 = .ok (.i2l, 1) := by decide +kernel
theorem dM_gone_10 : decode prog_14_method_84_code 10 = .ok (.invokestatic 222, 3) := by decide +kernel
theorem dM_gone_13 : decode prog_14_method_84_code 13 = .ok (.ifCond .eq 13, 3) := by decide +kernel
theorem dM_gone_16 : decode prog_14_method_84_code 16 = .ok (.aload_n 0, 1) := by decide +kernel
theorem dM_gone_17 : decode prog_14_method_84_code 17 = .ok (.getfield 50, 3) := by decide +kernel
theorem dM_gone_20 : decode prog_14_method_84_code 20 = .ok (.iload_n 1, 1) := by decide +kernel
theorem dM_gone_21 : decode prog_14_method_84_code 21 = .ok (.iaload, 1) := by decide +kernel
theorem dM_gone_22 : decode prog_14_method_84_code 22 = .ok (.iconst (-1), 1) := by decide +kernel
theorem dM_gone_23 : decode prog_14_method_84_code 23 = .ok (.if_icmp .eq 5, 3) := by decide +kernel
theorem dM_gone_26 : decode prog_14_method_84_code 26 = .ok (.iconst 0, 1) := by decide +kernel
theorem dM_gone_27 : decode prog_14_method_84_code 27 = .ok (.ireturn, 1) := by decide +kernel
theorem dM_gone_28 : decode prog_14_method_84_code 28 = .ok (.aload_n 0, 1) := by decide +kernel
theorem dM_gone_29 : decode prog_14_method_84_code 29 = .ok (.getfield 50, 3) := by decide +kernel
theorem dM_gone_32 : decode prog_14_method_84_code 32 = .ok (.iload_n 1, 1) := by decide +kernel
theorem dM_gone_33 : decode prog_14_method_84_code 33 = .ok (.aload_n 0, 1) := by decide +kernel
theorem dM_gone_34 : decode prog_14_method_84_code 34 = .ok (.getfield 216, 3) := by decide +kernel
theorem dM_gone_37 : decode prog_14_method_84_code 37 = .ok (.iastore, 1) := by decide +kernel
theorem dM_gone_38 : decode prog_14_method_84_code 38 = .ok (.iconst 1, 1) := by decide +kernel
theorem dM_gone_39 : decode prog_14_method_84_code 39 = .ok (.ireturn, 1) := by decide +kernel
theorem dM_holder_0 : decode prog_14_method_20_code 0 = .ok (.iload_n 1, 1) := by decide +kernel
theorem dM_holder_1 : decode prog_14_method_20_code 1 = .ok (.i2l, 1) := by decide +kernel
theorem dM_holder_2 : decode prog_14_method_20_code 2 = .ok (.ldc2_w 280, 3) := by decide +kernel
theorem dM_holder_5 : decode prog_14_method_20_code 5 = .ok (.ldc2_w 282, 3) := by decide +kernel
theorem dM_holder_8 : decode prog_14_method_20_code 8 = .ok (.invokestatic 222, 3) := by decide +kernel
theorem dM_holder_11 : decode prog_14_method_20_code 11 = .ok (.ifCond .eq 12, 3) := by decide +kernel
theorem dM_holder_14 : decode prog_14_method_20_code 14 = .ok (.aload_n 0, 1) := by decide +kernel
theorem dM_holder_15 : decode prog_14_method_20_code 15 = .ok (.getfield 284, 3) := by decide +kernel
theorem dM_holder_18 : decode prog_14_method_20_code 18 = .ok (.bipush 16, 2) := by decide +kernel
theorem dM_holder_20 : decode prog_14_method_20_code 20 = .ok (.if_icmp .ne 5, 3) := by decide +kernel
theorem dM_holder_23 : decode prog_14_method_20_code 23 = .ok (.iconst (-1), 1) := by decide +kernel
theorem dM_holder_24 : decode prog_14_method_20_code 24 = .ok (.ireturn, 1) := by decide +kernel
theorem dM_holder_25 : decode prog_14_method_20_code 25 = .ok (.aload_n 0, 1) := by decide +kernel
theorem dM_holder_26 : decode prog_14_method_20_code 26 = .ok (.getfield 47, 3) := by decide +kernel
theorem dM_holder_29 : decode prog_14_method_20_code 29 = .ok (.aload_n 0, 1) := by decide +kernel
theorem dM_holder_30 : decode prog_14_method_20_code 30 = .ok (.getfield 284, 3) := by decide +kernel
theorem dM_holder_33 : decode prog_14_method_20_code 33 = .ok (.iload_n 1, 1) := by decide +kernel
theorem dM_holder_34 : decode prog_14_method_20_code 34 = .ok (.iastore, 1) := by decide +kernel
theorem dM_holder_35 : decode prog_14_method_20_code 35 = .ok (.aload_n 0, 1) := by decide +kernel
theorem dM_holder_36 : decode prog_14_method_20_code 36 = .ok (.getfield 50, 3) := by decide +kernel
theorem dM_holder_39 : decode prog_14_method_20_code 39 = .ok (.aload_n 0, 1) := by decide +kernel
theorem dM_holder_40 : decode prog_14_method_20_code 40 = .ok (.getfield 284, 3) := by decide +kernel
theorem dM_holder_43 : decode prog_14_method_20_code 43 = .ok (.iconst (-1), 1) := by decide +kernel
theorem dM_holder_44 : decode prog_14_method_20_code 44 = .ok (.iastore, 1) := by decide +kernel
theorem dM_holder_45 : decode prog_14_method_20_code 45 = .ok (.aload_n 0, 1) := by decide +kernel
theorem dM_holder_46 : decode prog_14_method_20_code 46 = .ok (.dup, 1) := by decide +kernel
theorem dM_holder_47 : decode prog_14_method_20_code 47 = .ok (.getfield 284, 3) := by decide +kernel
theorem dM_holder_50 : decode prog_14_method_20_code 50 = .ok (.iconst 1, 1) := by decide +kernel
theorem dM_holder_51 : decode prog_14_method_20_code 51 = .ok (.iadd, 1) := by decide +kernel
theorem dM_holder_52 : decode prog_14_method_20_code 52 = .ok (.putfield 284, 3) := by decide +kernel
theorem dM_holder_55 : decode prog_14_method_20_code 55 = .ok (.aload_n 0, 1) := by decide +kernel
theorem dM_holder_56 : decode prog_14_method_20_code 56 = .ok (.getfield 284, 3) := by decide +kernel
theorem dM_holder_59 : decode prog_14_method_20_code 59 = .ok (.iconst 1, 1) := by decide +kernel
theorem dM_holder_60 : decode prog_14_method_20_code 60 = .ok (.isub, 1) := by decide +kernel
theorem dM_holder_61 : decode prog_14_method_20_code 61 = .ok (.ireturn, 1) := by decide +kernel
theorem dM_holiday_0 : decode prog_14_method_7_code 0 = .ok (.iload_n 1, 1) := by decide +kernel
theorem dM_holiday_1 : decode prog_14_method_7_code 1 = .ok (.i2l, 1) := by decide +kernel
theorem dM_holiday_2 : decode prog_14_method_7_code 2 = .ok (.aload_n 0, 1) := by decide +kernel
theorem dM_holiday_3 : decode prog_14_method_7_code 3 = .ok (.getfield 216, 3) := by decide +kernel
theorem dM_holiday_6 : decode prog_14_method_7_code 6 = .ok (.iconst 1, 1) := by decide +kernel
theorem dM_holiday_7 : decode prog_14_method_7_code 7 = .ok (.iadd, 1) := by decide +kernel
theorem dM_holiday_8 : decode prog_14_method_7_code 8 = .ok (.i2l, 1) := by decide +kernel
theorem dM_holiday_9 : decode prog_14_method_7_code 9 = .ok (.ldc2_w 220, 3) := by decide +kernel
theorem dM_holiday_12 : decode prog_14_method_7_code 12 = .ok (.invokestatic 222, 3) := by decide +kernel
theorem dM_holiday_15 : decode prog_14_method_7_code 15 = .ok (.ifCond .eq 12, 3) := by decide +kernel
theorem dM_holiday_18 : decode prog_14_method_7_code 18 = .ok (.aload_n 0, 1) := by decide +kernel
theorem dM_holiday_19 : decode prog_14_method_7_code 19 = .ok (.getfield 9, 3) := by decide +kernel
theorem dM_holiday_22 : decode prog_14_method_7_code 22 = .ok (.iload_n 1, 1) := by decide +kernel
theorem dM_holiday_23 : decode prog_14_method_7_code 23 = .ok (.baload, 1) := by decide +kernel
theorem dM_holiday_24 : decode prog_14_method_7_code 24 = .ok (.ifCond .eq 5, 3) := by decide +kernel
theorem dM_holiday_27 : decode prog_14_method_7_code 27 = .ok (.iconst 0, 1) := by decide +kernel
theorem dM_holiday_28 : decode prog_14_method_7_code 28 = .ok (.ireturn, 1) := by decide +kernel
theorem dM_holiday_29 : decode prog_14_method_7_code 29 = .ok (.aload_n 0, 1) := by decide +kernel
theorem dM_holiday_30 : decode prog_14_method_7_code 30 = .ok (.getfield 9, 3) := by decide +kernel
theorem dM_holiday_33 : decode prog_14_method_7_code 33 = .ok (.iload_n 1, 1) := by decide +kernel
theorem dM_holiday_34 : decode prog_14_method_7_code 34 = .ok (.iconst 1, 1) := by decide +kernel
theorem dM_holiday_35 : decode prog_14_method_7_code 35 = .ok (.bastore, 1) := by decide +kernel
theorem dM_holiday_36 : decode prog_14_method_7_code 36 = .ok (.aload_n 0, 1) := by decide +kernel
theorem dM_holiday_37 : decode prog_14_method_7_code 37 = .ok (.dup, 1) := by decide +kernel
theorem dM_holiday_38 : decode prog_14_method_7_code 38 = .ok (.getfield 226, 3) := by decide +kernel
theorem dM_holiday_41 : decode prog_14_method_7_code 41 = .ok (.iconst 1, 1) := by decide +kernel
theorem dM_holiday_42 : decode prog_14_method_7_code 42 = .ok (.iadd, 1) := by decide +kernel
theorem dM_holiday_43 : decode prog_14_method_7_code 43 = .ok (.putfield 226, 3) := by decide +kernel
theorem dM_holiday_46 : decode prog_14_method_7_code 46 = .ok (.iconst 1, 1) := by decide +kernel
theorem dM_holiday_47 : decode prog_14_method_7_code 47 = .ok (.ireturn, 1) := by decide +kernel
theorem dM_house_0 : decode prog_14_method_80_code 0 = .ok (.aload_n 0, 1) := by decide +kernel
theorem dM_house_1 : decode prog_14_method_80_code 1 = .ok (.iload_n 1, 1) := by decide +kernel
theorem dM_house_2 : decode prog_14_method_80_code 2 = .ok (.invokevirtual 287, 3) := by decide +kernel
theorem dM_house_5 : decode prog_14_method_80_code 5 = .ok (.ifCond .eq 11, 3) := by decide +kernel
theorem dM_house_8 : decode prog_14_method_80_code 8 = .ok (.aload_n 0, 1) := by decide +kernel
theorem dM_house_9 : decode prog_14_method_80_code 9 = .ok (.iload_n 2, 1) := by decide +kernel
theorem dM_house_10 : decode prog_14_method_80_code 10 = .ok (.invokevirtual 508, 3) := by decide +kernel
theorem dM_house_13 : decode prog_14_method_80_code 13 = .ok (.ifCond .ne 7, 3) := by decide +kernel
theorem dM_house_16 : decode prog_14_method_80_code 16 = .ok (.ldc_w 266, 3) := by decide +kernel
theorem dM_house_19 : decode prog_14_method_80_code 19 = .ok (.ireturn, 1) := by decide +kernel
theorem dM_house_20 : decode prog_14_method_80_code 20 = .ok (.aload_n 0, 1) := by decide +kernel
theorem dM_house_21 : decode prog_14_method_80_code 21 = .ok (.iload_n 1, 1) := by decide +kernel
theorem dM_house_22 : decode prog_14_method_80_code 22 = .ok (.iload_n 2, 1) := by decide +kernel
theorem dM_house_23 : decode prog_14_method_80_code 23 = .ok (.invokevirtual 511, 3) := by decide +kernel
theorem dM_house_26 : decode prog_14_method_80_code 26 = .ok (.aload_n 0, 1) := by decide +kernel
theorem dM_house_27 : decode prog_14_method_80_code 27 = .ok (.iload_n 1, 1) := by decide +kernel
theorem dM_house_28 : decode prog_14_method_80_code 28 = .ok (.iload_n 2, 1) := by decide +kernel
theorem dM_house_29 : decode prog_14_method_80_code 29 = .ok (.invokevirtual 516, 3) := by decide +kernel
theorem dM_house_32 : decode prog_14_method_80_code 32 = .ok (.invokestatic 482, 3) := by decide +kernel
theorem dM_house_35 : decode prog_14_method_80_code 35 = .ok (.ireturn, 1) := by decide +kernel
theorem dM_houseOwes_0 : decode prog_14_method_79_code 0 = .ok (.aload_n 0, 1) := by decide +kernel
theorem dM_houseOwes_1 : decode prog_14_method_79_code 1 = .ok (.getfield 137, 3) := by decide +kernel
theorem dM_houseOwes_4 : decode prog_14_method_79_code 4 = .ok (.iload_n 1, 1) := by decide +kernel
theorem dM_houseOwes_5 : decode prog_14_method_79_code 5 = .ok (.laload, 1) := by decide +kernel
theorem dM_houseOwes_6 : decode prog_14_method_79_code 6 = .ok (.lstore_n 3, 1) := by decide +kernel
theorem dM_houseOwes_7 : decode prog_14_method_79_code 7 = .ok (.aload_n 0, 1) := by decide +kernel
theorem dM_houseOwes_8 : decode prog_14_method_79_code 8 = .ok (.aload_n 0, 1) := by decide +kernel
theorem dM_houseOwes_9 : decode prog_14_method_79_code 9 = .ok (.iload_n 2, 1) := by decide +kernel
theorem dM_houseOwes_10 : decode prog_14_method_79_code 10 = .ok (.invokevirtual 486, 3) := by decide +kernel
theorem dM_houseOwes_13 : decode prog_14_method_79_code 13 = .ok (.iload_n 2, 1) := by decide +kernel
theorem dM_houseOwes_14 : decode prog_14_method_79_code 14 = .ok (.iconst 2, 1) := by decide +kernel
theorem dM_houseOwes_15 : decode prog_14_method_79_code 15 = .ok (.invokevirtual 471, 3) := by decide +kernel
theorem dM_houseOwes_18 : decode prog_14_method_79_code 18 = .ok (.lload_n 3, 1) := by decide +kernel
theorem dM_houseOwes_19 : decode prog_14_method_79_code 19 = .ok (.aload_n 0, 1) := by decide +kernel
theorem dM_houseOwes_20 : decode prog_14_method_79_code 20 = .ok (.getfield 137, 3) := by decide +kernel
theorem dM_houseOwes_23 : decode prog_14_method_79_code 23 = .ok (.iload_n 1, 1) := by decide +kernel
theorem dM_houseOwes_24 : decode prog_14_method_79_code 24 = .ok (.laload, 1) := by decide +kernel
theorem dM_houseOwes_25 : decode prog_14_method_79_code 25 = .ok (.lsub, 1) := by decide +kernel
theorem dM_houseOwes_26 : decode prog_14_method_79_code 26 = .ok (.lstore 5, 2) := by decide +kernel
theorem dM_houseOwes_28 : decode prog_14_method_79_code 28 = .ok (.iconst 0, 1) := by decide +kernel
theorem dM_houseOwes_29 : decode prog_14_method_79_code 29 = .ok (.istore 7, 2) := by decide +kernel
theorem dM_houseOwes_31 : decode prog_14_method_79_code 31 = .ok (.iload 7, 2) := by decide +kernel
theorem dM_houseOwes_33 : decode prog_14_method_79_code 33 = .ok (.bipush 20, 2) := by decide +kernel
theorem dM_houseOwes_35 : decode prog_14_method_79_code 35 = .ok (.if_icmp .ge 65, 3) := by decide +kernel
theorem dM_houseOwes_38 : decode prog_14_method_79_code 38 = .ok (.aload_n 0, 1) := by decide +kernel
theorem dM_houseOwes_39 : decode prog_14_method_79_code 39 = .ok (.getfield 178, 3) := by decide +kernel
theorem dM_houseOwes_42 : decode prog_14_method_79_code 42 = .ok (.iload 7, 2) := by decide +kernel
theorem dM_houseOwes_44 : decode prog_14_method_79_code 44 = .ok (.laload, 1) := by decide +kernel
theorem dM_houseOwes_45 : decode prog_14_method_79_code 45 = .ok (.lconst 0, 1) := by decide +kernel
theorem dM_houseOwes_46 : decode prog_14_method_79_code 46 = .ok (.lcmp, 1) := by decide +kernel
theorem dM_houseOwes_47 : decode prog_14_method_79_code 47 = .ok (.ifCond .lt 35, 3) := by decide +kernel
theorem dM_houseOwes_50 : decode prog_14_method_79_code 50 = .ok (.aload_n 0, 1) := by decide +kernel
theorem dM_houseOwes_51 : decode prog_14_method_79_code 51 = .ok (.getfield 181, 3) := by decide +kernel
theorem dM_houseOwes_54 : decode prog_14_method_79_code 54 = .ok (.iload 7, 2) := by decide +kernel
theorem dM_houseOwes_56 : decode prog_14_method_79_code 56 = .ok (.iaload, 1) := by decide +kernel
theorem dM_houseOwes_57 : decode prog_14_method_79_code 57 = .ok (.ifCond .eq 25, 3) := by decide +kernel
theorem dM_houseOwes_60 : decode prog_14_method_79_code 60 = .ok (.aload_n 0, 1) := by decide +kernel
theorem dM_houseOwes_61 : decode prog_14_method_79_code 61 = .ok (.getfield 181, 3) := by decide +kernel
theorem dM_houseOwes_64 : decode prog_14_method_79_code 64 = .ok (.iload 7, 2) := by decide +kernel
theorem dM_houseOwes_66 : decode prog_14_method_79_code 66 = .ok (.iaload, 1) := by decide +kernel
theorem dM_houseOwes_67 : decode prog_14_method_79_code 67 = .ok (.iconst 2, 1) := by decide +kernel
theorem dM_houseOwes_68 : decode prog_14_method_79_code 68 = .ok (.if_icmp .eq 14, 3) := by decide +kernel
theorem dM_houseOwes_71 : decode prog_14_method_79_code 71 = .ok (.aload_n 0, 1) := by decide +kernel
theorem dM_houseOwes_72 : decode prog_14_method_79_code 72 = .ok (.iload_n 1, 1) := by decide +kernel
theorem dM_houseOwes_73 : decode prog_14_method_79_code 73 = .ok (.iload 7, 2) := by decide +kernel
theorem dM_houseOwes_75 : decode prog_14_method_79_code 75 = .ok (.iload_n 2, 1) := by decide +kernel
theorem dM_houseOwes_76 : decode prog_14_method_79_code 76 = .ok (.invokevirtual 513, 3) := by decide +kernel
theorem dM_houseOwes_79 : decode prog_14_method_79_code 79 = .ok (.ifCond .le 15, 3) := by decide +kernel
theorem dM_houseOwes_82 : decode prog_14_method_79_code 82 = .ok (.lload 5, 2) := by decide +kernel
theorem dM_houseOwes_84 : decode prog_14_method_79_code 84 = .ok (.aload_n 0, 1) := by decide +kernel
theorem dM_houseOwes_85 : decode prog_14_method_79_code 85 = .ok (.getfield 178, 3) := by decide +kernel
theorem dM_houseOwes_88 : decode prog_14_method_79_code 88 = .ok (.iload 7, 2) := by decide +kernel
theorem dM_houseOwes_90 : decode prog_14_method_79_code 90 = .ok (.laload, 1) := by decide +kernel
theorem dM_houseOwes_91 : decode prog_14_method_79_code 91 = .ok (.ladd, 1) := by decide +kernel
theorem dM_houseOwes_92 : decode prog_14_method_79_code 92 = .ok (.lstore 5, 2) := by decide +kernel
theorem dM_houseOwes_94 : decode prog_14_method_79_code 94 = .ok (.iinc 7 1, 3) := by decide +kernel
theorem dM_houseOwes_97 : decode prog_14_method_79_code 97 = .ok (.goto (-66), 3) := by decide +kernel
theorem dM_houseOwes_100 : decode prog_14_method_79_code 100 = .ok (.lload 5, 2) := by decide +kernel
theorem dM_houseOwes_102 : decode prog_14_method_79_code 102 = .ok (.lreturn, 1) := by decide +kernel
theorem dM_in_0 : decode prog_14_method_2_code 0 = .ok (.lload_n 0, 1) := by decide +kernel
theorem dM_in_1 : decode prog_14_method_2_code 1 = .ok (.lload_n 2, 1) := by decide +kernel
theorem dM_in_2 : decode prog_14_method_2_code 2 = .ok (.lcmp, 1) := by decide +kernel
theorem dM_in_3 : decode prog_14_method_2_code 3 = .ok (.ifCond .lt 14, 3) := by decide +kernel
theorem dM_in_6 : decode prog_14_method_2_code 6 = .ok (.lload_n 0, 1) := by decide +kernel
theorem dM_in_7 : decode prog_14_method_2_code 7 = .ok (.lload 4, 2) := by decide +kernel
theorem dM_in_9 : decode prog_14_method_2_code 9 = .ok (.lcmp, 1) := by decide +kernel
theorem dM_in_10 : decode prog_14_method_2_code 10 = .ok (.ifCond .gt 7, 3) := by decide +kernel
theorem dM_in_13 : decode prog_14_method_2_code 13 = .ok (.iconst 1, 1) := by decide +kernel
theorem dM_in_14 : decode prog_14_method_2_code 14 = .ok (.goto 4, 3) := by decide +kernel
theorem dM_in_17 : decode prog_14_method_2_code 17 = .ok (.iconst 0, 1) := by decide +kernel
theorem dM_in_18 : decode prog_14_method_2_code 18 = .ok (.ireturn, 1) := by decide +kernel
theorem dM_isDigit_0 : decode prog_14_method_30_code 0 = .ok (.iload_n 0, 1) := by decide +kernel
theorem dM_isDigit_1 : decode prog_14_method_30_code 1 = .ok (.bipush 48, 2) := by decide +kernel
theorem dM_isDigit_3 : decode prog_14_method_30_code 3 = .ok (.if_icmp .lt 13, 3) := by decide +kernel
theorem dM_isDigit_6 : decode prog_14_method_30_code 6 = .ok (.iload_n 0, 1) := by decide +kernel
theorem dM_isDigit_7 : decode prog_14_method_30_code 7 = .ok (.bipush 57, 2) := by decide +kernel
theorem dM_isDigit_9 : decode prog_14_method_30_code 9 = .ok (.if_icmp .gt 7, 3) := by decide +kernel
theorem dM_isDigit_12 : decode prog_14_method_30_code 12 = .ok (.iconst 1, 1) := by decide +kernel
theorem dM_isDigit_13 : decode prog_14_method_30_code 13 = .ok (.goto 4, 3) := by decide +kernel
theorem dM_isDigit_16 : decode prog_14_method_30_code 16 = .ok (.iconst 0, 1) := by decide +kernel
theorem dM_isDigit_17 : decode prog_14_method_30_code 17 = .ok (.ireturn, 1) := by decide +kernel
theorem dM_isFund_0 : decode prog_14_method_18_code 0 = .ok (.iload_n 1, 1) := by decide +kernel
theorem dM_isFund_1 : decode prog_14_method_18_code 1 = .ok (.i2l, 1) := by decide +kernel
theorem dM_isFund_2 : decode prog_14_method_18_code 2 = .ok (.lconst 0, 1) := by decide +kernel
theorem dM_isFund_3 : decode prog_14_method_18_code 3 = .ok (.aload_n 0, 1) := by decide +kernel
theorem dM_isFund_4 : decode prog_14_method_18_code 4 = .ok (.getfield 275, 3) := by decide +kernel
theorem dM_isFund_7 : decode prog_14_method_18_code 7 = .ok (.iconst 1, 1) := by decide +kernel
theorem dM_isFund_8 : decode prog_14_method_18_code 8 = .ok (.isub, 1) := by decide +kernel
theorem dM_isFund_9 : decode prog_14_method_18_code 9 = .ok (.i2l, 1) := by decide +kernel
theorem dM_isFund_10 : decode prog_14_method_18_code 10 = .ok (.invokestatic 222, 3) := by decide +kernel
theorem dM_isFund_13 : decode prog_14_method_18_code 13 = .ok (.ireturn, 1) := by decide +kernel
theorem dM_isKnownDay_0 : decode prog_14_method_76_code 0 = .ok (.iload_n 1, 1) := by decide +kernel
theorem dM_isKnownDay_1 : decode prog_14_method_76_code 1 = .ok (.i2l, 1) := by decide +kernel
theorem dM_isKnownDay_2 : decode prog_14_method_76_code 2 = .ok (.lconst 0, 1) := by decide +kernel
theorem dM_isKnownDay_3 : decode prog_14_method_76_code 3 = .ok (.aload_n 0, 1) := by decide +kernel
theorem dM_isKnownDay_4 : decode prog_14_method_76_code 4 = .ok (.invokevirtual 254, 3) := by decide +kernel
theorem dM_isKnownDay_7 : decode prog_14_method_76_code 7 = .ok (.i2l, 1) := by decide +kernel
theorem dM_isKnownDay_8 : decode prog_14_method_76_code 8 = .ok (.invokestatic 222, 3) := by decide +kernel
theorem dM_isKnownDay_11 : decode prog_14_method_76_code 11 = .ok (.ireturn, 1) := by decide +kernel
theorem dM_isLetter_0 : decode prog_14_method_29_code 0 = .ok (.iload_n 0, 1) := by decide +kernel
theorem dM_isLetter_1 : decode prog_14_method_29_code 1 = .ok (.bipush 97, 2) := by decide +kernel
theorem dM_isLetter_3 : decode prog_14_method_29_code 3 = .ok (.if_icmp .lt 13, 3) := by decide +kernel
theorem dM_isLetter_6 : decode prog_14_method_29_code 6 = .ok (.iload_n 0, 1) := by decide +kernel
theorem dM_isLetter_7 : decode prog_14_method_29_code 7 = .ok (.bipush 122, 2) := by decide +kernel
theorem dM_isLetter_9 : decode prog_14_method_29_code 9 = .ok (.if_icmp .gt 7, 3) := by decide +kernel
theorem dM_isLetter_12 : decode prog_14_method_29_code 12 = .ok (.iconst 1, 1) := by decide +kernel
theorem dM_isLetter_13 : decode prog_14_method_29_code 13 = .ok (.goto 4, 3) := by decide +kernel
theorem dM_isLetter_16 : decode prog_14_method_29_code 16 = .ok (.iconst 0, 1) := by decide +kernel
theorem dM_isLetter_17 : decode prog_14_method_29_code 17 = .ok (.ireturn, 1) := by decide +kernel
theorem dM_isOpen_0 : decode prog_14_method_6_code 0 = .ok (.iload_n 1, 1) := by decide +kernel
theorem dM_isOpen_1 : decode prog_14_method_6_code 1 = .ok (.i2l, 1) := by decide +kernel
theorem dM_isOpen_2 : decode prog_14_method_6_code 2 = .ok (.lconst 0, 1) := by decide +kernel
theorem dM_isOpen_3 : decode prog_14_method_6_code 3 = .ok (.ldc2_w 220, 3) := by decide +kernel
theorem dM_isOpen_6 : decode prog_14_method_6_code 6 = .ok (.invokestatic 222, 3) := by decide +kernel
theorem dM_isOpen_9 : decode prog_14_method_6_code 9 = .ok (.ifCond .eq 24, 3) := by decide +kernel
theorem dM_isOpen_12 : decode prog_14_method_6_code 12 = .ok (.iload_n 1, 1) := by decide +kernel
theorem dM_isOpen_13 : decode prog_14_method_6_code 13 = .ok (.bipush 7, 2) := by decide +kernel
theorem dM_isOpen_15 : decode prog_14_method_6_code 15 = .ok (.irem, 1) := by decide +kernel
theorem dM_isOpen_16 : decode prog_14_method_6_code 16 = .ok (.iconst 5, 1) := by decide +kernel
theorem dM_isOpen_17 : decode prog_14_method_6_code 17 = .ok (.if_icmp .ge 16, 3) := by decide +kernel
theorem dM_isOpen_20 : decode prog_14_method_6_code 20 = .ok (.aload_n 0, 1) := by decide +kernel
theorem dM_isOpen_21 : decode prog_14_method_6_code 21 = .ok (.getfield 9, 3) := by decide +kernel
theorem dM_isOpen_24 : decode prog_14_method_6_code 24 = .ok (.iload_n 1, 1) := by decide +kernel
theorem dM_isOpen_25 : decode prog_14_method_6_code 25 = .ok (.baload, 1) := by decide +kernel
theorem dM_isOpen_26 : decode prog_14_method_6_code 26 = .ok (.ifCond .ne 7, 3) := by decide +kernel
theorem dM_isOpen_29 : decode prog_14_method_6_code 29 = .ok (.iconst 1, 1) := by decide +kernel
theorem dM_isOpen_30 : decode prog_14_method_6_code 30 = .ok (.goto 4, 3) := by decide +kernel
theorem dM_isOpen_33 : decode prog_14_method_6_code 33 = .ok (.iconst 0, 1) := by decide +kernel
theorem dM_isOpen_34 : decode prog_14_method_6_code 34 = .ok (.ireturn, 1) := by decide +kernel
theorem dM_isOver_0 : decode prog_14_method_61_code 0 = .ok (.aload_n 0, 1) := by decide +kernel
theorem dM_isOver_1 : decode prog_14_method_61_code 1 = .ok (.iload_n 1, 1) := by decide +kernel
theorem dM_isOver_2 : decode prog_14_method_61_code 2 = .ok (.invokevirtual 287, 3) := by decide +kernel
theorem dM_isOver_5 : decode prog_14_method_61_code 5 = .ok (.ifCond .eq 23, 3) := by decide +kernel
theorem dM_isOver_8 : decode prog_14_method_61_code 8 = .ok (.aload_n 0, 1) := by decide +kernel
theorem dM_isOver_9 : decode prog_14_method_61_code 9 = .ok (.iload_n 2, 1) := by decide +kernel
theorem dM_isOver_10 : decode prog_14_method_61_code 10 = .ok (.invokevirtual 229, 3) := by decide +kernel
theorem dM_isOver_13 : decode prog_14_method_61_code 13 = .ok (.ifCond .eq 15, 3) := by decide +kernel
theorem dM_isOver_16 : decode prog_14_method_61_code 16 = .ok (.iload_n 2, 1) := by decide +kernel
theorem dM_isOver_17 : decode prog_14_method_61_code 17 = .ok (.aload_n 0, 1) := by decide +kernel
