theorem dM_errors_44 : decode prog_14_method_68_code 44 = .ok (.aload_n 0, 1) := by decide +kernel
theorem dM_errors_45 : decode prog_14_method_68_code 45 = .ok (.iload_n 3, 1) := by decide +kernel
theorem dM_errors_46 : decode prog_14_method_68_code 46 = .ok (.invokevirtual 229, 3) := by decide +kernel
theorem dM_errors_49 : decode prog_14_method_68_code 49 = .ok (.ifCond .eq 26, 3) := by decide +kernel
theorem dM_errors_52 : decode prog_14_method_68_code 52 = .ok (.aload_n 0, 1) := by decide +kernel
theorem dM_errors_53 : decode prog_14_method_68_code 53 = .ok (.iload_n 1, 1) := by decide +kernel
theorem dM_errors_54 : decode prog_14_method_68_code 54 = .ok (.iload_n 3, 1) := by decide +kernel
theorem dM_errors_55 : decode prog_14_method_68_code 55 = .ok (.aload_n 0, 1) := by decide +kernel
theorem dM_errors_56 : decode prog_14_method_68_code 56 = .ok (.iload_n 1, 1) := by decide +kernel
theorem dM_errors_57 : decode prog_14_method_68_code 57 = .ok (.aload_n 0, 1) := by decide +kernel
theorem dM_errors_58 : decode prog_14_method_68_code 58 = .ok (.invokevirtual 254, 3) := by decide +kernel
theorem dM_errors_61 : decode prog_14_method_68_code 61 = .ok (.iconst 4, 1) := by decide +kernel
theorem dM_errors_62 : decode prog_14_method_68_code 62 = .ok (.invokevirtual 305, 3) := by decide +kernel
theorem dM_errors_65 : decode prog_14_method_68_code 65 = .ok (.invokevirtual 489, 3) := by decide +kernel
theorem dM_errors_68 : decode prog_14_method_68_code 68 = .ok (.ifCond .eq 7, 3) := by decide +kernel
theorem dM_errors_71 : decode prog_14_method_68_code 71 = .ok (.iconst 1, 1) := by decide +kernel
theorem dM_errors_72 : decode prog_14_method_68_code 72 = .ok (.goto 4, 3) := by decide +kernel
theorem dM_errors_75 : decode prog_14_method_68_code 75 = .ok (.iconst 0, 1) := by decide +kernel
theorem dM_errors_76 : decode prog_14_method_68_code 76 = .ok (.iadd, 1) := by decide +kernel
theorem dM_errors_77 : decode prog_14_method_68_code 77 = .ok (.istore_n 2, 1) := by decide +kernel
theorem dM_errors_78 : decode prog_14_method_68_code 78 = .ok (.iinc 3 1, 3) := by decide +kernel
theorem dM_errors_81 : decode prog_14_method_68_code 81 = .ok (.goto (-50), 3) := by decide +kernel
theorem dM_errors_84 : decode prog_14_method_68_code 84 = .ok (.iload_n 2, 1) := by decide +kernel
theorem dM_errors_85 : decode prog_14_method_68_code 85 = .ok (.ireturn, 1) := by decide +kernel
theorem dM_explain_0 : decode prog_14_method_93_code 0 = .ok (.aload_n 0, 1) := by decide +kernel
theorem dM_explain_1 : decode prog_14_method_93_code 1 = .ok (.invokevirtual 541, 3) := by decide +kernel
theorem dM_explain_4 : decode prog_14_method_93_code 4 = .ok (.aload_n 0, 1) := by decide +kernel
theorem dM_explain_5 : decode prog_14_method_93_code 5 = .ok (.getfield 529, 3) := by decide +kernel
theorem dM_explain_8 : decode prog_14_method_93_code 8 = .ok (.ireturn, 1) := by decide +kernel
theorem dM_explains_0 : decode prog_14_method_90_code 0 = .ok (.aload_n 0, 1) := by decide +kernel
theorem dM_explains_1 : decode prog_14_method_90_code 1 = .ok (.getfield 251, 3) := by decide +kernel
theorem dM_explains_4 : decode prog_14_method_90_code 4 = .ok (.istore_n 2, 1) := by decide +kernel
theorem dM_explains_5 : decode prog_14_method_90_code 5 = .ok (.iconst 0, 1) := by decide +kernel
theorem dM_explains_6 : decode prog_14_method_90_code 6 = .ok (.istore_n 3, 1) := by decide +kernel
theorem dM_explains_7 : decode prog_14_method_90_code 7 = .ok (.iload_n 3, 1) := by decide +kernel
theorem dM_explains_8 : decode prog_14_method_90_code 8 = .ok (.aload_n 0, 1) := by decide +kernel
theorem dM_explains_9 : decode prog_14_method_90_code 9 = .ok (.getfield 526, 3) := by decide +kernel
theorem dM_explains_12 : decode prog_14_method_90_code 12 = .ok (.if_icmp .ge 46, 3) := by decide +kernel
theorem dM_explains_15 : decode prog_14_method_90_code 15 = .ok (.iload_n 1, 1) := by decide +kernel
theorem dM_explains_16 : decode prog_14_method_90_code 16 = .ok (.iload_n 3, 1) := by decide +kernel
theorem dM_explains_17 : decode prog_14_method_90_code 17 = .ok (.ishr, 1) := by decide +kernel
theorem dM_explains_18 : decode prog_14_method_90_code 18 = .ok (.iconst 1, 1) := by decide +kernel
theorem dM_explains_19 : decode prog_14_method_90_code 19 = .ok (.iand, 1) := by decide +kernel
theorem dM_explains_20 : decode prog_14_method_90_code 20 = .ok (.iconst 1, 1) := by decide +kernel
theorem dM_explains_21 : decode prog_14_method_90_code 21 = .ok (.if_icmp .ne 31, 3) := by decide +kernel
theorem dM_explains_24 : decode prog_14_method_90_code 24 = .ok (.aload_n 0, 1) := by decide +kernel
theorem dM_explains_25 : decode prog_14_method_90_code 25 = .ok (.aload_n 0, 1) := by decide +kernel
theorem dM_explains_26 : decode prog_14_method_90_code 26 = .ok (.getfield 29, 3) := by decide +kernel
theorem dM_explains_29 : decode prog_14_method_90_code 29 = .ok (.iload_n 3, 1) := by decide +kernel
theorem dM_explains_30 : decode prog_14_method_90_code 30 = .ok (.iaload, 1) := by decide +kernel
theorem dM_explains_31 : decode prog_14_method_90_code 31 = .ok (.aload_n 0, 1) := by decide +kernel
theorem dM_explains_32 : decode prog_14_method_90_code 32 = .ok (.getfield 32, 3) := by decide +kernel
theorem dM_explains_35 : decode prog_14_method_90_code 35 = .ok (.iload_n 3, 1) := by decide +kernel
theorem dM_explains_36 : decode prog_14_method_90_code 36 = .ok (.iaload, 1) := by decide +kernel
theorem dM_explains_37 : decode prog_14_method_90_code 37 = .ok (.aload_n 0, 1) := by decide +kernel
theorem dM_explains_38 : decode prog_14_method_90_code 38 = .ok (.getfield 35, 3) := by decide +kernel
theorem dM_explains_41 : decode prog_14_method_90_code 41 = .ok (.iload_n 3, 1) := by decide +kernel
theorem dM_explains_42 : decode prog_14_method_90_code 42 = .ok (.iaload, 1) := by decide +kernel
theorem dM_explains_43 : decode prog_14_method_90_code 43 = .ok (.aload_n 0, 1) := by decide +kernel
theorem dM_explains_44 : decode prog_14_method_90_code 44 = .ok (.getfield 38, 3) := by decide +kernel
theorem dM_explains_47 : decode prog_14_method_90_code 47 = .ok (.iload_n 3, 1) := by decide +kernel
theorem dM_explains_48 : decode prog_14_method_90_code 48 = .ok (.iaload, 1) := by decide +kernel
theorem dM_explains_49 : decode prog_14_method_90_code 49 = .ok (.invokevirtual 262, 3) := by decide +kernel
theorem dM_explains_52 : decode prog_14_method_90_code 52 = .ok (.iinc 3 1, 3) := by decide +kernel
theorem dM_explains_55 : decode prog_14_method_90_code 55 = .ok (.goto (-48), 3) := by decide +kernel
theorem dM_explains_58 : decode prog_14_method_90_code 58 = .ok (.aload_n 0, 1) := by decide +kernel
theorem dM_explains_59 : decode prog_14_method_90_code 59 = .ok (.aload_n 0, 1) := by decide +kernel
theorem dM_explains_60 : decode prog_14_method_90_code 60 = .ok (.aload_n 0, 1) := by decide +kernel
theorem dM_explains_61 : decode prog_14_method_90_code 61 = .ok (.invokevirtual 254, 3) := by decide +kernel
theorem dM_explains_64 : decode prog_14_method_90_code 64 = .ok (.invokevirtual 486, 3) := by decide +kernel
theorem dM_explains_67 : decode prog_14_method_90_code 67 = .ok (.aload_n 0, 1) := by decide +kernel
theorem dM_explains_68 : decode prog_14_method_90_code 68 = .ok (.invokevirtual 254, 3) := by decide +kernel
theorem dM_explains_71 : decode prog_14_method_90_code 71 = .ok (.iconst 0, 1) := by decide +kernel
theorem dM_explains_72 : decode prog_14_method_90_code 72 = .ok (.invokevirtual 471, 3) := by decide +kernel
theorem dM_explains_75 : decode prog_14_method_90_code 75 = .ok (.aload_n 0, 1) := by decide +kernel
theorem dM_explains_76 : decode prog_14_method_90_code 76 = .ok (.iload_n 2, 1) := by decide +kernel
theorem dM_explains_77 : decode prog_14_method_90_code 77 = .ok (.putfield 251, 3) := by decide +kernel
theorem dM_explains_80 : decode prog_14_method_90_code 80 = .ok (.iconst 1, 1) := by decide +kernel
theorem dM_explains_81 : decode prog_14_method_90_code 81 = .ok (.istore_n 3, 1) := by decide +kernel
theorem dM_explains_82 : decode prog_14_method_90_code 82 = .ok (.iconst 0, 1) := by decide +kernel
theorem dM_explains_83 : decode prog_14_method_90_code 83 = .ok (.istore 4, 2) := by decide +kernel
theorem dM_explains_85 : decode prog_14_method_90_code 85 = .ok (.iload 4, 2) := by decide +kernel
theorem dM_explains_87 : decode prog_14_method_90_code 87 = .ok (.aload_n 0, 1) := by decide +kernel
theorem dM_explains_88 : decode prog_14_method_90_code 88 = .ok (.getfield 523, 3) := by decide +kernel
theorem dM_explains_91 : decode prog_14_method_90_code 91 = .ok (.if_icmp .ge 51, 3) := by decide +kernel
theorem dM_explains_94 : decode prog_14_method_90_code 94 = .ok (.iload_n 3, 1) := by decide +kernel
theorem dM_explains_95 : decode prog_14_method_90_code 95 = .ok (.ifCond .eq 39, 3) := by decide +kernel
theorem dM_explains_98 : decode prog_14_method_90_code 98 = .ok (.aload_n 0, 1) := by decide +kernel
theorem dM_explains_99 : decode prog_14_method_90_code 99 = .ok (.getfield 148, 3) := by decide +kernel
theorem dM_explains_102 : decode prog_14_method_90_code 102 = .ok (.aload_n 0, 1) := by decide +kernel
theorem dM_explains_103 : decode prog_14_method_90_code 103 = .ok (.getfield 184, 3) := by decide +kernel
theorem dM_explains_106 : decode prog_14_method_90_code 106 = .ok (.iload 4, 2) := by decide +kernel
theorem dM_explains_108 : decode prog_14_method_90_code 108 = .ok (.iaload, 1) := by decide +kernel
theorem dM_explains_109 : decode prog_14_method_90_code 109 = .ok (.aaload, 1) := by decide +kernel
theorem dM_explains_110 : decode prog_14_method_90_code 110 = .ok (.aload_n 0, 1) := by decide +kernel
theorem dM_explains_111 : decode prog_14_method_90_code 111 = .ok (.getfield 187, 3) := by decide +kernel
theorem dM_explains_114 : decode prog_14_method_90_code 114 = .ok (.iload 4, 2) := by decide +kernel
theorem dM_explains_116 : decode prog_14_method_90_code 116 = .ok (.iaload, 1) := by decide +kernel
theorem dM_explains_117 : decode prog_14_method_90_code 117 = .ok (.laload, 1) := by decide +kernel
theorem dM_explains_118 : decode prog_14_method_90_code 118 = .ok (.aload_n 0, 1) := by decide +kernel
theorem dM_explains_119 : decode prog_14_method_90_code 119 = .ok (.getfield 190, 3) := by decide +kernel
theorem dM_explains_122 : decode prog_14_method_90_code 122 = .ok (.iload 4, 2) := by decide +kernel
theorem dM_explains_124 : decode prog_14_method_90_code 124 = .ok (.iaload, 1) := by decide +kernel
theorem dM_explains_125 : decode prog_14_method_90_code 125 = .ok (.i2l, 1) := by decide +kernel
theorem dM_explains_126 : decode prog_14_method_90_code 126 = .ok (.lcmp, 1) := by decide +kernel
theorem dM_explains_127 : decode prog_14_method_90_code 127 = .ok (.ifCond .ne 7, 3) := by decide +kernel
theorem dM_explains_130 : decode prog_14_method_90_code 130 = .ok (.iconst 1, 1) := by decide +kernel
theorem dM_explains_131 : decode prog_14_method_90_code 131 = .ok (.goto 4, 3) := by decide +kernel
theorem dM_explains_134 : decode prog_14_method_90_code 134 = .ok (.iconst 0, 1) := by decide +kernel
theorem dM_explains_135 : decode prog_14_method_90_code 135 = .ok (.istore_n 3, 1) := by decide +kernel
theorem dM_explains_136 : decode prog_14_method_90_code 136 = .ok (.iinc 4 1, 3) := by decide +kernel
theorem dM_explains_139 : decode prog_14_method_90_code 139 = .ok (.goto (-54), 3) := by decide +kernel
theorem dM_explains_142 : decode prog_14_method_90_code 142 = .ok (.iload_n 3, 1) := by decide +kernel
theorem dM_explains_143 : decode prog_14_method_90_code 143 = .ok (.ireturn, 1) := by decide +kernel
theorem dM_fault_0 : decode prog_14_method_42_code 0 = .ok (.aload_n 0, 1) := by decide +kernel
theorem dM_fault_1 : decode prog_14_method_42_code 1 = .ok (.invokevirtual 410, 3) := by decide +kernel
theorem dM_fee_0 : decode prog_14_method_64_code 0 = .ok (.aload_n 0, 1) := by decide +kernel
theorem dM_fee_1 : decode prog_14_method_64_code 1 = .ok (.iload_n 1, 1) := by decide +kernel
theorem dM_fee_2 : decode prog_14_method_64_code 2 = .ok (.iload_n 2, 1) := by decide +kernel
theorem dM_fee_3 : decode prog_14_method_64_code 3 = .ok (.invokevirtual 479, 3) := by decide +kernel
theorem dM_fee_6 : decode prog_14_method_64_code 6 = .ok (.ifCond .eq 13, 3) := by decide +kernel
theorem dM_fee_9 : decode prog_14_method_64_code 9 = .ok (.iload_n 3, 1) := by decide +kernel
theorem dM_fee_10 : decode prog_14_method_64_code 10 = .ok (.i2l, 1) := by decide +kernel
theorem dM_fee_11 : decode prog_14_method_64_code 11 = .ok (.lconst 0, 1) := by decide +kernel
theorem dM_fee_12 : decode prog_14_method_64_code 12 = .ok (.lconst 1, 1) := by decide +kernel
theorem dM_fee_13 : decode prog_14_method_64_code 13 = .ok (.invokestatic 222, 3) := by decide +kernel
theorem dM_fee_16 : decode prog_14_method_64_code 16 = .ok (.ifCond .ne 5, 3) := by decide +kernel
theorem dM_fee_19 : decode prog_14_method_64_code 19 = .ok (.iconst (-1), 1) := by decide +kernel
theorem dM_fee_20 : decode prog_14_method_64_code 20 = .ok (.ireturn, 1) := by decide +kernel
theorem dM_fee_21 : decode prog_14_method_64_code 21 = .ok (.iload_n 3, 1) := by decide +kernel
theorem dM_fee_22 : decode prog_14_method_64_code 22 = .ok (.ifCond .ne 15, 3) := by decide +kernel
theorem dM_fee_25 : decode prog_14_method_64_code 25 = .ok (.aload_n 0, 1) := by decide +kernel
theorem dM_fee_26 : decode prog_14_method_64_code 26 = .ok (.getfield 163, 3) := by decide +kernel
theorem dM_fee_29 : decode prog_14_method_64_code 29 = .ok (.iload_n 1, 1) := by decide +kernel
theorem dM_fee_30 : decode prog_14_method_64_code 30 = .ok (.aaload, 1) := by decide +kernel
theorem dM_fee_31 : decode prog_14_method_64_code 31 = .ok (.iload_n 2, 1) := by decide +kernel
theorem dM_fee_32 : decode prog_14_method_64_code 32 = .ok (.laload, 1) := by decide +kernel
theorem dM_fee_33 : decode prog_14_method_64_code 33 = .ok (.invokestatic 482, 3) := by decide +kernel
theorem dM_fee_36 : decode prog_14_method_64_code 36 = .ok (.ireturn, 1) := by decide +kernel
theorem dM_fee_37 : decode prog_14_method_64_code 37 = .ok (.aload_n 0, 1) := by decide +kernel
theorem dM_fee_38 : decode prog_14_method_64_code 38 = .ok (.iload_n 2, 1) := by decide +kernel
theorem dM_fee_39 : decode prog_14_method_64_code 39 = .ok (.aload_n 0, 1) := by decide +kernel
theorem dM_fee_40 : decode prog_14_method_64_code 40 = .ok (.invokevirtual 254, 3) := by decide +kernel
theorem dM_fee_43 : decode prog_14_method_64_code 43 = .ok (.iconst 0, 1) := by decide +kernel
theorem dM_fee_44 : decode prog_14_method_64_code 44 = .ok (.invokevirtual 471, 3) := by decide +kernel
theorem dM_fee_47 : decode prog_14_method_64_code 47 = .ok (.aload_n 0, 1) := by decide +kernel
theorem dM_fee_48 : decode prog_14_method_64_code 48 = .ok (.getfield 151, 3) := by decide +kernel
theorem dM_fee_51 : decode prog_14_method_64_code 51 = .ok (.iload_n 1, 1) := by decide +kernel
theorem dM_fee_52 : decode prog_14_method_64_code 52 = .ok (.aaload, 1) := by decide +kernel
theorem dM_fee_53 : decode prog_14_method_64_code 53 = .ok (.iload_n 2, 1) := by decide +kernel
theorem dM_fee_54 : decode prog_14_method_64_code 54 = .ok (.laload, 1) := by decide +kernel
theorem dM_fee_55 : decode prog_14_method_64_code 55 = .ok (.invokestatic 482, 3) := by decide +kernel
theorem dM_fee_58 : decode prog_14_method_64_code 58 = .ok (.ireturn, 1) := by decide +kernel
theorem dM_feed_0 : decode prog_14_method_25_code 0 = .ok (.aload_n 0, 1) := by decide +kernel
theorem dM_feed_1 : decode prog_14_method_25_code 1 = .ok (.getfield 309, 3) := by decide +kernel
theorem dM_feed_4 : decode prog_14_method_25_code 4 = .ok (.bipush 20, 2) := by decide +kernel
theorem dM_feed_6 : decode prog_14_method_25_code 6 = .ok (.iadd, 1) := by decide +kernel
theorem dM_feed_7 : decode prog_14_method_25_code 7 = .ok (.sipush 600, 3) := by decide +kernel
theorem dM_feed_10 : decode prog_14_method_25_code 10 = .ok (.if_icmp .le 5, 3) := by decide +kernel
theorem dM_feed_13 : decode prog_14_method_25_code 13 = .ok (.iconst (-1), 1) := by decide +kernel
theorem dM_feed_14 : decode prog_14_method_25_code 14 = .ok (.ireturn, 1) := by decide +kernel
theorem dM_feed_15 : decode prog_14_method_25_code 15 = .ok (.aload_n 0, 1) := by decide +kernel
theorem dM_feed_16 : decode prog_14_method_25_code 16 = .ok (.iload_n 1, 1) := by decide +kernel
theorem dM_feed_17 : decode prog_14_method_25_code 17 = .ok (.invokevirtual 312, 3) := by decide +kernel
theorem dM_feed_20 : decode prog_14_method_25_code 20 = .ok (.aload_n 0, 1) := by decide +kernel
theorem dM_feed_21 : decode prog_14_method_25_code 21 = .ok (.iload_n 2, 1) := by decide +kernel
theorem dM_feed_22 : decode prog_14_method_25_code 22 = .ok (.invokevirtual 312, 3) := by decide +kernel
theorem dM_feed_25 : decode prog_14_method_25_code 25 = .ok (.aload_n 0, 1) := by decide +kernel
theorem dM_feed_26 : decode prog_14_method_25_code 26 = .ok (.iload_n 3, 1) := by decide +kernel
theorem dM_feed_27 : decode prog_14_method_25_code 27 = .ok (.invokevirtual 312, 3) := by decide +kernel
theorem dM_feed_30 : decode prog_14_method_25_code 30 = .ok (.aload_n 0, 1) := by decide +kernel
theorem dM_feed_31 : decode prog_14_method_25_code 31 = .ok (.iload 4, 2) := by decide +kernel
theorem dM_feed_33 : decode prog_14_method_25_code 33 = .ok (.invokevirtual 312, 3) := by decide +kernel
theorem dM_feed_36 : decode prog_14_method_25_code 36 = .ok (.aload_n 0, 1) := by decide +kernel
theorem dM_feed_37 : decode prog_14_method_25_code 37 = .ok (.iload 5, 2) := by decide +kernel
theorem dM_feed_39 : decode prog_14_method_25_code 39 = .ok (.invokevirtual 312, 3) := by decide +kernel
theorem dM_feed_42 : decode prog_14_method_25_code 42 = .ok (.aload_n 0, 1) := by decide +kernel
theorem dM_feed_43 : decode prog_14_method_25_code 43 = .ok (.getfield 309, 3) := by decide +kernel
theorem dM_feed_46 : decode prog_14_method_25_code 46 = .ok (.ireturn, 1) := by decide +kernel
theorem dM_feeds0_0 : decode prog_14_method_24_code 0 = .ok (.iconst 3, 1) := by decide +kernel
theorem dM_feeds0_1 : decode prog_14_method_24_code 1 = .ok (.istore_n 2, 1) := by decide +kernel
theorem dM_feeds0_2 : decode prog_14_method_24_code 2 = .ok (.iload_n 2, 1) := by decide +kernel
theorem dM_feeds0_3 : decode prog_14_method_24_code 3 = .ok (.ifCond .lt 35, 3) := by decide +kernel
theorem dM_feeds0_6 : decode prog_14_method_24_code 6 = .ok (.aload_n 0, 1) := by decide +kernel
theorem dM_feeds0_7 : decode prog_14_method_24_code 7 = .ok (.getfield 96, 3) := by decide +kernel
theorem dM_feeds0_10 : decode prog_14_method_24_code 10 = .ok (.aload_n 0, 1) := by decide +kernel
theorem dM_feeds0_11 : decode prog_14_method_24_code 11 = .ok (.getfield 309, 3) := by decide +kernel
theorem dM_feeds0_14 : decode prog_14_method_24_code 14 = .ok (.iload_n 1, 1) := by decide +kernel
theorem dM_feeds0_15 : decode prog_14_method_24_code 15 = .ok (.bipush 8, 2) := by decide +kernel
theorem dM_feeds0_17 : decode prog_14_method_24_code 17 = .ok (.iload_n 2, 1) := by decide +kernel
theorem dM_feeds0_18 : decode prog_14_method_24_code 18 = .ok (.imul, 1) := by decide +kernel
theorem dM_feeds0_19 : decode prog_14_method_24_code 19 = .ok (.iushr, 1) := by decide +kernel
theorem dM_feeds0_20 : decode prog_14_method_24_code 20 = .ok (.i2b, 1) := by decide +kernel
theorem dM_feeds0_21 : decode prog_14_method_24_code 21 = .ok (.bastore, 1) := by decide +kernel
theorem dM_feeds0_22 : decode prog_14_method_24_code 22 = .ok (.aload_n 0, 1) := by decide +kernel
theorem dM_feeds0_23 : decode prog_14_method_24_code 23 = .ok (.dup, 1) := by decide +kernel
theorem dM_feeds0_24 : decode prog_14_method_24_code 24 = .ok (.getfield 309, 3) := by decide +kernel
theorem dM_feeds0_27 : decode prog_14_method_24_code 27 = .ok (.iconst 1, 1) := by decide +kernel
theorem dM_feeds0_28 : decode prog_14_method_24_code 28 = .ok (.iadd, 1) := by decide +kernel
theorem dM_feeds0_29 : decode prog_14_method_24_code 29 = .ok (.putfield 309, 3) := by decide +kernel
theorem dM_feeds0_32 : decode prog_14_method_24_code 32 = .ok (.iinc 2 (-1), 3) := by decide +kernel
theorem dM_feeds0_35 : decode prog_14_method_24_code 35 = .ok (.goto (-33), 3) := by decide +kernel
theorem dM_feeds0_38 : decode prog_14_method_24_code 38 = .ok (.return_, 1) := by decide +kernel
theorem dM_feeds1_0 : decode prog_14_method_50_code 0 = .ok (.iconst 0, 1) := by decide +kernel
theorem dM_feeds1_1 : decode prog_14_method_50_code 1 = .ok (.istore_n 3, 1) := by decide +kernel
theorem dM_feeds1_2 : decode prog_14_method_50_code 2 = .ok (.iload_n 3, 1) := by decide +kernel
theorem dM_feeds1_3 : decode prog_14_method_50_code 3 = .ok (.aload_n 0, 1) := by decide +kernel
theorem dM_feeds1_4 : decode prog_14_method_50_code 4 = .ok (.getfield 302, 3) := by decide +kernel
theorem dM_feeds1_7 : decode prog_14_method_50_code 7 = .ok (.if_icmp .ge 69, 3) := by decide +kernel
theorem dM_feeds1_10 : decode prog_14_method_50_code 10 = .ok (.aload_n 0, 1) := by decide +kernel
theorem dM_feeds1_11 : decode prog_14_method_50_code 11 = .ok (.getfield 74, 3) := by decide +kernel
theorem dM_feeds1_14 : decode prog_14_method_50_code 14 = .ok (.iload_n 3, 1) := by decide +kernel
theorem dM_feeds1_15 : decode prog_14_method_50_code 15 = .ok (.iaload, 1) := by decide +kernel
theorem dM_feeds1_16 : decode prog_14_method_50_code 16 = .ok (.bipush 16, 2) := by decide +kernel
theorem dM_feeds1_18 : decode prog_14_method_50_code 18 = .ok (.iload_n 1, 1) := by decide +kernel
theorem dM_feeds1_19 : decode prog_14_method_50_code 19 = .ok (.iadd, 1) := by decide +kernel
theorem dM_feeds1_20 : decode prog_14_method_50_code 20 = .ok (.if_icmp .ne 50, 3) := by decide +kernel
theorem dM_feeds1_23 : decode prog_14_method_50_code 23 = .ok (.aload_n 0, 1) := by decide +kernel
theorem dM_feeds1_24 : decode prog_14_method_50_code 24 = .ok (.getfield 83, 3) := by decide +kernel
theorem dM_feeds1_27 : decode prog_14_method_50_code 27 = .ok (.iload_n 3, 1) := by decide +kernel
theorem dM_feeds1_28 : decode prog_14_method_50_code 28 = .ok (.iaload, 1) := by decide +kernel
theorem dM_feeds1_29 : decode prog_14_method_50_code 29 = .ok (.iload_n 2, 1) := by decide +kernel
theorem dM_feeds1_30 : decode prog_14_method_50_code 30 = .ok (.if_icmp .eq 6, 3) := by decide +kernel
theorem dM_feeds1_33 : decode prog_14_method_50_code 33 = .ok (.goto 37, 3) := by decide +kernel
theorem dM_feeds1_36 : decode prog_14_method_50_code 36 = .ok (.aload_n 0, 1) := by decide +kernel
theorem dM_feeds1_37 : decode prog_14_method_50_code 37 = .ok (.getfield 137, 3) := by decide +kernel
theorem dM_feeds1_40 : decode prog_14_method_50_code 40 = .ok (.iload_n 1, 1) := by decide +kernel
theorem dM_feeds1_41 : decode prog_14_method_50_code 41 = .ok (.dup2, 1) := by decide +kernel
theorem dM_feeds1_42 : decode prog_14_method_50_code 42 = .ok (.laload, 1) := by decide +kernel
theorem dM_feeds1_43 : decode prog_14_method_50_code 43 = .ok (.aload_n 0, 1) := by decide +kernel
theorem dM_feeds1_44 : decode prog_14_method_50_code 44 = .ok (.getfield 80, 3) := by decide +kernel
theorem dM_feeds1_47 : decode prog_14_method_50_code 47 = .ok (.iload_n 3, 1) := by decide +kernel
theorem dM_feeds1_48 : decode prog_14_method_50_code 48 = .ok (.iaload, 1) := by decide +kernel
theorem dM_feeds1_49 : decode prog_14_method_50_code 49 = .ok (.ifCond .le 13, 3) := by decide +kernel
theorem dM_feeds1_52 : decode prog_14_method_50_code 52 = .ok (.aload_n 0, 1) := by decide +kernel
theorem dM_feeds1_53 : decode prog_14_method_50_code 53 = .ok (.getfield 140, 3) := by decide +kernel
theorem dM_feeds1_56 : decode prog_14_method_50_code 56 = .ok (.iload_n 3, 1) := by decide +kernel
theorem dM_feeds1_57 : decode prog_14_method_50_code 57 = .ok (.laload, 1) := by decide +kernel
theorem dM_feeds1_58 : decode prog_14_method_50_code 58 = .ok (.lneg, 1) := by decide +kernel
theorem dM_feeds1_59 : decode prog_14_method_50_code 59 = .ok (.goto 9, 3) := by decide +kernel
theorem dM_feeds1_62 : decode prog_14_method_50_code 62 = .ok (.aload_n 0, 1) := by decide +kernel
theorem dM_feeds1_63 : decode prog_14_method_50_code 63 = .ok (.getfield 140, 3) := by decide +kernel
theorem dM_feeds1_66 : decode prog_14_method_50_code 66 = .ok (.iload_n 3, 1) := by decide +kernel
theorem dM_feeds1_67 : decode prog_14_method_50_code 67 = .ok (.laload, 1) := by decide +kernel
theorem dM_feeds1_68 : decode prog_14_method_50_code 68 = .ok (.ladd, 1) := by decide +kernel
theorem dM_feeds1_69 : decode prog_14_method_50_code 69 = .ok (.lastore, 1) := by decide +kernel
theorem dM_feeds1_70 : decode prog_14_method_50_code 70 = .ok (.iinc 3 1, 3) := by decide +kernel
theorem dM_feeds1_73 : decode prog_14_method_50_code 73 = .ok (.goto (-71), 3) := by decide +kernel
theorem dM_feeds1_76 : decode prog_14_method_50_code 76 = .ok (.return_, 1) := by decide +kernel
theorem dM_flow_0 : decode prog_14_method_53_code 0 = .ok (.lconst 0, 1) := by decide +kernel
theorem dM_flow_1 : decode prog_14_method_53_code 1 = .ok (.lstore 4, 2) := by decide +kernel
theorem dM_flow_3 : decode prog_14_method_53_code 3 = .ok (.iconst 0, 1) := by decide +kernel
theorem dM_flow_4 : decode prog_14_method_53_code 4 = .ok (.istore 6, 2) := by decide +kernel
theorem dM_flow_6 : decode prog_14_method_53_code 6 = .ok (.iload 6, 2) := by decide +kernel
theorem dM_flow_8 : decode prog_14_method_53_code 8 = .ok (.bipush 20, 2) := by decide +kernel
theorem dM_flow_10 : decode prog_14_method_53_code 10 = .ok (.if_icmp .ge 25, 3) := by decide +kernel
theorem dM_flow_13 : decode prog_14_method_53_code 13 = .ok (.aload_n 0, 1) := by decide +kernel
theorem dM_flow_14 : decode prog_14_method_53_code 14 = .ok (.getfield 169, 3) := by decide +kernel
theorem dM_flow_17 : decode prog_14_method_53_code 17 = .ok (.iload 6, 2) := by decide +kernel
theorem dM_flow_19 : decode prog_14_method_53_code 19 = .ok (.aload_n 0, 1) := by decide +kernel
theorem dM_flow_20 : decode prog_14_method_53_code 20 = .ok (.getfield 154, 3) := by decide +kernel
theorem dM_flow_23 : decode prog_14_method_53_code 23 = .ok (.iload_n 1, 1) := by decide +kernel
theorem dM_flow_24 : decode prog_14_method_53_code 24 = .ok (.aaload, 1) := by decide +kernel
theorem dM_flow_25 : decode prog_14_method_53_code 25 = .ok (.iload 6, 2) := by decide +kernel
theorem dM_flow_27 : decode prog_14_method_53_code 27 = .ok (.laload, 1) := by decide +kernel
theorem dM_flow_28 : decode prog_14_method_53_code 28 = .ok (.lastore, 1) := by decide +kernel
theorem dM_flow_29 : decode prog_14_method_53_code 29 = .ok (.iinc 6 1, 3) := by decide +kernel
theorem dM_flow_32 : decode prog_14_method_53_code 32 = .ok (.goto (-26), 3) := by decide +kernel
theorem dM_flow_35 : decode prog_14_method_53_code 35 = .ok (.iconst 0, 1) := by decide +kernel
theorem dM_flow_36 : decode prog_14_method_53_code 36 = .ok (.istore 6, 2) := by decide +kernel
theorem dM_flow_38 : decode prog_14_method_53_code 38 = .ok (.iload 6, 2) := by decide +kernel
theorem dM_flow_40 : decode prog_14_method_53_code 40 = .ok (.aload_n 0, 1) := by decide +kernel
theorem dM_flow_41 : decode prog_14_method_53_code 41 = .ok (.getfield 302, 3) := by decide +kernel
theorem dM_flow_44 : decode prog_14_method_53_code 44 = .ok (.if_icmp .ge 79, 3) := by decide +kernel
theorem dM_flow_47 : decode prog_14_method_53_code 47 = .ok (.aload_n 0, 1) := by decide +kernel
theorem dM_flow_48 : decode prog_14_method_53_code 48 = .ok (.getfield 77, 3) := by decide +kernel
theorem dM_flow_51 : decode prog_14_method_53_code 51 = .ok (.iload 6, 2) := by decide +kernel
theorem dM_flow_53 : decode prog_14_method_53_code 53 = .ok (.iaload, 1) := by decide +kernel
theorem dM_flow_54 : decode prog_14_method_53_code 54 = .ok (.iload_n 1, 1) := by decide +kernel
theorem dM_flow_55 : decode prog_14_method_53_code 55 = .ok (.if_icmp .ne 62, 3) := by decide +kernel
theorem dM_flow_58 : decode prog_14_method_53_code 58 = .ok (.aload_n 0, 1) := by decide +kernel
theorem dM_flow_59 : decode prog_14_method_53_code 59 = .ok (.getfield 83, 3) := by decide +kernel
theorem dM_flow_62 : decode prog_14_method_53_code 62 = .ok (.iload 6, 2) := by decide +kernel
theorem dM_flow_64 : decode prog_14_method_53_code 64 = .ok (.iaload, 1) := by decide +kernel
theorem dM_flow_65 : decode prog_14_method_53_code 65 = .ok (.iload_n 2, 1) := by decide +kernel
theorem dM_flow_66 : decode prog_14_method_53_code 66 = .ok (.if_icmp .eq 6, 3) := by decide +kernel
theorem dM_flow_69 : decode prog_14_method_53_code 69 = .ok (.goto 48, 3) := by decide +kernel
theorem dM_flow_72 : decode prog_14_method_53_code 72 = .ok (.aload_n 0, 1) := by decide +kernel
theorem dM_flow_73 : decode prog_14_method_53_code 73 = .ok (.iload 6, 2) := by decide +kernel
theorem dM_flow_75 : decode prog_14_method_53_code 75 = .ok (.iload_n 3, 1) := by decide +kernel
theorem dM_flow_76 : decode prog_14_method_53_code 76 = .ok (.aload_n 0, 1) := by decide +kernel
theorem dM_flow_77 : decode prog_14_method_53_code 77 = .ok (.getfield 169, 3) := by decide +kernel
theorem dM_flow_80 : decode prog_14_method_53_code 80 = .ok (.aload_n 0, 1) := by decide +kernel
theorem dM_flow_81 : decode prog_14_method_53_code 81 = .ok (.getfield 74, 3) := by decide +kernel
theorem dM_flow_84 : decode prog_14_method_53_code 84 = .ok (.iload 6, 2) := by decide +kernel
theorem dM_flow_86 : decode prog_14_method_53_code 86 = .ok (.iaload, 1) := by decide +kernel
theorem dM_flow_87 : decode prog_14_method_53_code 87 = .ok (.laload, 1) := by decide +kernel
theorem dM_flow_88 : decode prog_14_method_53_code 88 = .ok (.invokevirtual 429, 3) := by decide +kernel
theorem dM_flow_91 : decode prog_14_method_53_code 91 = .ok (.lstore 7, 2) := by decide +kernel
theorem dM_flow_93 : decode prog_14_method_53_code 93 = .ok (.aload_n 0, 1) := by decide +kernel
theorem dM_flow_94 : decode prog_14_method_53_code 94 = .ok (.getfield 169, 3) := by decide +kernel
theorem dM_flow_97 : decode prog_14_method_53_code 97 = .ok (.aload_n 0, 1) := by decide +kernel
theorem dM_flow_98 : decode prog_14_method_53_code 98 = .ok (.getfield 74, 3) := by decide +kernel
theorem dM_flow_101 : decode prog_14_method_53_code 101 = .ok (.iload 6, 2) := by decide +kernel
theorem dM_flow_103 : decode prog_14_method_53_code 103 = .ok (.iaload, 1) := by decide +kernel
theorem dM_flow_104 : decode prog_14_method_53_code 104 = .ok (.dup2, 1) := by decide +kernel
theorem dM_flow_105 : decode prog_14_method_53_code 105 = .ok (.laload, 1) := by decide +kernel
theorem dM_flow_106 : decode prog_14_method_53_code 106 = .ok (.lload 7, 2) := by decide +kernel
theorem dM_flow_108 : decode prog_14_method_53_code 108 = .ok (.ladd, 1) := by decide +kernel
theorem dM_flow_109 : decode prog_14_method_53_code 109 = .ok (.lastore, 1) := by decide +kernel
theorem dM_flow_110 : decode prog_14_method_53_code 110 = .ok (.lload 4, 2) := by decide +kernel
theorem dM_flow_112 : decode prog_14_method_53_code 112 = .ok (.lload 7, 2) := by decide +kernel
theorem dM_flow_114 : decode prog_14_method_53_code 114 = .ok (.ladd, 1) := by decide +kernel
theorem dM_flow_115 : decode prog_14_method_53_code 115 = .ok (.lstore 4, 2) := by decide +kernel
theorem dM_flow_117 : decode prog_14_method_53_code 117 = .ok (.iinc 6 1, 3) := by decide +kernel
theorem dM_flow_120 : decode prog_14_method_53_code 120 = .ok (.goto (-82), 3) := by decide +kernel
theorem dM_flow_123 : decode prog_14_method_53_code 123 = .ok (.lload 4, 2) := by decide +kernel
theorem dM_flow_125 : decode prog_14_method_53_code 125 = .ok (.lreturn, 1) := by decide +kernel
theorem dM_forget_0 : decode prog_14_method_89_code 0 = .ok (.aload_n 0, 1) := by decide +kernel
theorem dM_forget_1 : decode prog_14_method_89_code 1 = .ok (.getfield 523, 3) := by decide +kernel
theorem dM_forget_4 : decode prog_14_method_89_code 4 = .ok (.aload_n 0, 1) := by decide +kernel
theorem dM_forget_5 : decode prog_14_method_89_code 5 = .ok (.getfield 526, 3) := by decide +kernel
theorem dM_forget_8 : decode prog_14_method_89_code 8 = .ok (.iadd, 1) := by decide +kernel
theorem dM_forget_9 : decode prog_14_method_89_code 9 = .ok (.istore_n 1, 1) := by decide +kernel
theorem dM_forget_10 : decode prog_14_method_89_code 10 = .ok (.aload_n 0, 1) := by decide +kernel
theorem dM_forget_11 : decode prog_14_method_89_code 11 = .ok (.iconst 0, 1) := by decide +kernel
theorem dM_forget_12 : decode prog_14_method_89_code 12 = .ok (.putfield 523, 3) := by decide +kernel
theorem dM_forget_15 : decode prog_14_method_89_code 15 = .ok (.aload_n 0, 1) := by decide +kernel
theorem dM_forget_16 : decode prog_14_method_89_code 16 = .ok (.iconst 0, 1) := by decide +kernel
theorem dM_forget_17 : decode prog_14_method_89_code 17 = .ok (.putfield 526, 3) := by decide +kernel
theorem dM_forget_20 : decode prog_14_method_89_code 20 = .ok (.iload_n 1, 1) := by decide +kernel
theorem dM_forget_21 : decode prog_14_method_89_code 21 = .ok (.ireturn, 1) := by decide +kernel
theorem dM_found_0 : decode prog_14_method_85_code 0 = .ok (.aload_n 0, 1) := by decide +kernel
theorem dM_found_1 : decode prog_14_method_85_code 1 = .ok (.iload_n 1, 1) := by decide +kernel
theorem dM_found_2 : decode prog_14_method_85_code 2 = .ok (.invokevirtual 287, 3) := by decide +kernel
theorem dM_found_5 : decode prog_14_method_85_code 5 = .ok (.ifCond .eq 23, 3) := by decide +kernel
theorem dM_found_8 : decode prog_14_method_85_code 8 = .ok (.aload_n 0, 1) := by decide +kernel
theorem dM_found_9 : decode prog_14_method_85_code 9 = .ok (.getfield 53, 3) := by decide +kernel
theorem dM_found_12 : decode prog_14_method_85_code 12 = .ok (.iload_n 1, 1) := by decide +kernel
theorem dM_found_13 : decode prog_14_method_85_code 13 = .ok (.iaload, 1) := by decide +kernel
theorem dM_found_14 : decode prog_14_method_85_code 14 = .ok (.iconst (-1), 1) := by decide +kernel
theorem dM_found_15 : decode prog_14_method_85_code 15 = .ok (.if_icmp .ne 13, 3) := by decide +kernel
theorem dM_found_18 : decode prog_14_method_85_code 18 = .ok (.aload_n 0, 1) := by decide +kernel
theorem dM_found_19 : decode prog_14_method_85_code 19 = .ok (.getfield 216, 3) := by decide +kernel
theorem dM_found_22 : decode prog_14_method_85_code 22 = .ok (.sipush 260, 3) := by decide +kernel
theorem dM_found_25 : decode prog_14_method_85_code 25 = .ok (.if_icmp .ne 5, 3) := by decide +kernel
theorem dM_found_28 : decode prog_14_method_85_code 28 = .ok (.iconst 0, 1) := by decide +kernel
theorem dM_found_29 : decode prog_14_method_85_code 29 = .ok (.ireturn, 1) := by decide +kernel
theorem dM_found_30 : decode prog_14_method_85_code 30 = .ok (.aload_n 0, 1) := by decide +kernel
theorem dM_found_31 : decode prog_14_method_85_code 31 = .ok (.getfield 53, 3) := by decide +kernel
theorem dM_found_34 : decode prog_14_method_85_code 34 = .ok (.iload_n 1, 1) := by decide +kernel
theorem dM_found_35 : decode prog_14_method_85_code 35 = .ok (.aload_n 0, 1) := by decide +kernel
theorem dM_found_36 : decode prog_14_method_85_code 36 = .ok (.getfield 216, 3) := by decide +kernel
theorem dM_found_39 : decode prog_14_method_85_code 39 = .ok (.iastore, 1) := by decide +kernel
theorem dM_found_40 : decode prog_14_method_85_code 40 = .ok (.iconst 1, 1) := by decide +kernel
theorem dM_found_41 : decode prog_14_method_85_code 41 = .ok (.ireturn, 1) := by decide +kernel
theorem dM_fund_0 : decode prog_14_method_19_code 0 = .ok (.iload_n 1, 1) := by decide +kernel
theorem dM_fund_1 : decode prog_14_method_19_code 1 = .ok (.i2l, 1) := by decide +kernel
theorem dM_fund_2 : decode prog_14_method_19_code 2 = .ok (.lconst 0, 1) := by decide +kernel
theorem dM_fund_3 : decode prog_14_method_19_code 3 = .ok (.ldc2_w 278, 3) := by decide +kernel
theorem dM_fund_6 : decode prog_14_method_19_code 6 = .ok (.invokestatic 222, 3) := by decide +kernel
theorem dM_fund_9 : decode prog_14_method_19_code 9 = .ok (.ifCond .eq 18, 3) := by decide +kernel
theorem dM_fund_12 : decode prog_14_method_19_code 12 = .ok (.aload_n 0, 1) := by decide +kernel
theorem dM_fund_13 : decode prog_14_method_19_code 13 = .ok (.getfield 275, 3) := by decide +kernel
theorem dM_fund_16 : decode prog_14_method_19_code 16 = .ok (.iconst 4, 1) := by decide +kernel
theorem dM_fund_17 : decode prog_14_method_19_code 17 = .ok (.if_icmp .eq 10, 3) := by decide +kernel
theorem dM_fund_20 : decode prog_14_method_19_code 20 = .ok (.aload_n 0, 1) := by decide +kernel
theorem dM_fund_21 : decode prog_14_method_19_code 21 = .ok (.getfield 216, 3) := by decide +kernel
theorem dM_fund_24 : decode prog_14_method_19_code 24 = .ok (.ifCond .eq 5, 3) := by decide +kernel
theorem dM_fund_27 : decode prog_14_method_19_code 27 = .ok (.iconst (-1), 1) := by decide +kernel
theorem dM_fund_28 : decode prog_14_method_19_code 28 = .ok (.ireturn, 1) := by decide +kernel
theorem dM_fund_29 : decode prog_14_method_19_code 29 = .ok (.aload_n 0, 1) := by decide +kernel
theorem dM_fund_30 : decode prog_14_method_19_code 30 = .ok (.getfield 44, 3) := by decide +kernel
theorem dM_fund_33 : decode prog_14_method_19_code 33 = .ok (.aload_n 0, 1) := by decide +kernel
theorem dM_fund_34 : decode prog_14_method_19_code 34 = .ok (.getfield 275, 3) := by decide +kernel
theorem dM_fund_37 : decode prog_14_method_19_code 37 = .ok (.iload_n 1, 1) := by decide +kernel
theorem dM_fund_38 : decode prog_14_method_19_code 38 = .ok (.iastore, 1) := by decide +kernel
theorem dM_fund_39 : decode prog_14_method_19_code 39 = .ok (.aload_n 0, 1) := by decide +kernel
theorem dM_fund_40 : decode prog_14_method_19_code 40 = .ok (.getfield 53, 3) := by decide +kernel
theorem dM_fund_43 : decode prog_14_method_19_code 43 = .ok (.aload_n 0, 1) := by decide +kernel
theorem dM_fund_44 : decode prog_14_method_19_code 44 = .ok (.getfield 275, 3) := by decide +kernel
theorem dM_fund_47 : decode prog_14_method_19_code 47 = .ok (.iconst (-1), 1) := by decide +kernel
theorem dM_fund_48 : decode prog_14_method_19_code 48 = .ok (.iastore, 1) := by decide +kernel
theorem dM_fund_49 : decode prog_14_method_19_code 49 = .ok (.aload_n 0, 1) := by decide +kernel
theorem dM_fund_50 : decode prog_14_method_19_code 50 = .ok (.dup, 1) := by decide +kernel
theorem dM_fund_51 : decode prog_14_method_19_code 51 = .ok (.getfield 275, 3) := by decide +kernel
theorem dM_fund_54 : decode prog_14_method_19_code 54 = .ok (.iconst 1, 1) := by decide +kernel
theorem dM_fund_55 : decode prog_14_method_19_code 55 = .ok (.iadd, 1) := by decide +kernel
theorem dM_fund_56 : decode prog_14_method_19_code 56 = .ok (.putfield 275, 3) := by decide +kernel
theorem dM_fund_59 : decode prog_14_method_19_code 59 = .ok (.aload_n 0, 1) := by decide +kernel
theorem dM_fund_60 : decode prog_14_method_19_code 60 = .ok (.getfield 275, 3) := by decide +kernel
theorem dM_fund_63 : decode prog_14_method_19_code 63 = .ok (.iconst 1, 1) := by decide +kernel
theorem dM_fund_64 : decode prog_14_method_19_code 64 = .ok (.isub, 1) := by decide +kernel
theorem dM_fund_65 : decode prog_14_method_19_code 65 = .ok (.ireturn, 1) := by decide +kernel
theorem dM_go_0 : decode prog_14_method_60_code 0 = .ok (.iload_n 1, 1) := by decide +kernel
theorem dM_go_1 : decode prog_14_method_60_code 1 = .ok (.i2l, 1) := by decide +kernel
theorem dM_go_2 : decode prog_14_method_60_code 2 = .ok (.lconst 0, 1) := by decide +kernel
theorem dM_go_3 : decode prog_14_method_60_code 3 = .ok (.ldc2_w 474, 3) := by decide +kernel
theorem dM_go_6 : decode prog_14_method_60_code 6 = .ok (.invokestatic 222, 3) := by decide +kernel
theorem dM_go_9 : decode prog_14_method_60_code 9 = .ok (.ifCond .ne 5, 3) := by decide +kernel
theorem dM_go_12 : decode prog_14_method_60_code 12 = .ok (.iconst (-1), 1) := by decide +kernel
theorem dM_go_13 : decode prog_14_method_60_code 13 = .ok (.ireturn, 1) := by decide +kernel
theorem dM_go_14 : decode prog_14_method_60_code 14 = .ok (.iconst 0, 1) := by decide +kernel
theorem dM_go_15 : decode prog_14_method_60_code 15 = .ok (.istore_n 2, 1) := by decide +kernel
theorem dM_go_16 : decode prog_14_method_60_code 16 = .ok (.iload_n 2, 1) := by decide +kernel
theorem dM_go_17 : decode prog_14_method_60_code 17 = .ok (.iload_n 1, 1) := by decide +kernel
theorem dM_go_18 : decode prog_14_method_60_code 18 = .ok (.if_icmp .ge 33, 3) := by decide +kernel
theorem dM_go_21 : decode prog_14_method_60_code 21 = .ok (.aload_n 0, 1) := by decide +kernel
theorem dM_go_22 : decode prog_14_method_60_code 22 = .ok (.getfield 216, 3) := by decide +kernel
theorem dM_go_25 : decode prog_14_method_60_code 25 = .ok (.sipush 260, 3) := by decide +kernel
theorem dM_go_28 : decode prog_14_method_60_code 28 = .ok (.if_icmp .ge 23, 3) := by decide +kernel
theorem dM_go_31 : decode prog_14_method_60_code 31 = .ok (.aload_n 0, 1) := by decide +kernel
theorem dM_go_32 : decode prog_14_method_60_code 32 = .ok (.invokevirtual 476, 3) := by decide +kernel
theorem dM_go_35 : decode prog_14_method_60_code 35 = .ok (.aload_n 0, 1) := by decide +kernel
theorem dM_go_36 : decode prog_14_method_60_code 36 = .ok (.dup, 1) := by decide +kernel
theorem dM_go_37 : decode prog_14_method_60_code 37 = .ok (.getfield 216, 3) := by decide +kernel
theorem dM_go_40 : decode prog_14_method_60_code 40 = .ok (.iconst 1, 1) := by decide +kernel
theorem dM_go_41 : decode prog_14_method_60_code 41 = .ok (.iadd, 1) := by decide +kernel
theorem dM_go_42 : decode prog_14_method_60_code 42 = .ok (.putfield 216, 3) := by decide +kernel
theorem dM_go_45 : decode prog_14_method_60_code 45 = .ok (.iinc 2 1, 3) := by decide +kernel
theorem dM_go_48 : decode prog_14_method_60_code 48 = .ok (.goto (-32), 3) := by decide +kernel
theorem dM_go_51 : decode prog_14_method_60_code 51 = .ok (.aload_n 0, 1) := by decide +kernel
theorem dM_go_52 : decode prog_14_method_60_code 52 = .ok (.getfield 216, 3) := by decide +kernel
theorem dM_go_55 : decode prog_14_method_60_code 55 = .ok (.ireturn, 1) := by decide +kernel
theorem dM_goesThrough_0 : decode prog_14_method_57_code 0 = .ok (.iload_n 2, 1) := by decide +kernel
theorem dM_goesThrough_1 : decode prog_14_method_57_code 1 = .ok (.iconst 1, 1) := by decide +kernel
theorem dM_goesThrough_2 : decode prog_14_method_57_code 2 = .ok (.if_icmp .ne 12, 3) := by decide +kernel
theorem dM_goesThrough_5 : decode prog_14_method_57_code 5 = .ok (.iload_n 1, 1) := by decide +kernel
theorem dM_goesThrough_6 : decode prog_14_method_57_code 6 = .ok (.iload_n 3, 1) := by decide +kernel
theorem dM_goesThrough_7 : decode prog_14_method_57_code 7 = .ok (.if_icmp .ne 7, 3) := by decide +kernel
theorem dM_goesThrough_10 : decode prog_14_method_57_code 10 = .ok (.iconst 1, 1) := by decide +kernel
theorem dM_goesThrough_11 : decode prog_14_method_57_code 11 = .ok (.goto 4, 3) := by decide +kernel
theorem dM_goesThrough_14 : decode prog_14_method_57_code 14 = .ok (.iconst 0, 1) := by decide +kernel
theorem dM_goesThrough_15 : decode prog_14_method_57_code 15 = .ok (.istore 4, 2) := by decide +kernel
theorem dM_goesThrough_17 : decode prog_14_method_57_code 17 = .ok (.iload_n 2, 1) := by decide +kernel
theorem dM_goesThrough_18 : decode prog_14_method_57_code 18 = .ok (.ifCond .eq 12, 3) := by decide +kernel
theorem dM_goesThrough_21 : decode prog_14_method_57_code 21 = .ok (.iload 4, 2) := by decide +kernel
theorem dM_goesThrough_23 : decode prog_14_method_57_code 23 = .ok (.ifCond .ne 7, 3) := by decide +kernel
theorem dM_goesThrough_26 : decode prog_14_method_57_code 26 = .ok (.iconst 1, 1) := by decide +kernel
theorem dM_goesThrough_27 : decode prog_14_method_57_code 27 = .ok (.goto 4, 3) := by decide +kernel
theorem dM_goesThrough_30 : decode prog_14_method_57_code 30 = .ok (.iconst 0, 1) := by decide +kernel
theorem dM_goesThrough_31 : decode prog_14_method_57_code 31 = .ok (.istore 5, 2) := by decide +kernel
theorem dM_goesThrough_33 : decode prog_14_method_57_code 33 = .ok (.iconst 0, 1) := by decide +kernel
theorem dM_goesThrough_34 : decode prog_14_method_57_code 34 = .ok (.istore 6, 2) := by decide +kernel
theorem dM_goesThrough_36 : decode prog_14_method_57_code 36 = .ok (.iload 6, 2) := by decide +kernel
theorem dM_goesThrough_38 : decode prog_14_method_57_code 38 = .ok (.aload_n 0, 1) := by decide +kernel
theorem dM_goesThrough_39 : decode prog_14_method_57_code 39 = .ok (.getfield 275, 3) := by decide +kernel
theorem dM_goesThrough_42 : decode prog_14_method_57_code 42 = .ok (.if_icmp .ge 81, 3) := by decide +kernel
theorem dM_goesThrough_45 : decode prog_14_method_57_code 45 = .ok (.aload_n 0, 1) := by decide +kernel
theorem dM_goesThrough_46 : decode prog_14_method_57_code 46 = .ok (.iload 6, 2) := by decide +kernel
theorem dM_goesThrough_48 : decode prog_14_method_57_code 48 = .ok (.iload_n 1, 1) := by decide +kernel
theorem dM_goesThrough_49 : decode prog_14_method_57_code 49 = .ok (.invokevirtual 449, 3) := by decide +kernel
theorem dM_goesThrough_52 : decode prog_14_method_57_code 52 = .ok (.aload_n 0, 1) := by decide +kernel
theorem dM_goesThrough_53 : decode prog_14_method_57_code 53 = .ok (.iload 6, 2) := by decide +kernel
theorem dM_goesThrough_55 : decode prog_14_method_57_code 55 = .ok (.iload_n 1, 1) := by decide +kernel
theorem dM_goesThrough_56 : decode prog_14_method_57_code 56 = .ok (.invokevirtual 453, 3) := by decide +kernel
theorem dM_goesThrough_59 : decode prog_14_method_57_code 59 = .ok (.aload_n 0, 1) := by decide +kernel
theorem dM_goesThrough_60 : decode prog_14_method_57_code 60 = .ok (.iload_n 1, 1) := by decide +kernel
theorem dM_goesThrough_61 : decode prog_14_method_57_code 61 = .ok (.invokevirtual 229, 3) := by decide +kernel
theorem dM_goesThrough_64 : decode prog_14_method_57_code 64 = .ok (.ifCond .ne 6, 3) := by decide +kernel
theorem dM_goesThrough_67 : decode prog_14_method_57_code 67 = .ok (.goto 50, 3) := by decide +kernel
theorem dM_goesThrough_70 : decode prog_14_method_57_code 70 = .ok (.iload 5, 2) := by decide +kernel
theorem dM_goesThrough_72 : decode prog_14_method_57_code 72 = .ok (.ifCond .eq 25, 3) := by decide +kernel
theorem dM_goesThrough_75 : decode prog_14_method_57_code 75 = .ok (.aload_n 0, 1) := by decide +kernel
theorem dM_goesThrough_76 : decode prog_14_method_57_code 76 = .ok (.getfield 137, 3) := by decide +kernel
theorem dM_goesThrough_79 : decode prog_14_method_57_code 79 = .ok (.iload 6, 2) := by decide +kernel
theorem dM_goesThrough_81 : decode prog_14_method_57_code 81 = .ok (.dup2, 1) := by decide +kernel
theorem dM_goesThrough_82 : decode prog_14_method_57_code 82 = .ok (.laload, 1) := by decide +kernel
theorem dM_goesThrough_83 : decode prog_14_method_57_code 83 = .ok (.aload_n 0, 1) := by decide +kernel
theorem dM_goesThrough_84 : decode prog_14_method_57_code 84 = .ok (.getfield 163, 3) := by decide +kernel
theorem dM_goesThrough_87 : decode prog_14_method_57_code 87 = .ok (.iload 6, 2) := by decide +kernel
theorem dM_goesThrough_89 : decode prog_14_method_57_code 89 = .ok (.aaload, 1) := by decide +kernel
theorem dM_goesThrough_90 : decode prog_14_method_57_code 90 = .ok (.iload_n 1, 1) := by decide +kernel
theorem dM_goesThrough_91 : decode prog_14_method_57_code 91 = .ok (.laload, 1) := by decide +kernel
theorem dM_goesThrough_92 : decode prog_14_method_57_code 92 = .ok (.lsub, 1) := by decide +kernel
theorem dM_goesThrough_93 : decode prog_14_method_57_code 93 = .ok (.lastore, 1) := by decide +kernel
theorem dM_goesThrough_94 : decode prog_14_method_57_code 94 = .ok (.goto 12, 3) := by decide +kernel
theorem dM_goesThrough_97 : decode prog_14_method_57_code 97 = .ok (.aload_n 0, 1) := by decide +kernel
theorem dM_goesThrough_98 : decode prog_14_method_57_code 98 = .ok (.iload 6, 2) := by decide +kernel
theorem dM_goesThrough_100 : decode prog_14_method_57_code 100 = .ok (.iload_n 1, 1) := by decide +kernel
theorem dM_goesThrough_101 : decode prog_14_method_57_code 101 = .ok (.iload 4, 2) := by decide +kernel
theorem dM_goesThrough_103 : decode prog_14_method_57_code 103 = .ok (.invokevirtual 455, 3) := by decide +kernel
theorem dM_goesThrough_106 : decode prog_14_method_57_code 106 = .ok (.aload_n 0, 1) := by decide +kernel
theorem dM_goesThrough_107 : decode prog_14_method_57_code 107 = .ok (.iload 6, 2) := by decide +kernel
theorem dM_goesThrough_109 : decode prog_14_method_57_code 109 = .ok (.iload_n 1, 1) := by decide +kernel
theorem dM_goesThrough_110 : decode prog_14_method_57_code 110 = .ok (.iload 5, 2) := by decide +kernel
theorem dM_goesThrough_112 : decode prog_14_method_57_code 112 = .ok (.iload 4, 2) := by decide +kernel
theorem dM_goesThrough_114 : decode prog_14_method_57_code 114 = .ok (.invokevirtual 459, 3) := by decide +kernel
theorem dM_goesThrough_117 : decode prog_14_method_57_code 117 = .ok (.iinc 6 1, 3) := by decide +kernel
theorem dM_goesThrough_120 : decode prog_14_method_57_code 120 = .ok (.goto (-84), 3) := by decide +kernel
theorem dM_goesThrough_123 : decode prog_14_method_57_code 123 = .ok (.return_, 1) := by decide +kernel
theorem dM_goesTo_0 : decode prog_14_method_78_code 0 = .ok (.aload_n 0, 1) := by decide +kernel
theorem dM_goesTo_1 : decode prog_14_method_78_code 1 = .ok (.getfield 181, 3) := by decide +kernel
theorem dM_goesTo_4 : decode prog_14_method_78_code 4 = .ok (.iload_n 2, 1) := by decide +kernel
theorem dM_goesTo_5 : decode prog_14_method_78_code 5 = .ok (.iaload, 1) := by decide +kernel
theorem dM_goesTo_6 : decode prog_14_method_78_code 6 = .ok (.iconst 1, 1) := by decide +kernel
theorem dM_goesTo_7 : decode prog_14_method_78_code 7 = .ok (.if_icmp .ne 14, 3) := by decide +kernel
theorem dM_goesTo_10 : decode prog_14_method_78_code 10 = .ok (.aload_n 0, 1) := by decide +kernel
theorem dM_goesTo_11 : decode prog_14_method_78_code 11 = .ok (.iload_n 1, 1) := by decide +kernel
theorem dM_goesTo_12 : decode prog_14_method_78_code 12 = .ok (.iload_n 3, 1) := by decide +kernel
theorem dM_goesTo_13 : decode prog_14_method_78_code 13 = .ok (.bipush 6, 2) := by decide +kernel
theorem dM_goesTo_15 : decode prog_14_method_78_code 15 = .ok (.invokevirtual 305, 3) := by decide +kernel
theorem dM_goesTo_18 : decode prog_14_method_78_code 18 = .ok (.goto 25, 3) := by decide +kernel
theorem dM_goesTo_21 : decode prog_14_method_78_code 21 = .ok (.aload_n 0, 1) := by decide +kernel
theorem dM_goesTo_22 : decode prog_14_method_78_code 22 = .ok (.getfield 181, 3) := by decide +kernel
theorem dM_goesTo_25 : decode prog_14_method_78_code 25 = .ok (.iload_n 2, 1) := by decide +kernel
theorem dM_goesTo_26 : decode prog_14_method_78_code 26 = .ok (.iaload, 1) := by decide +kernel
theorem dM_goesTo_27 : decode prog_14_method_78_code 27 = .ok (.iconst 3, 1) := by decide +kernel
theorem dM_goesTo_28 : decode prog_14_method_78_code 28 = .ok (.if_icmp .ne 14, 3) := by decide +kernel
theorem dM_goesTo_31 : decode prog_14_method_78_code 31 = .ok (.aload_n 0, 1) := by decide +kernel
theorem dM_goesTo_32 : decode prog_14_method_78_code 32 = .ok (.iload_n 1, 1) := by decide +kernel
theorem dM_goesTo_33 : decode prog_14_method_78_code 33 = .ok (.iload_n 3, 1) := by decide +kernel
theorem dM_goesTo_34 : decode prog_14_method_78_code 34 = .ok (.bipush 9, 2) := by decide +kernel
theorem dM_goesTo_36 : decode prog_14_method_78_code 36 = .ok (.invokevirtual 305, 3) := by decide +kernel
theorem dM_goesTo_39 : decode prog_14_method_78_code 39 = .ok (.goto 4, 3) := by decide +kernel
theorem dM_goesTo_42 : decode prog_14_method_78_code 42 = .ok (.iconst (-1), 1) := by decide +kernel
theorem dM_goesTo_43 : decode prog_14_method_78_code 43 = .ok (.ireturn, 1) := by decide +kernel
theorem dM_gone_0 : decode prog_14_method_84_code 0 = .ok (.iload_n 1, 1) := by decide +kernel
theorem dM_gone_1 : decode prog_14_method_84_code 1 = .ok (.i2l, 1) := by decide +kernel
theorem dM_gone_2 : decode prog_14_method_84_code 2 = .ok (.lconst 0, 1) := by decide +kernel
theorem dM_gone_3 : decode prog_14_method_84_code 3 = .ok (.aload_n 0, 1) := by decide +kernel
theorem dM_gone_4 : decode prog_14_method_84_code 4 = .ok (.getfield 284, 3) := by decide +kernel
theorem dM_gone_7 : decode prog_14_method_84_code 7 = .ok (.iconst 1, 1) := by decide +kernel
theorem dM_gone_8 : decode prog_14_method_84_code 8 = .ok (.isub, 1) := by decide +kernel
theorem dM_gone_9 : decode prog_14_method_84_code 9 = .ok (.i2l, 1) := by decide +kernel
theorem dM_gone_10 : decode prog_14_method_84_code 10 = .ok (.invokestatic 222, 3) := by decide +kernel
theorem dM_gone_13 : decode prog_14_method_84_code 13 = .ok (.ifCond .eq 13, 3) := by decide +kernel
theorem dM_gone_16 : decode prog_14_method_84_code 16 = .ok (.aload_n 0, 1) := by decide +kernel
theorem dM_gone_17 : decode prog_14_method_84_code 17 = .ok (.getfield 50, 3) := by decide +kernel
theorem dM_gone_20 : decode prog_14_method_84_code 20 = .ok (.iload_n 1, 1) := by decide +kernel
theorem dM_gone_21 : decode prog_14_method_84_code 21 = .ok (.iaload, 1) := by decide +kernel
theorem dM_gone_22 : decode prog_14_method_84_code 22 = .ok (.iconst (-1), 1) := by decide +kernel
theorem dM_gone_23 : decode prog_14_method_84_code 23 = .ok (.if_icmp .eq 5, 3) := by decide +kernel
theorem dM_gone_26 : decode prog_14_method_84_code 26 = .ok (.iconst 0, 1) := by decide +kernel
theorem dM_gone_27 : decode prog_14_method_84_code 27 = .ok (.ireturn, 1) := by decide +kernel
theorem dM_gone_28 : decode prog_14_method_84_code 28 = .ok (.aload_n 0, 1) := by decide +kernel
theorem dM_gone_29 : decode prog_14_method_84_code 29 = .ok (.getfield 50, 3) := by decide +kernel
theorem dM_gone_32 : decode prog_14_method_84_code 32 = .ok (.iload_n 1, 1) := by decide +kernel
theorem dM_gone_33 : decode prog_14_method_84_code 33 = .ok (.aload_n 0, 1) := by decide +kernel
theorem dM_gone_34 : decode prog_14_method_84_code 34 = .ok (.getfield 216, 3) := by decide +kernel
theorem dM_gone_37 : decode prog_14_method_84_code 37 = .ok (.iastore, 1) := by decide +kernel
theorem dM_gone_38 : decode prog_14_method_84_code 38 = .ok (.iconst 1, 1) := by decide +kernel
theorem dM_gone_39 : decode prog_14_method_84_code 39 = .ok (.ireturn, 1) := by decide +kernel
theorem dM_holder_0 : decode prog_14_method_20_code 0 = .ok (.iload_n 1, 1) := by decide +kernel
theorem dM_holder_1 : decode prog_14_method_20_code 1 = .ok (.i2l, 1) := by decide +kernel
theorem dM_holder_2 : decode prog_14_method_20_code 2 = .ok (.ldc2_w 280, 3) := by decide +kernel
theorem dM_holder_5 : decode prog_14_method_20_code 5 = .ok (.ldc2_w 282, 3) := by decide +kernel
theorem dM_holder_8 : decode prog_14_method_20_code 8 = .ok (.invokestatic 222, 3) := by decide +kernel
theorem dM_holder_11 : decode prog_14_method_20_code 11 = .ok (.ifCond .eq 12, 3) := by decide +kernel
theorem dM_holder_14 : decode prog_14_method_20_code 14 = .ok (.aload_n 0, 1) := by decide +kernel
theorem dM_holder_15 : decode prog_14_method_20_code 15 = .ok (.getfield 284, 3) := by decide +kernel
theorem dM_holder_18 : decode prog_14_method_20_code 18 = .ok (.bipush 16, 2) := by decide +kernel
theorem dM_holder_20 : decode prog_14_method_20_code 20 = .ok (.if_icmp .ne 5, 3) := by decide +kernel
theorem dM_holder_23 : decode prog_14_method_20_code 23 = .ok (.iconst (-1), 1) := by decide +kernel
theorem dM_holder_24 : decode prog_14_method_20_code 24 = .ok (.ireturn, 1) := by decide +kernel
theorem dM_holder_25 : decode prog_14_method_20_code 25 = .ok (.aload_n 0, 1) := by decide +kernel
theorem dM_holder_26 : decode prog_14_method_20_code 26 = .ok (.getfield 47, 3) := by decide +kernel
theorem dM_holder_29 : decode prog_14_method_20_code 29 = .ok (.aload_n 0, 1) := by decide +kernel
theorem dM_holder_30 : decode prog_14_method_20_code 30 = .ok (.getfield 284, 3) := by decide +kernel
theorem dM_holder_33 : decode prog_14_method_20_code 33 = .ok (.iload_n 1, 1) := by decide +kernel
theorem dM_holder_34 : decode prog_14_method_20_code 34 = .ok (.iastore, 1) := by decide +kernel
theorem dM_holder_35 : decode prog_14_method_20_code 35 = .ok (.aload_n 0, 1) := by decide +kernel
theorem dM_holder_36 : decode prog_14_method_20_code 36 = .ok (.getfield 50, 3) := by decide +kernel
theorem dM_holder_39 : decode prog_14_method_20_code 39 = .ok (.aload_n 0, 1) := by decide +kernel
theorem dM_holder_40 : decode prog_14_method_20_code 40 = .ok (.getfield 284, 3) := by decide +kernel
theorem dM_holder_43 : decode prog_14_method_20_code 43 = .ok (.iconst (-1), 1) := by decide +kernel
theorem dM_holder_44 : decode prog_14_method_20_code 44 = .ok (.iastore, 1) := by decide +kernel
theorem dM_holder_45 : decode prog_14_method_20_code 45 = .ok (.aload_n 0, 1) := by decide +kernel
theorem dM_holder_46 : decode prog_14_method_20_code 46 = .ok (.dup, 1) := by decide +kernel
theorem dM_holder_47 : decode prog_14_method_20_code 47 = .ok (.getfield 284, 3) := by decide +kernel
theorem dM_holder_50 : decode prog_14_method_20_code 50 = .ok (.iconst 1, 1) := by decide +kernel
theorem dM_holder_51 : decode prog_14_method_20_code 51 = .ok (.iadd, 1) := by decide +kernel
theorem dM_holder_52 : decode prog_14_method_20_code 52 = .ok (.putfield 284, 3) := by decide +kernel
theorem dM_holder_55 : decode prog_14_method_20_code 55 = .ok (.aload_n 0, 1) := by decide +kernel
theorem dM_holder_56 : decode prog_14_method_20_code 56 = .ok (.getfield 284, 3) := by decide +kernel
theorem dM_holder_59 : decode prog_14_method_20_code 59 = .ok (.iconst 1, 1) := by decide +kernel
theorem dM_holder_60 : decode prog_14_method_20_code 60 = .ok (.isub, 1) := by decide +kernel
theorem dM_holder_61 : decode prog_14_method_20_code 61 = .ok (.ireturn, 1) := by decide +kernel
theorem dM_holiday_0 : decode prog_14_method_7_code 0 = .ok (.iload_n 1, 1) := by decide +kernel
theorem dM_holiday_1 : decode prog_14_method_7_code 1 = .ok (.i2l, 1) := by decide +kernel
theorem dM_holiday_2 : decode prog_14_method_7_code 2 = .ok (.aload_n 0, 1) := by decide +kernel
theorem dM_holiday_3 : decode prog_14_method_7_code 3 = .ok (.getfield 216, 3) := by decide +kernel
theorem dM_holiday_6 : decode prog_14_method_7_code 6 = .ok (.iconst 1, 1) := by decide +kernel
theorem dM_holiday_7 : decode prog_14_method_7_code 7 = .ok (.iadd, 1) := by decide +kernel
theorem dM_holiday_8 : decode prog_14_method_7_code 8 = .ok (.i2l, 1) := by decide +kernel
theorem dM_holiday_9 : decode prog_14_method_7_code 9 = .ok (.ldc2_w 220, 3) := by decide +kernel
theorem dM_holiday_12 : decode prog_14_method_7_code 12 = .ok (.invokestatic 222, 3) := by decide +kernel
theorem dM_holiday_15 : decode prog_14_method_7_code 15 = .ok (.ifCond .eq 12, 3) := by decide +kernel
theorem dM_holiday_18 : decode prog_14_method_7_code 18 = .ok (.aload_n 0, 1) := by decide +kernel
theorem dM_holiday_19 : decode prog_14_method_7_code 19 = .ok (.getfield 9, 3) := by decide +kernel
theorem dM_holiday_22 : decode prog_14_method_7_code 22 = .ok (.iload_n 1, 1) := by decide +kernel
theorem dM_holiday_23 : decode prog_14_method_7_code 23 = .ok (.baload, 1) := by decide +kernel
theorem dM_holiday_24 : decode prog_14_method_7_code 24 = .ok (.ifCond .eq 5, 3) := by decide +kernel
theorem dM_holiday_27 : decode prog_14_method_7_code 27 = .ok (.iconst 0, 1) := by decide +kernel
theorem dM_holiday_28 : decode prog_14_method_7_code 28 = .ok (.ireturn, 1) := by decide +kernel
theorem dM_holiday_29 : decode prog_14_method_7_code 29 = .ok (.aload_n 0, 1) := by decide +kernel
theorem dM_holiday_30 : decode prog_14_method_7_code 30 = .ok (.getfield 9, 3) := by decide +kernel
theorem dM_holiday_33 : decode prog_14_method_7_code 33 = .ok (.iload_n 1, 1) := by decide +kernel
theorem dM_holiday_34 : decode prog_14_method_7_code 34 = .ok (.iconst 1, 1) := by decide +kernel
theorem dM_holiday_35 : decode prog_14_method_7_code 35 = .ok (.bastore, 1) := by decide +kernel
theorem dM_holiday_36 : decode prog_14_method_7_code 36 = .ok (.aload_n 0, 1) := by decide +kernel
theorem dM_holiday_37 : decode prog_14_method_7_code 37 = .ok (.dup, 1) := by decide +kernel
theorem dM_holiday_38 : decode prog_14_method_7_code 38 = .ok (.getfield 226, 3) := by decide +kernel
theorem dM_holiday_41 : decode prog_14_method_7_code 41 = .ok (.iconst 1, 1) := by decide +kernel
theorem dM_holiday_42 : decode prog_14_method_7_code 42 = .ok (.iadd, 1) := by decide +kernel
theorem dM_holiday_43 : decode prog_14_method_7_code 43 = .ok (.putfield 226, 3) := by decide +kernel
theorem dM_holiday_46 : decode prog_14_method_7_code 46 = .ok (.iconst 1, 1) := by decide +kernel
theorem dM_holiday_47 : decode prog_14_method_7_code 47 = .ok (.ireturn, 1) := by decide +kernel
theorem dM_house_0 : decode prog_14_method_80_code 0 = .ok (.aload_n 0, 1) := by decide +kernel
theorem dM_house_1 : decode prog_14_method_80_code 1 = .ok (.iload_n 1, 1) := by decide +kernel
theorem dM_house_2 : decode prog_14_method_80_code 2 = .ok (.invokevirtual 287, 3) := by decide +kernel
theorem dM_house_5 : decode prog_14_method_80_code 5 = .ok (.ifCond .eq 11, 3) := by decide +kernel
theorem dM_house_8 : decode prog_14_method_80_code 8 = .ok (.aload_n 0, 1) := by decide +kernel
theorem dM_house_9 : decode prog_14_method_80_code 9 = .ok (.iload_n 2, 1) := by decide +kernel
theorem dM_house_10 : decode prog_14_method_80_code 10 = .ok (.invokevirtual 508, 3) := by decide +kernel
theorem dM_house_13 : decode prog_14_method_80_code 13 = .ok (.ifCond .ne 7, 3) := by decide +kernel
theorem dM_house_16 : decode prog_14_method_80_code 16 = .ok (.ldc_w 266, 3) := by decide +kernel
theorem dM_house_19 : decode prog_14_method_80_code 19 = .ok (.ireturn, 1) := by decide +kernel
theorem dM_house_20 : decode prog_14_method_80_code 20 = .ok (.aload_n 0, 1) := by decide +kernel
theorem dM_house_21 : decode prog_14_method_80_code 21 = .ok (.iload_n 1, 1) := by decide +kernel
theorem dM_house_22 : decode prog_14_method_80_code 22 = .ok (.iload_n 2, 1) := by decide +kernel
theorem dM_house_23 : decode prog_14_method_80_code 23 = .ok (.invokevirtual 511, 3) := by decide +kernel
theorem dM_house_26 : decode prog_14_method_80_code 26 = .ok (.aload_n 0, 1) := by decide +kernel
theorem dM_house_27 : decode prog_14_method_80_code 27 = .ok (.iload_n 1, 1) := by decide +kernel
theorem dM_house_28 : decode prog_14_method_80_code 28 = .ok (.iload_n 2, 1) := by decide +kernel
theorem dM_house_29 : decode prog_14_method_80_code 29 = .ok (.invokevirtual 516, 3) := by decide +kernel
theorem dM_house_32 : decode prog_14_method_80_code 32 = .ok (.invokestatic 482, 3) := by decide +kernel
theorem dM_house_35 : decode prog_14_method_80_code 35 = .ok (.ireturn, 1) := by decide +kernel
theorem dM_houseOwes_0 : decode prog_14_method_79_code 0 = .ok (.aload_n 0, 1) := by decide +kernel
theorem dM_houseOwes_1 : decode prog_14_method_79_code 1 = .ok (.getfield 137, 3) := by decide +kernel
theorem dM_houseOwes_4 : decode prog_14_method_79_code 4 = .ok (.iload_n 1, 1) := by decide +kernel
theorem dM_houseOwes_5 : decode prog_14_method_79_code 5 = .ok (.laload, 1) := by decide +kernel
theorem dM_houseOwes_6 : decode prog_14_method_79_code 6 = .ok (.lstore_n 3, 1) := by decide +kernel
theorem dM_houseOwes_7 : decode prog_14_method_79_code 7 = .ok (.aload_n 0, 1) := by decide +kernel
theorem dM_houseOwes_8 : decode prog_14_method_79_code 8 = .ok (.aload_n 0, 1) := by decide +kernel
theorem dM_houseOwes_9 : decode prog_14_method_79_code 9 = .ok (.iload_n 2, 1) := by decide +kernel
theorem dM_houseOwes_10 : decode prog_14_method_79_code 10 = .ok (.invokevirtual 486, 3) := by decide +kernel
theorem dM_houseOwes_13 : decode prog_14_method_79_code 13 = .ok (.iload_n 2, 1) := by decide +kernel
theorem dM_houseOwes_14 : decode prog_14_method_79_code 14 = .ok (.iconst 2, 1) := by decide +kernel
theorem dM_houseOwes_15 : decode prog_14_method_79_code 15 = .ok (.invokevirtual 471, 3) := by decide +kernel
theorem dM_houseOwes_18 : decode prog_14_method_79_code 18 = .ok (.lload_n 3, 1) := by decide +kernel
theorem dM_houseOwes_19 : decode prog_14_method_79_code 19 = .ok (.aload_n 0, 1) := by decide +kernel
theorem dM_houseOwes_20 : decode prog_14_method_79_code 20 = .ok (.getfield 137, 3) := by decide +kernel
theorem dM_houseOwes_23 : decode prog_14_method_79_code 23 = .ok (.iload_n 1, 1) := by decide +kernel
theorem dM_houseOwes_24 : decode prog_14_method_79_code 24 = .ok (.laload, 1) := by decide +kernel
theorem dM_houseOwes_25 : decode prog_14_method_79_code 25 = .ok (.lsub, 1) := by decide +kernel
theorem dM_houseOwes_26 : decode prog_14_method_79_code 26 = .ok (.lstore 5, 2) := by decide +kernel
theorem dM_houseOwes_28 : decode prog_14_method_79_code 28 = .ok (.iconst 0, 1) := by decide +kernel
theorem dM_houseOwes_29 : decode prog_14_method_79_code 29 = .ok (.istore 7, 2) := by decide +kernel
theorem dM_houseOwes_31 : decode prog_14_method_79_code 31 = .ok (.iload 7, 2) := by decide +kernel
theorem dM_houseOwes_33 : decode prog_14_method_79_code 33 = .ok (.bipush 20, 2) := by decide +kernel
theorem dM_houseOwes_35 : decode prog_14_method_79_code 35 = .ok (.if_icmp .ge 65, 3) := by decide +kernel
theorem dM_houseOwes_38 : decode prog_14_method_79_code 38 = .ok (.aload_n 0, 1) := by decide +kernel
theorem dM_houseOwes_39 : decode prog_14_method_79_code 39 = .ok (.getfield 178, 3) := by decide +kernel
theorem dM_houseOwes_42 : decode prog_14_method_79_code 42 = .ok (.iload 7, 2) := by decide +kernel
theorem dM_houseOwes_44 : decode prog_14_method_79_code 44 = .ok (.laload, 1) := by decide +kernel
theorem dM_houseOwes_45 : decode prog_14_method_79_code 45 = .ok (.lconst 0, 1) := by decide +kernel
theorem dM_houseOwes_46 : decode prog_14_method_79_code 46 = .ok (.lcmp, 1) := by decide +kernel
theorem dM_houseOwes_47 : decode prog_14_method_79_code 47 = .ok (.ifCond .lt 35, 3) := by decide +kernel
theorem dM_houseOwes_50 : decode prog_14_method_79_code 50 = .ok (.aload_n 0, 1) := by decide +kernel
theorem dM_houseOwes_51 : decode prog_14_method_79_code 51 = .ok (.getfield 181, 3) := by decide +kernel
theorem dM_houseOwes_54 : decode prog_14_method_79_code 54 = .ok (.iload 7, 2) := by decide +kernel
theorem dM_houseOwes_56 : decode prog_14_method_79_code 56 = .ok (.iaload, 1) := by decide +kernel
theorem dM_houseOwes_57 : decode prog_14_method_79_code 57 = .ok (.ifCond .eq 25, 3) := by decide +kernel
theorem dM_houseOwes_60 : decode prog_14_method_79_code 60 = .ok (.aload_n 0, 1) := by decide +kernel
theorem dM_houseOwes_61 : decode prog_14_method_79_code 61 = .ok (.getfield 181, 3) := by decide +kernel
theorem dM_houseOwes_64 : decode prog_14_method_79_code 64 = .ok (.iload 7, 2) := by decide +kernel
theorem dM_houseOwes_66 : decode prog_14_method_79_code 66 = .ok (.iaload, 1) := by decide +kernel
theorem dM_houseOwes_67 : decode prog_14_method_79_code 67 = .ok (.iconst 2, 1) := by decide +kernel
theorem dM_houseOwes_68 : decode prog_14_method_79_code 68 = .ok (.if_icmp .eq 14, 3) := by decide +kernel
theorem dM_houseOwes_71 : decode prog_14_method_79_code 71 = .ok (.aload_n 0, 1) := by decide +kernel
theorem dM_houseOwes_72 : decode prog_14_method_79_code 72 = .ok (.iload_n 1, 1) := by decide +kernel
theorem dM_houseOwes_73 : decode prog_14_method_79_code 73 = .ok (.iload 7, 2) := by decide +kernel
theorem dM_houseOwes_75 : decode prog_14_method_79_code 75 = .ok (.iload_n 2, 1) := by decide +kernel
theorem dM_houseOwes_76 : decode prog_14_method_79_code 76 = .ok (.invokevirtual 513, 3) := by decide +kernel
theorem dM_houseOwes_79 : decode prog_14_method_79_code 79 = .ok (.ifCond .le 15, 3) := by decide +kernel
theorem dM_houseOwes_82 : decode prog_14_method_79_code 82 = .ok (.lload 5, 2) := by decide +kernel
theorem dM_houseOwes_84 : decode prog_14_method_79_code 84 = .ok (.aload_n 0, 1) := by decide +kernel
theorem dM_houseOwes_85 : decode prog_14_method_79_code 85 = .ok (.getfield 178, 3) := by decide +kernel
theorem dM_houseOwes_88 : decode prog_14_method_79_code 88 = .ok (.iload 7, 2) := by decide +kernel
theorem dM_houseOwes_90 : decode prog_14_method_79_code 90 = .ok (.laload, 1) := by decide +kernel
theorem dM_houseOwes_91 : decode prog_14_method_79_code 91 = .ok (.ladd, 1) := by decide +kernel
theorem dM_houseOwes_92 : decode prog_14_method_79_code 92 = .ok (.lstore 5, 2) := by decide +kernel
theorem dM_houseOwes_94 : decode prog_14_method_79_code 94 = .ok (.iinc 7 1, 3) := by decide +kernel
theorem dM_houseOwes_97 : decode prog_14_method_79_code 97 = .ok (.goto (-66), 3) := by decide +kernel
theorem dM_houseOwes_100 : decode prog_14_method_79_code 100 = .ok (.lload 5, 2) := by decide +kernel
theorem dM_houseOwes_102 : decode prog_14_method_79_code 102 = .ok (.lreturn, 1) := by decide +kernel
theorem dM_in_0 : decode prog_14_method_2_code 0 = .ok (.lload_n 0, 1) := by decide +kernel
theorem dM_in_1 : decode prog_14_method_2_code 1 = .ok (.lload_n 2, 1) := by decide +kernel
theorem dM_in_2 : decode prog_14_method_2_code 2 = .ok (.lcmp, 1) := by decide +kernel
theorem dM_in_3 : decode prog_14_method_2_code 3 = .ok (.ifCond .lt 14, 3) := by decide +kernel
theorem dM_in_6 : decode prog_14_method_2_code 6 = .ok (.lload_n 0, 1) := by decide +kernel
theorem dM_in_7 : decode prog_14_method_2_code 7 = .ok (.lload 4, 2) := by decide +kernel
theorem dM_in_9 : decode prog_14_method_2_code 9 = .ok (.lcmp, 1) := by decide +kernel
theorem dM_in_10 : decode prog_14_method_2_code 10 = .ok (.ifCond .gt 7, 3) := by decide +kernel
theorem dM_in_13 : decode prog_14_method_2_code 13 = .ok (.iconst 1, 1) := by decide +kernel
theorem dM_in_14 : decode prog_14_method_2_code 14 = .ok (.goto 4, 3) := by decide +kernel
theorem dM_in_17 : decode prog_14_method_2_code 17 = .ok (.iconst 0, 1) := by decide +kernel
theorem dM_in_18 : decode prog_14_method_2_code 18 = .ok (.ireturn, 1) := by decide +kernel
theorem dM_isFund_0 : decode prog_14_method_18_code 0 = .ok (.iload_n 1, 1) := by decide +kernel
theorem dM_isFund_1 : decode prog_14_method_18_code 1 = .ok (.i2l, 1) := by decide +kernel
theorem dM_isFund_2 : decode prog_14_method_18_code 2 = .ok (.lconst 0, 1) := by decide +kernel
theorem dM_isFund_3 : decode prog_14_method_18_code 3 = .ok (.aload_n 0, 1) := by decide +kernel
theorem dM_isFund_4 : decode prog_14_method_18_code 4 = .ok (.getfield 275, 3) := by decide +kernel
theorem dM_isFund_7 : decode prog_14_method_18_code 7 = .ok (.iconst 1, 1) := by decide +kernel
theorem dM_isFund_8 : decode prog_14_method_18_code 8 = .ok (.isub, 1) := by decide +kernel
theorem dM_isFund_9 : decode prog_14_method_18_code 9 = .ok (.i2l, 1) := by decide +kernel
theorem dM_isFund_10 : decode prog_14_method_18_code 10 = .ok (.invokestatic 222, 3) := by decide +kernel
theorem dM_isFund_13 : decode prog_14_method_18_code 13 = .ok (.ireturn, 1) := by decide +kernel
theorem dM_isKnownDay_0 : decode prog_14_method_76_code 0 = .ok (.iload_n 1, 1) := by decide +kernel
theorem dM_isKnownDay_1 : decode prog_14_method_76_code 1 = .ok (.i2l, 1) := by decide +kernel
theorem dM_isKnownDay_2 : decode prog_14_method_76_code 2 = .ok (.lconst 0, 1) := by decide +kernel
theorem dM_isKnownDay_3 : decode prog_14_method_76_code 3 = .ok (.aload_n 0, 1) := by decide +kernel
theorem dM_isKnownDay_4 : decode prog_14_method_76_code 4 = .ok (.invokevirtual 254, 3) := by decide +kernel
theorem dM_isKnownDay_7 : decode prog_14_method_76_code 7 = .ok (.i2l, 1) := by decide +kernel
theorem dM_isKnownDay_8 : decode prog_14_method_76_code 8 = .ok (.invokestatic 222, 3) := by decide +kernel
theorem dM_isKnownDay_11 : decode prog_14_method_76_code 11 = .ok (.ireturn, 1) := by decide +kernel
theorem dM_isLetter_0 : decode prog_14_method_29_code 0 = .ok (.iload_n 0, 1) := by decide +kernel
theorem dM_isLetter_1 : decode prog_14_method_29_code 1 = .ok (.bipush 97, 2) := by decide +kernel
theorem dM_isLetter_3 : decode prog_14_method_29_code 3 = .ok (.if_icmp .lt 13, 3) := by decide +kernel
theorem dM_isLetter_6 : decode prog_14_method_29_code 6 = .ok (.iload_n 0, 1) := by decide +kernel
theorem dM_isLetter_7 : decode prog_14_method_29_code 7 = .ok (.bipush 122, 2) := by decide +kernel
theorem dM_isLetter_9 : decode prog_14_method_29_code 9 = .ok (.if_icmp .gt 7, 3) := by decide +kernel
theorem dM_isLetter_12 : decode prog_14_method_29_code 12 = .ok (.iconst 1, 1) := by decide +kernel
theorem dM_isLetter_13 : decode prog_14_method_29_code 13 = .ok (.goto 4, 3) := by decide +kernel
theorem dM_isLetter_16 : decode prog_14_method_29_code 16 = .ok (.iconst 0, 1) := by decide +kernel
theorem dM_isLetter_17 : decode prog_14_method_29_code 17 = .ok (.ireturn, 1) := by decide +kernel
theorem dM_isOpen_0 : decode prog_14_method_6_code 0 = .ok (.iload_n 1, 1) := by decide +kernel
theorem dM_isOpen_1 : decode prog_14_method_6_code 1 = .ok (.i2l, 1) := by decide +kernel
theorem dM_isOpen_2 : decode prog_14_method_6_code 2 = .ok (.lconst 0, 1) := by decide +kernel
theorem dM_isOpen_3 : decode prog_14_method_6_code 3 = .ok (.ldc2_w 220, 3) := by decide +kernel
theorem dM_isOpen_6 : decode prog_14_method_6_code 6 = .ok (.invokestatic 222, 3) := by decide +kernel
theorem dM_isOpen_9 : decode prog_14_method_6_code 9 = .ok (.ifCond .eq 24, 3) := by decide +kernel
theorem dM_isOpen_12 : decode prog_14_method_6_code 12 = .ok (.iload_n 1, 1) := by decide +kernel
theorem dM_isOpen_13 : decode prog_14_method_6_code 13 = .ok (.bipush 7, 2) := by decide +kernel
theorem dM_isOpen_15 : decode prog_14_method_6_code 15 = .ok (.irem, 1) := by decide +kernel
theorem dM_isOpen_16 : decode prog_14_method_6_code 16 = .ok (.iconst 5, 1) := by decide +kernel
theorem dM_isOpen_17 : decode prog_14_method_6_code 17 = .ok (.if_icmp .ge 16, 3) := by decide +kernel
theorem dM_isOpen_20 : decode prog_14_method_6_code 20 = .ok (.aload_n 0, 1) := by decide +kernel
theorem dM_isOpen_21 : decode prog_14_method_6_code 21 = .ok (.getfield 9, 3) := by decide +kernel
theorem dM_isOpen_24 : decode prog_14_method_6_code 24 = .ok (.iload_n 1, 1) := by decide +kernel
theorem dM_isOpen_25 : decode prog_14_method_6_code 25 = .ok (.baload, 1) := by decide +kernel
theorem dM_isOpen_26 : decode prog_14_method_6_code 26 = .ok (.ifCond .ne 7, 3) := by decide +kernel
theorem dM_isOpen_29 : decode prog_14_method_6_code 29 = .ok (.iconst 1, 1) := by decide +kernel
theorem dM_isOpen_30 : decode prog_14_method_6_code 30 = .ok (.goto 4, 3) := by decide +kernel
theorem dM_isOpen_33 : decode prog_14_method_6_code 33 = .ok (.iconst 0, 1) := by decide +kernel
theorem dM_isOpen_34 : decode prog_14_method_6_code 34 = .ok (.ireturn, 1) := by decide +kernel
theorem dM_isOver_0 : decode prog_14_method_61_code 0 = .ok (.aload_n 0, 1) := by decide +kernel
theorem dM_isOver_1 : decode prog_14_method_61_code 1 = .ok (.iload_n 1, 1) := by decide +kernel
theorem dM_isOver_2 : decode prog_14_method_61_code 2 = .ok (.invokevirtual 287, 3) := by decide +kernel
theorem dM_isOver_5 : decode prog_14_method_61_code 5 = .ok (.ifCond .eq 23, 3) := by decide +kernel
theorem dM_isOver_8 : decode prog_14_method_61_code 8 = .ok (.aload_n 0, 1) := by decide +kernel
theorem dM_isOver_9 : decode prog_14_method_61_code 9 = .ok (.iload_n 2, 1) := by decide +kernel
theorem dM_isOver_10 : decode prog_14_method_61_code 10 = .ok (.invokevirtual 229, 3) := by decide +kernel
theorem dM_isOver_13 : decode prog_14_method_61_code 13 = .ok (.ifCond .eq 15, 3) := by decide +kernel
theorem dM_isOver_16 : decode prog_14_method_61_code 16 = .ok (.iload_n 2, 1) := by decide +kernel
theorem dM_isOver_17 : decode prog_14_method_61_code 17 = .ok (.aload_n 0, 1) := by decide +kernel
theorem dM_isOver_18 : decode prog_14_method_61_code 18 = .ok (.getfield 216, 3) := by decide +kernel
theorem dM_isOver_21 : decode prog_14_method_61_code 21 = .ok (.if_icmp .ge 7, 3) := by decide +kernel
theorem dM_isOver_24 : decode prog_14_method_61_code 24 = .ok (.iconst 1, 1) := by decide +kernel
theorem dM_isOver_25 : decode prog_14_method_61_code 25 = .ok (.goto 4, 3) := by decide +kernel
theorem dM_isOver_28 : decode prog_14_method_61_code 28 = .ok (.iconst 0, 1) := by decide +kernel
theorem dM_isOver_29 : decode prog_14_method_61_code 29 = .ok (.ireturn, 1) := by decide +kernel
theorem dM_isSubject_0 : decode prog_14_method_9_code 0 = .ok (.iload_n 0, 1) := by decide +kernel
theorem dM_isSubject_1 : decode prog_14_method_9_code 1 = .ok (.iconst 1, 1) := by decide +kernel
theorem dM_isSubject_2 : decode prog_14_method_9_code 2 = .ok (.if_icmp .ne 15, 3) := by decide +kernel
theorem dM_isSubject_5 : decode prog_14_method_9_code 5 = .ok (.iload_n 1, 1) := by decide +kernel
theorem dM_isSubject_6 : decode prog_14_method_9_code 6 = .ok (.i2l, 1) := by decide +kernel
theorem dM_isSubject_7 : decode prog_14_method_9_code 7 = .ok (.lconst 1, 1) := by decide +kernel
theorem dM_isSubject_8 : decode prog_14_method_9_code 8 = .ok (.ldc2_w 233, 3) := by decide +kernel
theorem dM_isSubject_11 : decode prog_14_method_9_code 11 = .ok (.invokestatic 222, 3) := by decide +kernel
theorem dM_isSubject_14 : decode prog_14_method_9_code 14 = .ok (.goto 32, 3) := by decide +kernel
theorem dM_isSubject_17 : decode prog_14_method_9_code 17 = .ok (.iload_n 0, 1) := by decide +kernel
theorem dM_isSubject_18 : decode prog_14_method_9_code 18 = .ok (.i2l, 1) := by decide +kernel
theorem dM_isSubject_19 : decode prog_14_method_9_code 19 = .ok (.lconst 0, 1) := by decide +kernel
theorem dM_isSubject_20 : decode prog_14_method_9_code 20 = .ok (.ldc2_w 235, 3) := by decide +kernel
theorem dM_isSubject_23 : decode prog_14_method_9_code 23 = .ok (.invokestatic 222, 3) := by decide +kernel
theorem dM_isSubject_26 : decode prog_14_method_9_code 26 = .ok (.ifCond .eq 19, 3) := by decide +kernel
theorem dM_isSubject_29 : decode prog_14_method_9_code 29 = .ok (.iload_n 1, 1) := by decide +kernel
theorem dM_isSubject_30 : decode prog_14_method_9_code 30 = .ok (.i2l, 1) := by decide +kernel
theorem dM_isSubject_31 : decode prog_14_method_9_code 31 = .ok (.lconst 0, 1) := by decide +kernel
theorem dM_isSubject_32 : decode prog_14_method_9_code 32 = .ok (.ldc2_w 237, 3) := by decide +kernel
theorem dM_isSubject_35 : decode prog_14_method_9_code 35 = .ok (.invokestatic 222, 3) := by decide +kernel
theorem dM_isSubject_38 : decode prog_14_method_9_code 38 = .ok (.ifCond .eq 7, 3) := by decide +kernel
theorem dM_isSubject_41 : decode prog_14_method_9_code 41 = .ok (.iconst 1, 1) := by decide +kernel
theorem dM_isSubject_42 : decode prog_14_method_9_code 42 = .ok (.goto 4, 3) := by decide +kernel
theorem dM_isSubject_45 : decode prog_14_method_9_code 45 = .ok (.iconst 0, 1) := by decide +kernel
theorem dM_isSubject_46 : decode prog_14_method_9_code 46 = .ok (.ireturn, 1) := by decide +kernel
theorem dM_isToParty_0 : decode prog_14_method_72_code 0 = .ok (.aload_n 0, 1) := by decide +kernel
theorem dM_isToParty_1 : decode prog_14_method_72_code 1 = .ok (.getfield 53, 3) := by decide +kernel
theorem dM_isToParty_4 : decode prog_14_method_72_code 4 = .ok (.iload_n 1, 1) := by decide +kernel
theorem dM_isToParty_5 : decode prog_14_method_72_code 5 = .ok (.iaload, 1) := by decide +kernel
theorem dM_isToParty_6 : decode prog_14_method_72_code 6 = .ok (.iconst (-1), 1) := by decide +kernel
theorem dM_isToParty_7 : decode prog_14_method_72_code 7 = .ok (.if_icmp .eq 26, 3) := by decide +kernel
theorem dM_isToParty_10 : decode prog_14_method_72_code 10 = .ok (.iload_n 2, 1) := by decide +kernel
theorem dM_isToParty_11 : decode prog_14_method_72_code 11 = .ok (.aload_n 0, 1) := by decide +kernel
theorem dM_isToParty_12 : decode prog_14_method_72_code 12 = .ok (.getfield 53, 3) := by decide +kernel
theorem dM_isToParty_15 : decode prog_14_method_72_code 15 = .ok (.iload_n 1, 1) := by decide +kernel
theorem dM_isToParty_16 : decode prog_14_method_72_code 16 = .ok (.iaload, 1) := by decide +kernel
theorem dM_isToParty_17 : decode prog_14_method_72_code 17 = .ok (.isub, 1) := by decide +kernel
theorem dM_isToParty_18 : decode prog_14_method_72_code 18 = .ok (.aload_n 0, 1) := by decide +kernel
theorem dM_isToParty_19 : decode prog_14_method_72_code 19 = .ok (.iload_n 1, 1) := by decide +kernel
theorem dM_isToParty_20 : decode prog_14_method_72_code 20 = .ok (.iload_n 2, 1) := by decide +kernel
theorem dM_isToParty_21 : decode prog_14_method_72_code 21 = .ok (.bipush 8, 2) := by decide +kernel
theorem dM_isToParty_23 : decode prog_14_method_72_code 23 = .ok (.invokevirtual 305, 3) := by decide +kernel
theorem dM_isToParty_26 : decode prog_14_method_72_code 26 = .ok (.if_icmp .lt 7, 3) := by decide +kernel
theorem dM_isToParty_29 : decode prog_14_method_72_code 29 = .ok (.iconst 1, 1) := by decide +kernel
theorem dM_isToParty_30 : decode prog_14_method_72_code 30 = .ok (.goto 4, 3) := by decide +kernel
theorem dM_isToParty_33 : decode prog_14_method_72_code 33 = .ok (.iconst 0, 1) := by decide +kernel
theorem dM_isToParty_34 : decode prog_14_method_72_code 34 = .ok (.ireturn, 1) := by decide +kernel
theorem dM_isWord_0 : decode prog_14_method_32_code 0 = .ok (.aload_n 0, 1) := by decide +kernel
theorem dM_isWord_1 : decode prog_14_method_32_code 1 = .ok (.invokevirtual 328, 3) := by decide +kernel
theorem dM_isWord_4 : decode prog_14_method_32_code 4 = .ok (.aload_n 0, 1) := by decide +kernel
theorem dM_isWord_5 : decode prog_14_method_32_code 5 = .ok (.getfield 319, 3) := by decide +kernel
theorem dM_isWord_8 : decode prog_14_method_32_code 8 = .ok (.isub, 1) := by decide +kernel
theorem dM_isWord_9 : decode prog_14_method_32_code 9 = .ok (.aload_n 1, 1) := by decide +kernel
theorem dM_isWord_10 : decode prog_14_method_32_code 10 = .ok (.invokevirtual 331, 3) := by decide +kernel
theorem dM_judges_0 : decode prog_14_method_73_code 0 = .ok (.aload_n 0, 1) := by decide +kernel
theorem dM_judges_1 : decode prog_14_method_73_code 1 = .ok (.iload_n 1, 1) := by decide +kernel
theorem dM_judges_2 : decode prog_14_method_73_code 2 = .ok (.iload_n 3, 1) := by decide +kernel
theorem dM_judges_3 : decode prog_14_method_73_code 3 = .ok (.bipush 7, 2) := by decide +kernel
theorem dM_judges_5 : decode prog_14_method_73_code 5 = .ok (.invokevirtual 305, 3) := by decide +kernel
theorem dM_judges_8 : decode prog_14_method_73_code 8 = .ok (.istore 4, 2) := by decide +kernel
theorem dM_judges_10 : decode prog_14_method_73_code 10 = .ok (.aload_n 0, 1) := by decide +kernel
theorem dM_judges_11 : decode prog_14_method_73_code 11 = .ok (.getfield 178, 3) := by decide +kernel
theorem dM_judges_14 : decode prog_14_method_73_code 14 = .ok (.iload_n 2, 1) := by decide +kernel
theorem dM_judges_15 : decode prog_14_method_73_code 15 = .ok (.aload_n 0, 1) := by decide +kernel
theorem dM_judges_16 : decode prog_14_method_73_code 16 = .ok (.getfield 172, 3) := by decide +kernel
theorem dM_judges_19 : decode prog_14_method_73_code 19 = .ok (.iload_n 2, 1) := by decide +kernel
theorem dM_judges_20 : decode prog_14_method_73_code 20 = .ok (.laload, 1) := by decide +kernel
theorem dM_judges_21 : decode prog_14_method_73_code 21 = .ok (.lastore, 1) := by decide +kernel
theorem dM_judges_22 : decode prog_14_method_73_code 22 = .ok (.iload 4, 2) := by decide +kernel
theorem dM_judges_24 : decode prog_14_method_73_code 24 = .ok (.iconst (-1), 1) := by decide +kernel
theorem dM_judges_25 : decode prog_14_method_73_code 25 = .ok (.if_icmp .eq 54, 3) := by decide +kernel
theorem dM_judges_28 : decode prog_14_method_73_code 28 = .ok (.aload_n 0, 1) := by decide +kernel
theorem dM_judges_29 : decode prog_14_method_73_code 29 = .ok (.getfield 178, 3) := by decide +kernel
theorem dM_judges_32 : decode prog_14_method_73_code 32 = .ok (.iload_n 2, 1) := by decide +kernel
theorem dM_judges_33 : decode prog_14_method_73_code 33 = .ok (.aload_n 0, 1) := by decide +kernel
theorem dM_judges_34 : decode prog_14_method_73_code 34 = .ok (.getfield 172, 3) := by decide +kernel
theorem dM_judges_37 : decode prog_14_method_73_code 37 = .ok (.iload_n 2, 1) := by decide +kernel
theorem dM_judges_38 : decode prog_14_method_73_code 38 = .ok (.laload, 1) := by decide +kernel
theorem dM_judges_39 : decode prog_14_method_73_code 39 = .ok (.aload_n 0, 1) := by decide +kernel
theorem dM_judges_40 : decode prog_14_method_73_code 40 = .ok (.getfield 175, 3) := by decide +kernel
theorem dM_judges_43 : decode prog_14_method_73_code 43 = .ok (.iload_n 2, 1) := by decide +kernel
theorem dM_judges_44 : decode prog_14_method_73_code 44 = .ok (.laload, 1) := by decide +kernel
theorem dM_judges_45 : decode prog_14_method_73_code 45 = .ok (.lsub, 1) := by decide +kernel
theorem dM_judges_46 : decode prog_14_method_73_code 46 = .ok (.lastore, 1) := by decide +kernel
theorem dM_judges_47 : decode prog_14_method_73_code 47 = .ok (.aload_n 0, 1) := by decide +kernel
theorem dM_judges_48 : decode prog_14_method_73_code 48 = .ok (.getfield 178, 3) := by decide +kernel
theorem dM_judges_51 : decode prog_14_method_73_code 51 = .ok (.iload_n 2, 1) := by decide +kernel
theorem dM_judges_52 : decode prog_14_method_73_code 52 = .ok (.laload, 1) := by decide +kernel
theorem dM_judges_53 : decode prog_14_method_73_code 53 = .ok (.lconst 0, 1) := by decide +kernel
theorem dM_judges_54 : decode prog_14_method_73_code 54 = .ok (.lcmp, 1) := by decide +kernel
theorem dM_judges_55 : decode prog_14_method_73_code 55 = .ok (.ifCond .ge 24, 3) := by decide +kernel
theorem dM_judges_58 : decode prog_14_method_73_code 58 = .ok (.aload_n 0, 1) := by decide +kernel
theorem dM_judges_59 : decode prog_14_method_73_code 59 = .ok (.getfield 178, 3) := by decide +kernel
theorem dM_judges_62 : decode prog_14_method_73_code 62 = .ok (.iload_n 2, 1) := by decide +kernel
theorem dM_judges_63 : decode prog_14_method_73_code 63 = .ok (.laload, 1) := by decide +kernel
theorem dM_judges_64 : decode prog_14_method_73_code 64 = .ok (.iload 4, 2) := by decide +kernel
theorem dM_judges_66 : decode prog_14_method_73_code 66 = .ok (.ineg, 1) := by decide +kernel
theorem dM_judges_67 : decode prog_14_method_73_code 67 = .ok (.i2l, 1) := by decide +kernel
theorem dM_judges_68 : decode prog_14_method_73_code 68 = .ok (.lcmp, 1) := by decide +kernel
theorem dM_judges_69 : decode prog_14_method_73_code 69 = .ok (.ifCond .lt 10, 3) := by decide +kernel
theorem dM_judges_72 : decode prog_14_method_73_code 72 = .ok (.aload_n 0, 1) := by decide +kernel
theorem dM_judges_73 : decode prog_14_method_73_code 73 = .ok (.getfield 178, 3) := by decide +kernel
theorem dM_judges_76 : decode prog_14_method_73_code 76 = .ok (.iload_n 2, 1) := by decide +kernel
theorem dM_judges_77 : decode prog_14_method_73_code 77 = .ok (.lconst 0, 1) := by decide +kernel
theorem dM_judges_78 : decode prog_14_method_73_code 78 = .ok (.lastore, 1) := by decide +kernel
theorem dM_judges_79 : decode prog_14_method_73_code 79 = .ok (.aload_n 0, 1) := by decide +kernel
theorem dM_judges_80 : decode prog_14_method_73_code 80 = .ok (.getfield 181, 3) := by decide +kernel
theorem dM_judges_83 : decode prog_14_method_73_code 83 = .ok (.iload_n 2, 1) := by decide +kernel
theorem dM_judges_84 : decode prog_14_method_73_code 84 = .ok (.iconst 0, 1) := by decide +kernel
theorem dM_judges_85 : decode prog_14_method_73_code 85 = .ok (.iastore, 1) := by decide +kernel
theorem dM_judges_86 : decode prog_14_method_73_code 86 = .ok (.aload_n 0, 1) := by decide +kernel
theorem dM_judges_87 : decode prog_14_method_73_code 87 = .ok (.getfield 178, 3) := by decide +kernel
theorem dM_judges_90 : decode prog_14_method_73_code 90 = .ok (.iload_n 2, 1) := by decide +kernel
theorem dM_judges_91 : decode prog_14_method_73_code 91 = .ok (.laload, 1) := by decide +kernel
theorem dM_judges_92 : decode prog_14_method_73_code 92 = .ok (.lconst 0, 1) := by decide +kernel
theorem dM_judges_93 : decode prog_14_method_73_code 93 = .ok (.lcmp, 1) := by decide +kernel
theorem dM_judges_94 : decode prog_14_method_73_code 94 = .ok (.ifCond .gt 4, 3) := by decide +kernel
theorem dM_judges_97 : decode prog_14_method_73_code 97 = .ok (.return_, 1) := by decide +kernel
theorem dM_judges_98 : decode prog_14_method_73_code 98 = .ok (.iload_n 2, 1) := by decide +kernel
theorem dM_judges_99 : decode prog_14_method_73_code 99 = .ok (.bipush 16, 2) := by decide +kernel
theorem dM_judges_101 : decode prog_14_method_73_code 101 = .ok (.if_icmp .ge 27, 3) := by decide +kernel
theorem dM_judges_104 : decode prog_14_method_73_code 104 = .ok (.aload_n 0, 1) := by decide +kernel
theorem dM_judges_105 : decode prog_14_method_73_code 105 = .ok (.getfield 50, 3) := by decide +kernel
theorem dM_judges_108 : decode prog_14_method_73_code 108 = .ok (.iload_n 2, 1) := by decide +kernel
theorem dM_judges_109 : decode prog_14_method_73_code 109 = .ok (.iaload, 1) := by decide +kernel
theorem dM_judges_110 : decode prog_14_method_73_code 110 = .ok (.iconst (-1), 1) := by decide +kernel
theorem dM_judges_111 : decode prog_14_method_73_code 111 = .ok (.if_icmp .eq 17, 3) := by decide +kernel
theorem dM_judges_114 : decode prog_14_method_73_code 114 = .ok (.aload_n 0, 1) := by decide +kernel
theorem dM_judges_115 : decode prog_14_method_73_code 115 = .ok (.getfield 50, 3) := by decide +kernel
theorem dM_judges_118 : decode prog_14_method_73_code 118 = .ok (.iload_n 2, 1) := by decide +kernel
theorem dM_judges_119 : decode prog_14_method_73_code 119 = .ok (.iaload, 1) := by decide +kernel
theorem dM_judges_120 : decode prog_14_method_73_code 120 = .ok (.iload_n 3, 1) := by decide +kernel
theorem dM_judges_121 : decode prog_14_method_73_code 121 = .ok (.if_icmp .gt 7, 3) := by decide +kernel
theorem dM_judges_124 : decode prog_14_method_73_code 124 = .ok (.iconst 1, 1) := by decide +kernel
theorem dM_judges_125 : decode prog_14_method_73_code 125 = .ok (.goto 4, 3) := by decide +kernel
theorem dM_judges_128 : decode prog_14_method_73_code 128 = .ok (.iconst 0, 1) := by decide +kernel
theorem dM_judges_129 : decode prog_14_method_73_code 129 = .ok (.istore 5, 2) := by decide +kernel
theorem dM_judges_131 : decode prog_14_method_73_code 131 = .ok (.aload_n 0, 1) := by decide +kernel
theorem dM_judges_132 : decode prog_14_method_73_code 132 = .ok (.getfield 178, 3) := by decide +kernel
theorem dM_judges_135 : decode prog_14_method_73_code 135 = .ok (.iload_n 2, 1) := by decide +kernel
theorem dM_judges_136 : decode prog_14_method_73_code 136 = .ok (.laload, 1) := by decide +kernel
theorem dM_judges_137 : decode prog_14_method_73_code 137 = .ok (.aload_n 0, 1) := by decide +kernel
theorem dM_judges_138 : decode prog_14_method_73_code 138 = .ok (.iload_n 1, 1) := by decide +kernel
theorem dM_judges_139 : decode prog_14_method_73_code 139 = .ok (.iload_n 3, 1) := by decide +kernel
theorem dM_judges_140 : decode prog_14_method_73_code 140 = .ok (.iconst 5, 1) := by decide +kernel
theorem dM_judges_141 : decode prog_14_method_73_code 141 = .ok (.invokevirtual 305, 3) := by decide +kernel
theorem dM_judges_144 : decode prog_14_method_73_code 144 = .ok (.i2l, 1) := by decide +kernel
theorem dM_judges_145 : decode prog_14_method_73_code 145 = .ok (.lcmp, 1) := by decide +kernel
theorem dM_judges_146 : decode prog_14_method_73_code 146 = .ok (.ifCond .ge 13, 3) := by decide +kernel
theorem dM_judges_149 : decode prog_14_method_73_code 149 = .ok (.aload_n 0, 1) := by decide +kernel
theorem dM_judges_150 : decode prog_14_method_73_code 150 = .ok (.getfield 181, 3) := by decide +kernel
theorem dM_judges_153 : decode prog_14_method_73_code 153 = .ok (.iload_n 2, 1) := by decide +kernel
theorem dM_judges_154 : decode prog_14_method_73_code 154 = .ok (.iconst 1, 1) := by decide +kernel
theorem dM_judges_155 : decode prog_14_method_73_code 155 = .ok (.iastore, 1) := by decide +kernel
theorem dM_judges_156 : decode prog_14_method_73_code 156 = .ok (.goto 28, 3) := by decide +kernel
theorem dM_judges_159 : decode prog_14_method_73_code 159 = .ok (.iload 5, 2) := by decide +kernel
theorem dM_judges_161 : decode prog_14_method_73_code 161 = .ok (.ifCond .eq 23, 3) := by decide +kernel
theorem dM_judges_164 : decode prog_14_method_73_code 164 = .ok (.aload_n 0, 1) := by decide +kernel
theorem dM_judges_165 : decode prog_14_method_73_code 165 = .ok (.getfield 181, 3) := by decide +kernel
theorem dM_judges_168 : decode prog_14_method_73_code 168 = .ok (.iload_n 2, 1) := by decide +kernel
theorem dM_judges_169 : decode prog_14_method_73_code 169 = .ok (.aload_n 0, 1) := by decide +kernel
theorem dM_judges_170 : decode prog_14_method_73_code 170 = .ok (.iload_n 1, 1) := by decide +kernel
theorem dM_judges_171 : decode prog_14_method_73_code 171 = .ok (.iload_n 3, 1) := by decide +kernel
theorem dM_judges_172 : decode prog_14_method_73_code 172 = .ok (.invokevirtual 496, 3) := by decide +kernel
theorem dM_judges_175 : decode prog_14_method_73_code 175 = .ok (.ifCond .eq 7, 3) := by decide +kernel
theorem dM_judges_178 : decode prog_14_method_73_code 178 = .ok (.iconst 3, 1) := by decide +kernel
theorem dM_judges_179 : decode prog_14_method_73_code 179 = .ok (.goto 4, 3) := by decide +kernel
theorem dM_judges_182 : decode prog_14_method_73_code 182 = .ok (.iconst 2, 1) := by decide +kernel
theorem dM_judges_183 : decode prog_14_method_73_code 183 = .ok (.iastore, 1) := by decide +kernel
theorem dM_judges_184 : decode prog_14_method_73_code 184 = .ok (.return_, 1) := by decide +kernel
theorem dM_known0_0 : decode prog_14_method_5_code 0 = .ok (.aload_n 0, 1) := by decide +kernel
theorem dM_known0_1 : decode prog_14_method_5_code 1 = .ok (.getfield 216, 3) := by decide +kernel
theorem dM_known0_4 : decode prog_14_method_5_code 4 = .ok (.sipush 260, 3) := by decide +kernel
theorem dM_known0_7 : decode prog_14_method_5_code 7 = .ok (.if_icmp .ge 10, 3) := by decide +kernel
theorem dM_known0_10 : decode prog_14_method_5_code 10 = .ok (.aload_n 0, 1) := by decide +kernel
theorem dM_known0_11 : decode prog_14_method_5_code 11 = .ok (.getfield 216, 3) := by decide +kernel
theorem dM_known0_14 : decode prog_14_method_5_code 14 = .ok (.goto 6, 3) := by decide +kernel
theorem dM_known0_17 : decode prog_14_method_5_code 17 = .ok (.sipush 259, 3) := by decide +kernel
theorem dM_known0_20 : decode prog_14_method_5_code 20 = .ok (.ireturn, 1) := by decide +kernel
theorem dM_known1_0 : decode prog_14_method_15_code 0 = .ok (.iload_n 1, 1) := by decide +kernel
theorem dM_known1_1 : decode prog_14_method_15_code 1 = .ok (.iload_n 2, 1) := by decide +kernel
theorem dM_known1_2 : decode prog_14_method_15_code 2 = .ok (.invokestatic 239, 3) := by decide +kernel
theorem dM_known1_5 : decode prog_14_method_15_code 5 = .ok (.ifCond .eq 28, 3) := by decide +kernel
theorem dM_known1_8 : decode prog_14_method_15_code 8 = .ok (.iload_n 3, 1) := by decide +kernel
theorem dM_known1_9 : decode prog_14_method_15_code 9 = .ok (.i2l, 1) := by decide +kernel
theorem dM_known1_10 : decode prog_14_method_15_code 10 = .ok (.lconst 0, 1) := by decide +kernel
theorem dM_known1_11 : decode prog_14_method_15_code 11 = .ok (.ldc2_w 220, 3) := by decide +kernel
theorem dM_known1_14 : decode prog_14_method_15_code 14 = .ok (.invokestatic 222, 3) := by decide +kernel
theorem dM_known1_17 : decode prog_14_method_15_code 17 = .ok (.ifCond .eq 16, 3) := by decide +kernel
theorem dM_known1_20 : decode prog_14_method_15_code 20 = .ok (.iload 4, 2) := by decide +kernel
theorem dM_known1_22 : decode prog_14_method_15_code 22 = .ok (.i2l, 1) := by decide +kernel
theorem dM_known1_23 : decode prog_14_method_15_code 23 = .ok (.lconst 0, 1) := by decide +kernel
theorem dM_known1_24 : decode prog_14_method_15_code 24 = .ok (.ldc2_w 220, 3) := by decide +kernel
theorem dM_known1_27 : decode prog_14_method_15_code 27 = .ok (.invokestatic 222, 3) := by decide +kernel
theorem dM_known1_30 : decode prog_14_method_15_code 30 = .ok (.ifCond .ne 7, 3) := by decide +kernel
theorem dM_known1_33 : decode prog_14_method_15_code 33 = .ok (.ldc_w 266, 3) := by decide +kernel
theorem dM_known1_36 : decode prog_14_method_15_code 36 = .ok (.ireturn, 1) := by decide +kernel
theorem dM_known1_37 : decode prog_14_method_15_code 37 = .ok (.aload_n 0, 1) := by decide +kernel
theorem dM_known1_38 : decode prog_14_method_15_code 38 = .ok (.iload_n 1, 1) := by decide +kernel
theorem dM_known1_39 : decode prog_14_method_15_code 39 = .ok (.iload_n 2, 1) := by decide +kernel
theorem dM_known1_40 : decode prog_14_method_15_code 40 = .ok (.iload_n 3, 1) := by decide +kernel
theorem dM_known1_41 : decode prog_14_method_15_code 41 = .ok (.iload 4, 2) := by decide +kernel
theorem dM_known1_43 : decode prog_14_method_15_code 43 = .ok (.invokevirtual 267, 3) := by decide +kernel
theorem dM_known1_46 : decode prog_14_method_15_code 46 = .ok (.istore 5, 2) := by decide +kernel
theorem dM_known1_48 : decode prog_14_method_15_code 48 = .ok (.iload 5, 2) := by decide +kernel
theorem dM_known1_50 : decode prog_14_method_15_code 50 = .ok (.iconst (-1), 1) := by decide +kernel
theorem dM_known1_51 : decode prog_14_method_15_code 51 = .ok (.if_icmp .ne 10, 3) := by decide +kernel
theorem dM_known1_54 : decode prog_14_method_15_code 54 = .ok (.iload_n 1, 1) := by decide +kernel
theorem dM_known1_55 : decode prog_14_method_15_code 55 = .ok (.invokestatic 271, 3) := by decide +kernel
theorem dM_known1_58 : decode prog_14_method_15_code 58 = .ok (.goto 10, 3) := by decide +kernel
theorem dM_known1_61 : decode prog_14_method_15_code 61 = .ok (.aload_n 0, 1) := by decide +kernel
theorem dM_known1_62 : decode prog_14_method_15_code 62 = .ok (.getfield 23, 3) := by decide +kernel
theorem dM_known1_65 : decode prog_14_method_15_code 65 = .ok (.iload 5, 2) := by decide +kernel
theorem dM_known1_67 : decode prog_14_method_15_code 67 = .ok (.iaload, 1) := by decide +kernel
theorem dM_known1_68 : decode prog_14_method_15_code 68 = .ok (.ireturn, 1) := by decide +kernel
theorem dM_knows_0 : decode prog_14_method_47_code 0 = .ok (.aload_n 0, 1) := by decide +kernel
theorem dM_knows_1 : decode prog_14_method_47_code 1 = .ok (.iload_n 1, 1) := by decide +kernel
theorem dM_knows_2 : decode prog_14_method_47_code 2 = .ok (.putfield 418, 3) := by decide +kernel
theorem dM_knows_5 : decode prog_14_method_47_code 5 = .ok (.iconst 0, 1) := by decide +kernel
theorem dM_knows_6 : decode prog_14_method_47_code 6 = .ok (.istore_n 2, 1) := by decide +kernel
theorem dM_knows_7 : decode prog_14_method_47_code 7 = .ok (.iload_n 2, 1) := by decide +kernel
theorem dM_knows_8 : decode prog_14_method_47_code 8 = .ok (.bipush 8, 2) := by decide +kernel
theorem dM_knows_10 : decode prog_14_method_47_code 10 = .ok (.if_icmp .ge 45, 3) := by decide +kernel
theorem dM_knows_13 : decode prog_14_method_47_code 13 = .ok (.aload_n 0, 1) := by decide +kernel
theorem dM_knows_14 : decode prog_14_method_47_code 14 = .ok (.iconst 0, 1) := by decide +kernel
theorem dM_knows_15 : decode prog_14_method_47_code 15 = .ok (.iload_n 2, 1) := by decide +kernel
theorem dM_knows_16 : decode prog_14_method_47_code 16 = .ok (.aload_n 0, 1) := by decide +kernel
theorem dM_knows_17 : decode prog_14_method_47_code 17 = .ok (.getfield 125, 3) := by decide +kernel
theorem dM_knows_20 : decode prog_14_method_47_code 20 = .ok (.iload_n 2, 1) := by decide +kernel
theorem dM_knows_21 : decode prog_14_method_47_code 21 = .ok (.aaload, 1) := by decide +kernel
theorem dM_knows_22 : decode prog_14_method_47_code 22 = .ok (.invokevirtual 421, 3) := by decide +kernel
theorem dM_knows_25 : decode prog_14_method_47_code 25 = .ok (.aload_n 0, 1) := by decide +kernel
theorem dM_knows_26 : decode prog_14_method_47_code 26 = .ok (.iconst 2, 1) := by decide +kernel
theorem dM_knows_27 : decode prog_14_method_47_code 27 = .ok (.iload_n 2, 1) := by decide +kernel
theorem dM_knows_28 : decode prog_14_method_47_code 28 = .ok (.aload_n 0, 1) := by decide +kernel
theorem dM_knows_29 : decode prog_14_method_47_code 29 = .ok (.getfield 131, 3) := by decide +kernel
theorem dM_knows_32 : decode prog_14_method_47_code 32 = .ok (.iload_n 2, 1) := by decide +kernel
theorem dM_knows_33 : decode prog_14_method_47_code 33 = .ok (.aaload, 1) := by decide +kernel
theorem dM_knows_34 : decode prog_14_method_47_code 34 = .ok (.invokevirtual 421, 3) := by decide +kernel
theorem dM_knows_37 : decode prog_14_method_47_code 37 = .ok (.aload_n 0, 1) := by decide +kernel
theorem dM_knows_38 : decode prog_14_method_47_code 38 = .ok (.iconst 3, 1) := by decide +kernel
theorem dM_knows_39 : decode prog_14_method_47_code 39 = .ok (.iload_n 2, 1) := by decide +kernel
theorem dM_knows_40 : decode prog_14_method_47_code 40 = .ok (.aload_n 0, 1) := by decide +kernel
theorem dM_knows_41 : decode prog_14_method_47_code 41 = .ok (.getfield 134, 3) := by decide +kernel
theorem dM_knows_44 : decode prog_14_method_47_code 44 = .ok (.iload_n 2, 1) := by decide +kernel
theorem dM_knows_45 : decode prog_14_method_47_code 45 = .ok (.aaload, 1) := by decide +kernel
theorem dM_knows_46 : decode prog_14_method_47_code 46 = .ok (.invokevirtual 421, 3) := by decide +kernel
theorem dM_knows_49 : decode prog_14_method_47_code 49 = .ok (.iinc 2 1, 3) := by decide +kernel
theorem dM_knows_52 : decode prog_14_method_47_code 52 = .ok (.goto (-45), 3) := by decide +kernel
theorem dM_knows_55 : decode prog_14_method_47_code 55 = .ok (.iconst 0, 1) := by decide +kernel
theorem dM_knows_56 : decode prog_14_method_47_code 56 = .ok (.istore_n 2, 1) := by decide +kernel
theorem dM_knows_57 : decode prog_14_method_47_code 57 = .ok (.iload_n 2, 1) := by decide +kernel
theorem dM_knows_58 : decode prog_14_method_47_code 58 = .ok (.sipush 260, 3) := by decide +kernel
theorem dM_knows_61 : decode prog_14_method_47_code 61 = .ok (.if_icmp .ge 20, 3) := by decide +kernel
theorem dM_knows_64 : decode prog_14_method_47_code 64 = .ok (.aload_n 0, 1) := by decide +kernel
theorem dM_knows_65 : decode prog_14_method_47_code 65 = .ok (.getfield 128, 3) := by decide +kernel
theorem dM_knows_68 : decode prog_14_method_47_code 68 = .ok (.iconst 0, 1) := by decide +kernel
theorem dM_knows_69 : decode prog_14_method_47_code 69 = .ok (.aaload, 1) := by decide +kernel
theorem dM_knows_70 : decode prog_14_method_47_code 70 = .ok (.iload_n 2, 1) := by decide +kernel
theorem dM_knows_71 : decode prog_14_method_47_code 71 = .ok (.sipush 1000, 3) := by decide +kernel
theorem dM_knows_74 : decode prog_14_method_47_code 74 = .ok (.iastore, 1) := by decide +kernel
theorem dM_knows_75 : decode prog_14_method_47_code 75 = .ok (.iinc 2 1, 3) := by decide +kernel
theorem dM_knows_78 : decode prog_14_method_47_code 78 = .ok (.goto (-21), 3) := by decide +kernel
theorem dM_knows_81 : decode prog_14_method_47_code 81 = .ok (.aload_n 0, 1) := by decide +kernel
theorem dM_knows_82 : decode prog_14_method_47_code 82 = .ok (.iconst 1, 1) := by decide +kernel
theorem dM_knows_83 : decode prog_14_method_47_code 83 = .ok (.iconst 1, 1) := by decide +kernel
theorem dM_knows_84 : decode prog_14_method_47_code 84 = .ok (.aload_n 0, 1) := by decide +kernel
theorem dM_knows_85 : decode prog_14_method_47_code 85 = .ok (.getfield 128, 3) := by decide +kernel
theorem dM_knows_88 : decode prog_14_method_47_code 88 = .ok (.iconst 1, 1) := by decide +kernel
theorem dM_knows_89 : decode prog_14_method_47_code 89 = .ok (.aaload, 1) := by decide +kernel
theorem dM_knows_90 : decode prog_14_method_47_code 90 = .ok (.invokevirtual 421, 3) := by decide +kernel
theorem dM_knows_93 : decode prog_14_method_47_code 93 = .ok (.aload_n 0, 1) := by decide +kernel
theorem dM_knows_94 : decode prog_14_method_47_code 94 = .ok (.iconst 1, 1) := by decide +kernel
theorem dM_knows_95 : decode prog_14_method_47_code 95 = .ok (.iconst 2, 1) := by decide +kernel
theorem dM_knows_96 : decode prog_14_method_47_code 96 = .ok (.aload_n 0, 1) := by decide +kernel
theorem dM_knows_97 : decode prog_14_method_47_code 97 = .ok (.getfield 128, 3) := by decide +kernel
theorem dM_knows_100 : decode prog_14_method_47_code 100 = .ok (.iconst 2, 1) := by decide +kernel
theorem dM_knows_101 : decode prog_14_method_47_code 101 = .ok (.aaload, 1) := by decide +kernel
theorem dM_knows_102 : decode prog_14_method_47_code 102 = .ok (.invokevirtual 421, 3) := by decide +kernel
theorem dM_knows_105 : decode prog_14_method_47_code 105 = .ok (.return_, 1) := by decide +kernel
theorem dM_lastOver_0 : decode prog_14_method_67_code 0 = .ok (.aload_n 0, 1) := by decide +kernel
theorem dM_lastOver_1 : decode prog_14_method_67_code 1 = .ok (.getfield 216, 3) := by decide +kernel
theorem dM_lastOver_4 : decode prog_14_method_67_code 4 = .ok (.iconst 1, 1) := by decide +kernel
theorem dM_lastOver_5 : decode prog_14_method_67_code 5 = .ok (.isub, 1) := by decide +kernel
theorem dM_lastOver_6 : decode prog_14_method_67_code 6 = .ok (.iload_n 1, 1) := by decide +kernel
theorem dM_lastOver_7 : decode prog_14_method_67_code 7 = .ok (.if_icmp .ge 12, 3) := by decide +kernel
theorem dM_lastOver_10 : decode prog_14_method_67_code 10 = .ok (.aload_n 0, 1) := by decide +kernel
theorem dM_lastOver_11 : decode prog_14_method_67_code 11 = .ok (.getfield 216, 3) := by decide +kernel
theorem dM_lastOver_14 : decode prog_14_method_67_code 14 = .ok (.iconst 1, 1) := by decide +kernel
theorem dM_lastOver_15 : decode prog_14_method_67_code 15 = .ok (.isub, 1) := by decide +kernel
theorem dM_lastOver_16 : decode prog_14_method_67_code 16 = .ok (.goto 4, 3) := by decide +kernel
theorem dM_lastOver_19 : decode prog_14_method_67_code 19 = .ok (.iload_n 1, 1) := by decide +kernel
theorem dM_lastOver_20 : decode prog_14_method_67_code 20 = .ok (.ireturn, 1) := by decide +kernel
theorem dM_lays_0 : decode prog_14_method_11_code 0 = .ok (.aload_n 0, 1) := by decide +kernel
theorem dM_lays_1 : decode prog_14_method_11_code 1 = .ok (.getfield 13, 3) := by decide +kernel
theorem dM_lays_4 : decode prog_14_method_11_code 4 = .ok (.aload_n 0, 1) := by decide +kernel
theorem dM_lays_5 : decode prog_14_method_11_code 5 = .ok (.getfield 251, 3) := by decide +kernel
theorem dM_lays_8 : decode prog_14_method_11_code 8 = .ok (.iload_n 1, 1) := by decide +kernel
theorem dM_lays_9 : decode prog_14_method_11_code 9 = .ok (.iastore, 1) := by decide +kernel
theorem dM_lays_10 : decode prog_14_method_11_code 10 = .ok (.aload_n 0, 1) := by decide +kernel
theorem dM_lays_11 : decode prog_14_method_11_code 11 = .ok (.getfield 17, 3) := by decide +kernel
theorem dM_lays_14 : decode prog_14_method_11_code 14 = .ok (.aload_n 0, 1) := by decide +kernel
theorem dM_lays_15 : decode prog_14_method_11_code 15 = .ok (.getfield 251, 3) := by decide +kernel
theorem dM_lays_18 : decode prog_14_method_11_code 18 = .ok (.iload_n 2, 1) := by decide +kernel
theorem dM_lays_19 : decode prog_14_method_11_code 19 = .ok (.iastore, 1) := by decide +kernel
theorem dM_lays_20 : decode prog_14_method_11_code 20 = .ok (.aload_n 0, 1) := by decide +kernel
theorem dM_lays_21 : decode prog_14_method_11_code 21 = .ok (.getfield 20, 3) := by decide +kernel
theorem dM_lays_24 : decode prog_14_method_11_code 24 = .ok (.aload_n 0, 1) := by decide +kernel
theorem dM_lays_25 : decode prog_14_method_11_code 25 = .ok (.getfield 251, 3) := by decide +kernel
theorem dM_lays_28 : decode prog_14_method_11_code 28 = .ok (.iload_n 3, 1) := by decide +kernel
theorem dM_lays_29 : decode prog_14_method_11_code 29 = .ok (.iastore, 1) := by decide +kernel
theorem dM_lays_30 : decode prog_14_method_11_code 30 = .ok (.aload_n 0, 1) := by decide +kernel
theorem dM_lays_31 : decode prog_14_method_11_code 31 = .ok (.getfield 23, 3) := by decide +kernel
theorem dM_lays_34 : decode prog_14_method_11_code 34 = .ok (.aload_n 0, 1) := by decide +kernel
theorem dM_lays_35 : decode prog_14_method_11_code 35 = .ok (.getfield 251, 3) := by decide +kernel
theorem dM_lays_38 : decode prog_14_method_11_code 38 = .ok (.iload 4, 2) := by decide +kernel
theorem dM_lays_40 : decode prog_14_method_11_code 40 = .ok (.iastore, 1) := by decide +kernel
theorem dM_lays_41 : decode prog_14_method_11_code 41 = .ok (.aload_n 0, 1) := by decide +kernel
theorem dM_lays_42 : decode prog_14_method_11_code 42 = .ok (.getfield 26, 3) := by decide +kernel
theorem dM_lays_45 : decode prog_14_method_11_code 45 = .ok (.aload_n 0, 1) := by decide +kernel
theorem dM_lays_46 : decode prog_14_method_11_code 46 = .ok (.getfield 251, 3) := by decide +kernel
theorem dM_lays_49 : decode prog_14_method_11_code 49 = .ok (.aload_n 0, 1) := by decide +kernel
theorem dM_lays_50 : decode prog_14_method_11_code 50 = .ok (.invokevirtual 254, 3) := by decide +kernel
theorem dM_lays_53 : decode prog_14_method_11_code 53 = .ok (.iastore, 1) := by decide +kernel
theorem dM_lays_54 : decode prog_14_method_11_code 54 = .ok (.aload_n 0, 1) := by decide +kernel
theorem dM_lays_55 : decode prog_14_method_11_code 55 = .ok (.dup, 1) := by decide +kernel
theorem dM_lays_56 : decode prog_14_method_11_code 56 = .ok (.getfield 251, 3) := by decide +kernel
theorem dM_lays_59 : decode prog_14_method_11_code 59 = .ok (.iconst 1, 1) := by decide +kernel
theorem dM_lays_60 : decode prog_14_method_11_code 60 = .ok (.iadd, 1) := by decide +kernel
theorem dM_lays_61 : decode prog_14_method_11_code 61 = .ok (.putfield 251, 3) := by decide +kernel
theorem dM_lays_64 : decode prog_14_method_11_code 64 = .ok (.return_, 1) := by decide +kernel
theorem dM_line_0 : decode prog_14_method_40_code 0 = .ok (.aload_n 0, 1) := by decide +kernel
theorem dM_line_1 : decode prog_14_method_40_code 1 = .ok (.invokevirtual 338, 3) := by decide +kernel
theorem dM_line_4 : decode prog_14_method_40_code 4 = .ok (.aload_n 0, 1) := by decide +kernel
theorem dM_line_5 : decode prog_14_method_40_code 5 = .ok (.getfield 319, 3) := by decide +kernel
theorem dM_line_8 : decode prog_14_method_40_code 8 = .ok (.aload_n 0, 1) := by decide +kernel
theorem dM_line_9 : decode prog_14_method_40_code 9 = .ok (.getfield 322, 3) := by decide +kernel
theorem dM_line_12 : decode prog_14_method_40_code 12 = .ok (.if_icmp .ne 4, 3) := by decide +kernel
theorem dM_line_16 : decode prog_14_method_40_code 16 = .ok (.iconst 4, 1) := by decide +kernel
theorem dM_line_17 : decode prog_14_method_40_code 17 = .ok (.istore_n 1, 1) := by decide +kernel
theorem dM_line_18 : decode prog_14_method_40_code 18 = .ok (.aload_n 0, 1) := by decide +kernel
theorem dM_line_19 : decode prog_14_method_40_code 19 = .ok (.ldc 113, 2) := by decide +kernel
theorem dM_line_21 : decode prog_14_method_40_code 21 = .ok (.invokevirtual 357, 3) := by decide +kernel
theorem dM_many_0 : decode prog_14_method_91_code 0 = .ok (.iconst 0, 1) := by decide +kernel
theorem dM_many_1 : decode prog_14_method_91_code 1 = .ok (.istore_n 1, 1) := by decide +kernel
theorem dM_many_2 : decode prog_14_method_91_code 2 = .ok (.iconst 0, 1) := by decide +kernel
theorem dM_many_3 : decode prog_14_method_91_code 3 = .ok (.istore_n 2, 1) := by decide +kernel
theorem dM_many_4 : decode prog_14_method_91_code 4 = .ok (.iload_n 2, 1) := by decide +kernel
theorem dM_many_5 : decode prog_14_method_91_code 5 = .ok (.bipush 7, 2) := by decide +kernel
theorem dM_many_7 : decode prog_14_method_91_code 7 = .ok (.if_icmp .ge 17, 3) := by decide +kernel
theorem dM_many_10 : decode prog_14_method_91_code 10 = .ok (.iload_n 1, 1) := by decide +kernel
theorem dM_many_11 : decode prog_14_method_91_code 11 = .ok (.iload_n 0, 1) := by decide +kernel
theorem dM_many_12 : decode prog_14_method_91_code 12 = .ok (.iload_n 2, 1) := by decide +kernel
theorem dM_many_13 : decode prog_14_method_91_code 13 = .ok (.ishr, 1) := by decide +kernel
theorem dM_many_14 : decode prog_14_method_91_code 14 = .ok (.iconst 1, 1) := by decide +kernel
theorem dM_many_15 : decode prog_14_method_91_code 15 = .ok (.iand, 1) := by decide +kernel
theorem dM_many_16 : decode prog_14_method_91_code 16 = .ok (.iadd, 1) := by decide +kernel
theorem dM_many_17 : decode prog_14_method_91_code 17 = .ok (.istore_n 1, 1) := by decide +kernel
theorem dM_many_18 : decode prog_14_method_91_code 18 = .ok (.iinc 2 1, 3) := by decide +kernel
theorem dM_many_21 : decode prog_14_method_91_code 21 = .ok (.goto (-17), 3) := by decide +kernel
theorem dM_many_24 : decode prog_14_method_91_code 24 = .ok (.iload_n 1, 1) := by decide +kernel
theorem dM_many_25 : decode prog_14_method_91_code 25 = .ok (.ireturn, 1) := by decide +kernel
theorem dM_mosts_0 : decode prog_14_method_101_code 0 = .ok (.aload_n 0, 1) := by decide +kernel
theorem dM_mosts_1 : decode prog_14_method_101_code 1 = .ok (.getfield 199, 3) := by decide +kernel
theorem dM_mosts_4 : decode prog_14_method_101_code 4 = .ok (.iload_n 1, 1) := by decide +kernel
theorem dM_mosts_5 : decode prog_14_method_101_code 5 = .ok (.iload_n 1, 1) := by decide +kernel
theorem dM_mosts_6 : decode prog_14_method_101_code 6 = .ok (.ifCond .ne 7, 3) := by decide +kernel
theorem dM_mosts_9 : decode prog_14_method_101_code 9 = .ok (.iconst 0, 1) := by decide +kernel
theorem dM_mosts_10 : decode prog_14_method_101_code 10 = .ok (.goto 4, 3) := by decide +kernel
theorem dM_mosts_13 : decode prog_14_method_101_code 13 = .ok (.iconst (-1), 1) := by decide +kernel
theorem dM_mosts_14 : decode prog_14_method_101_code 14 = .ok (.iastore, 1) := by decide +kernel
theorem dM_mosts_15 : decode prog_14_method_101_code 15 = .ok (.iload_n 1, 1) := by decide +kernel
theorem dM_mosts_16 : decode prog_14_method_101_code 16 = .ok (.iload_n 1, 1) := by decide +kernel
theorem dM_mosts_17 : decode prog_14_method_101_code 17 = .ok (.ineg, 1) := by decide +kernel
theorem dM_mosts_18 : decode prog_14_method_101_code 18 = .ok (.iand, 1) := by decide +kernel
theorem dM_mosts_19 : decode prog_14_method_101_code 19 = .ok (.istore_n 2, 1) := by decide +kernel
theorem dM_mosts_20 : decode prog_14_method_101_code 20 = .ok (.iload_n 1, 1) := by decide +kernel
theorem dM_mosts_21 : decode prog_14_method_101_code 21 = .ok (.istore_n 3, 1) := by decide +kernel
theorem dM_mosts_22 : decode prog_14_method_101_code 22 = .ok (.iload_n 3, 1) := by decide +kernel
theorem dM_mosts_23 : decode prog_14_method_101_code 23 = .ok (.ifCond .le 85, 3) := by decide +kernel
theorem dM_mosts_26 : decode prog_14_method_101_code 26 = .ok (.iload_n 3, 1) := by decide +kernel
theorem dM_mosts_27 : decode prog_14_method_101_code 27 = .ok (.iload_n 2, 1) := by decide +kernel
theorem dM_mosts_28 : decode prog_14_method_101_code 28 = .ok (.iand, 1) := by decide +kernel
theorem dM_mosts_29 : decode prog_14_method_101_code 29 = .ok (.ifCond .eq 70, 3) := by decide +kernel
theorem dM_mosts_32 : decode prog_14_method_101_code 32 = .ok (.aload_n 0, 1) := by decide +kernel
theorem dM_mosts_33 : decode prog_14_method_101_code 33 = .ok (.getfield 202, 3) := by decide +kernel
theorem dM_mosts_36 : decode prog_14_method_101_code 36 = .ok (.iload_n 3, 1) := by decide +kernel
theorem dM_mosts_37 : decode prog_14_method_101_code 37 = .ok (.laload, 1) := by decide +kernel
theorem dM_mosts_38 : decode prog_14_method_101_code 38 = .ok (.lconst 0, 1) := by decide +kernel
theorem dM_mosts_39 : decode prog_14_method_101_code 39 = .ok (.lcmp, 1) := by decide +kernel
theorem dM_mosts_40 : decode prog_14_method_101_code 40 = .ok (.ifCond .ne 59, 3) := by decide +kernel
theorem dM_mosts_43 : decode prog_14_method_101_code 43 = .ok (.aload_n 0, 1) := by decide +kernel
theorem dM_mosts_44 : decode prog_14_method_101_code 44 = .ok (.getfield 199, 3) := by decide +kernel
theorem dM_mosts_47 : decode prog_14_method_101_code 47 = .ok (.iload_n 1, 1) := by decide +kernel
theorem dM_mosts_48 : decode prog_14_method_101_code 48 = .ok (.iload_n 3, 1) := by decide +kernel
theorem dM_mosts_49 : decode prog_14_method_101_code 49 = .ok (.iconst (-1), 1) := by decide +kernel
theorem dM_mosts_50 : decode prog_14_method_101_code 50 = .ok (.ixor, 1) := by decide +kernel
theorem dM_mosts_51 : decode prog_14_method_101_code 51 = .ok (.iand, 1) := by decide +kernel
theorem dM_mosts_52 : decode prog_14_method_101_code 52 = .ok (.iaload, 1) := by decide +kernel
theorem dM_mosts_53 : decode prog_14_method_101_code 53 = .ok (.iconst (-1), 1) := by decide +kernel
theorem dM_mosts_54 : decode prog_14_method_101_code 54 = .ok (.if_icmp .ne 6, 3) := by decide +kernel
theorem dM_mosts_57 : decode prog_14_method_101_code 57 = .ok (.goto 42, 3) := by decide +kernel
theorem dM_mosts_60 : decode prog_14_method_101_code 60 = .ok (.aload_n 0, 1) := by decide +kernel
theorem dM_mosts_61 : decode prog_14_method_101_code 61 = .ok (.getfield 199, 3) := by decide +kernel
theorem dM_mosts_64 : decode prog_14_method_101_code 64 = .ok (.iload_n 1, 1) := by decide +kernel
theorem dM_mosts_65 : decode prog_14_method_101_code 65 = .ok (.iload_n 3, 1) := by decide +kernel
theorem dM_mosts_66 : decode prog_14_method_101_code 66 = .ok (.iconst (-1), 1) := by decide +kernel
theorem dM_mosts_67 : decode prog_14_method_101_code 67 = .ok (.ixor, 1) := by decide +kernel
theorem dM_mosts_68 : decode prog_14_method_101_code 68 = .ok (.iand, 1) := by decide +kernel
theorem dM_mosts_69 : decode prog_14_method_101_code 69 = .ok (.iaload, 1) := by decide +kernel
theorem dM_mosts_70 : decode prog_14_method_101_code 70 = .ok (.iconst 1, 1) := by decide +kernel
theorem dM_mosts_71 : decode prog_14_method_101_code 71 = .ok (.iadd, 1) := by decide +kernel
theorem dM_mosts_72 : decode prog_14_method_101_code 72 = .ok (.aload_n 0, 1) := by decide +kernel
theorem dM_mosts_73 : decode prog_14_method_101_code 73 = .ok (.getfield 199, 3) := by decide +kernel
theorem dM_mosts_76 : decode prog_14_method_101_code 76 = .ok (.iload_n 1, 1) := by decide +kernel
theorem dM_mosts_77 : decode prog_14_method_101_code 77 = .ok (.iaload, 1) := by decide +kernel
theorem dM_mosts_78 : decode prog_14_method_101_code 78 = .ok (.if_icmp .le 21, 3) := by decide +kernel
theorem dM_mosts_81 : decode prog_14_method_101_code 81 = .ok (.aload_n 0, 1) := by decide +kernel
theorem dM_mosts_82 : decode prog_14_method_101_code 82 = .ok (.getfield 199, 3) := by decide +kernel
theorem dM_mosts_85 : decode prog_14_method_101_code 85 = .ok (.iload_n 1, 1) := by decide +kernel
theorem dM_mosts_86 : decode prog_14_method_101_code 86 = .ok (.aload_n 0, 1) := by decide +kernel
theorem dM_mosts_87 : decode prog_14_method_101_code 87 = .ok (.getfield 199, 3) := by decide +kernel
theorem dM_mosts_90 : decode prog_14_method_101_code 90 = .ok (.iload_n 1, 1) := by decide +kernel
theorem dM_mosts_91 : decode prog_14_method_101_code 91 = .ok (.iload_n 3, 1) := by decide +kernel
theorem dM_mosts_92 : decode prog_14_method_101_code 92 = .ok (.iconst (-1), 1) := by decide +kernel
theorem dM_mosts_93 : decode prog_14_method_101_code 93 = .ok (.ixor, 1) := by decide +kernel
theorem dM_mosts_94 : decode prog_14_method_101_code 94 = .ok (.iand, 1) := by decide +kernel
theorem dM_mosts_95 : decode prog_14_method_101_code 95 = .ok (.iaload, 1) := by decide +kernel
theorem dM_mosts_96 : decode prog_14_method_101_code 96 = .ok (.iconst 1, 1) := by decide +kernel
theorem dM_mosts_97 : decode prog_14_method_101_code 97 = .ok (.iadd, 1) := by decide +kernel
theorem dM_mosts_98 : decode prog_14_method_101_code 98 = .ok (.iastore, 1) := by decide +kernel
theorem dM_mosts_99 : decode prog_14_method_101_code 99 = .ok (.iload_n 3, 1) := by decide +kernel
theorem dM_mosts_100 : decode prog_14_method_101_code 100 = .ok (.iconst 1, 1) := by decide +kernel
theorem dM_mosts_101 : decode prog_14_method_101_code 101 = .ok (.isub, 1) := by decide +kernel
theorem dM_mosts_102 : decode prog_14_method_101_code 102 = .ok (.iload_n 1, 1) := by decide +kernel
theorem dM_mosts_103 : decode prog_14_method_101_code 103 = .ok (.iand, 1) := by decide +kernel
theorem dM_mosts_104 : decode prog_14_method_101_code 104 = .ok (.istore_n 3, 1) := by decide +kernel
theorem dM_mosts_105 : decode prog_14_method_101_code 105 = .ok (.goto (-83), 3) := by decide +kernel
theorem dM_mosts_108 : decode prog_14_method_101_code 108 = .ok (.return_, 1) := by decide +kernel
theorem dM_nameOf_0 : decode prog_14_method_98_code 0 = .ok (.iload_n 0, 1) := by decide +kernel
theorem dM_nameOf_1 : decode prog_14_method_98_code 1 = .ok (.bipush 20, 2) := by decide +kernel
theorem dM_nameOf_3 : decode prog_14_method_98_code 3 = .ok (.if_icmp .ne 8, 3) := by decide +kernel
theorem dM_nameOf_6 : decode prog_14_method_98_code 6 = .ok (.bipush 40, 2) := by decide +kernel
theorem dM_nameOf_8 : decode prog_14_method_98_code 8 = .ok (.goto 31, 3) := by decide +kernel
theorem dM_nameOf_11 : decode prog_14_method_98_code 11 = .ok (.iload_n 0, 1) := by decide +kernel
theorem dM_nameOf_12 : decode prog_14_method_98_code 12 = .ok (.bipush 21, 2) := by decide +kernel
theorem dM_nameOf_14 : decode prog_14_method_98_code 14 = .ok (.if_icmp .ne 8, 3) := by decide +kernel
theorem dM_nameOf_17 : decode prog_14_method_98_code 17 = .ok (.bipush 41, 2) := by decide +kernel
theorem dM_nameOf_19 : decode prog_14_method_98_code 19 = .ok (.goto 20, 3) := by decide +kernel
theorem dM_nameOf_22 : decode prog_14_method_98_code 22 = .ok (.iload_n 0, 1) := by decide +kernel
theorem dM_nameOf_23 : decode prog_14_method_98_code 23 = .ok (.bipush 16, 2) := by decide +kernel
theorem dM_nameOf_25 : decode prog_14_method_98_code 25 = .ok (.if_icmp .ge 7, 3) := by decide +kernel
theorem dM_nameOf_28 : decode prog_14_method_98_code 28 = .ok (.iload_n 0, 1) := by decide +kernel
theorem dM_nameOf_29 : decode prog_14_method_98_code 29 = .ok (.goto 10, 3) := by decide +kernel
theorem dM_nameOf_32 : decode prog_14_method_98_code 32 = .ok (.iload_n 0, 1) := by decide +kernel
theorem dM_nameOf_33 : decode prog_14_method_98_code 33 = .ok (.bipush 16, 2) := by decide +kernel
theorem dM_nameOf_35 : decode prog_14_method_98_code 35 = .ok (.isub, 1) := by decide +kernel
theorem dM_nameOf_36 : decode prog_14_method_98_code 36 = .ok (.bipush 20, 2) := by decide +kernel
theorem dM_nameOf_38 : decode prog_14_method_98_code 38 = .ok (.iadd, 1) := by decide +kernel
theorem dM_nameOf_39 : decode prog_14_method_98_code 39 = .ok (.ireturn, 1) := by decide +kernel
theorem dM_near_0 : decode prog_14_method_3_code 0 = .ok (.lload_n 0, 1) := by decide +kernel
theorem dM_near_1 : decode prog_14_method_3_code 1 = .ok (.lload_n 2, 1) := by decide +kernel
theorem dM_near_2 : decode prog_14_method_3_code 2 = .ok (.lcmp, 1) := by decide +kernel
theorem dM_near_3 : decode prog_14_method_3_code 3 = .ok (.ifCond .ge 7, 3) := by decide +kernel
theorem dM_near_6 : decode prog_14_method_3_code 6 = .ok (.lload_n 2, 1) := by decide +kernel
theorem dM_near_7 : decode prog_14_method_3_code 7 = .ok (.goto 16, 3) := by decide +kernel
theorem dM_near_10 : decode prog_14_method_3_code 10 = .ok (.lload_n 0, 1) := by decide +kernel
theorem dM_near_11 : decode prog_14_method_3_code 11 = .ok (.lload 4, 2) := by decide +kernel
theorem dM_near_13 : decode prog_14_method_3_code 13 = .ok (.lcmp, 1) := by decide +kernel
theorem dM_near_14 : decode prog_14_method_3_code 14 = .ok (.ifCond .le 8, 3) := by decide +kernel
theorem dM_near_17 : decode prog_14_method_3_code 17 = .ok (.lload 4, 2) := by decide +kernel
theorem dM_near_19 : decode prog_14_method_3_code 19 = .ok (.goto 4, 3) := by decide +kernel
theorem dM_near_22 : decode prog_14_method_3_code 22 = .ok (.lload_n 0, 1) := by decide +kernel
theorem dM_near_23 : decode prog_14_method_3_code 23 = .ok (.lreturn, 1) := by decide +kernel
theorem dM_open_0 : decode prog_14_method_8_code 0 = .ok (.aload_n 0, 1) := by decide +kernel
theorem dM_open_1 : decode prog_14_method_8_code 1 = .ok (.iload_n 1, 1) := by decide +kernel
theorem dM_open_2 : decode prog_14_method_8_code 2 = .ok (.invokevirtual 229, 3) := by decide +kernel
theorem dM_open_5 : decode prog_14_method_8_code 5 = .ok (.ireturn, 1) := by decide +kernel
theorem dM_paid_0 : decode prog_14_method_105_code 0 = .ok (.iload 4, 2) := by decide +kernel
theorem dM_paid_2 : decode prog_14_method_105_code 2 = .ok (.iconst 2, 1) := by decide +kernel
theorem dM_paid_3 : decode prog_14_method_105_code 3 = .ok (.if_icmp .ne 19, 3) := by decide +kernel
theorem dM_paid_6 : decode prog_14_method_105_code 6 = .ok (.lload_n 2, 1) := by decide +kernel
theorem dM_paid_7 : decode prog_14_method_105_code 7 = .ok (.lconst 0, 1) := by decide +kernel
theorem dM_paid_8 : decode prog_14_method_105_code 8 = .ok (.lcmp, 1) := by decide +kernel
theorem dM_paid_9 : decode prog_14_method_105_code 9 = .ok (.ifCond .ge 8, 3) := by decide +kernel
theorem dM_paid_12 : decode prog_14_method_105_code 12 = .ok (.lload_n 2, 1) := by decide +kernel
theorem dM_paid_13 : decode prog_14_method_105_code 13 = .ok (.lneg, 1) := by decide +kernel
theorem dM_paid_14 : decode prog_14_method_105_code 14 = .ok (.goto 4, 3) := by decide +kernel
theorem dM_paid_17 : decode prog_14_method_105_code 17 = .ok (.lload_n 2, 1) := by decide +kernel
theorem dM_paid_18 : decode prog_14_method_105_code 18 = .ok (.invokestatic 482, 3) := by decide +kernel
theorem dM_paid_21 : decode prog_14_method_105_code 21 = .ok (.ireturn, 1) := by decide +kernel
theorem dM_paid_22 : decode prog_14_method_105_code 22 = .ok (.lload_n 2, 1) := by decide +kernel
theorem dM_paid_23 : decode prog_14_method_105_code 23 = .ok (.lconst 0, 1) := by decide +kernel
theorem dM_paid_24 : decode prog_14_method_105_code 24 = .ok (.lcmp, 1) := by decide +kernel
theorem dM_paid_25 : decode prog_14_method_105_code 25 = .ok (.ifCond .ge 7, 3) := by decide +kernel
theorem dM_paid_28 : decode prog_14_method_105_code 28 = .ok (.iconst 1, 1) := by decide +kernel
theorem dM_paid_29 : decode prog_14_method_105_code 29 = .ok (.goto 4, 3) := by decide +kernel
theorem dM_paid_32 : decode prog_14_method_105_code 32 = .ok (.iconst 0, 1) := by decide +kernel
theorem dM_paid_33 : decode prog_14_method_105_code 33 = .ok (.iload 4, 2) := by decide +kernel
theorem dM_paid_35 : decode prog_14_method_105_code 35 = .ok (.ifCond .ne 7, 3) := by decide +kernel
theorem dM_paid_38 : decode prog_14_method_105_code 38 = .ok (.iconst 1, 1) := by decide +kernel
theorem dM_paid_39 : decode prog_14_method_105_code 39 = .ok (.goto 4, 3) := by decide +kernel
theorem dM_paid_42 : decode prog_14_method_105_code 42 = .ok (.iconst 0, 1) := by decide +kernel
theorem dM_paid_43 : decode prog_14_method_105_code 43 = .ok (.if_icmp .ne 7, 3) := by decide +kernel
theorem dM_paid_46 : decode prog_14_method_105_code 46 = .ok (.iload_n 0, 1) := by decide +kernel
theorem dM_paid_47 : decode prog_14_method_105_code 47 = .ok (.goto 4, 3) := by decide +kernel
theorem dM_paid_50 : decode prog_14_method_105_code 50 = .ok (.iload_n 1, 1) := by decide +kernel
theorem dM_paid_51 : decode prog_14_method_105_code 51 = .ok (.invokestatic 568, 3) := by decide +kernel
theorem dM_paid_54 : decode prog_14_method_105_code 54 = .ok (.ireturn, 1) := by decide +kernel
theorem dM_paper_0 : decode prog_14_method_17_code 0 = .ok (.iload_n 1, 1) := by decide +kernel
theorem dM_paper_1 : decode prog_14_method_17_code 1 = .ok (.i2l, 1) := by decide +kernel
theorem dM_paper_2 : decode prog_14_method_17_code 2 = .ok (.lconst 0, 1) := by decide +kernel
theorem dM_paper_3 : decode prog_14_method_17_code 3 = .ok (.ldc2_w 237, 3) := by decide +kernel
theorem dM_paper_6 : decode prog_14_method_17_code 6 = .ok (.invokestatic 222, 3) := by decide +kernel
theorem dM_paper_9 : decode prog_14_method_17_code 9 = .ok (.ifCond .eq 22, 3) := by decide +kernel
theorem dM_paper_12 : decode prog_14_method_17_code 12 = .ok (.iload_n 2, 1) := by decide +kernel
theorem dM_paper_13 : decode prog_14_method_17_code 13 = .ok (.i2l, 1) := by decide +kernel
theorem dM_paper_14 : decode prog_14_method_17_code 14 = .ok (.lconst 0, 1) := by decide +kernel
theorem dM_paper_15 : decode prog_14_method_17_code 15 = .ok (.ldc2_w 233, 3) := by decide +kernel
theorem dM_paper_18 : decode prog_14_method_17_code 18 = .ok (.invokestatic 222, 3) := by decide +kernel
theorem dM_paper_21 : decode prog_14_method_17_code 21 = .ok (.ifCond .eq 10, 3) := by decide +kernel
theorem dM_paper_24 : decode prog_14_method_17_code 24 = .ok (.aload_n 0, 1) := by decide +kernel
theorem dM_paper_25 : decode prog_14_method_17_code 25 = .ok (.getfield 216, 3) := by decide +kernel
theorem dM_paper_28 : decode prog_14_method_17_code 28 = .ok (.ifCond .eq 5, 3) := by decide +kernel
theorem dM_paper_31 : decode prog_14_method_17_code 31 = .ok (.iconst 0, 1) := by decide +kernel
theorem dM_paper_32 : decode prog_14_method_17_code 32 = .ok (.ireturn, 1) := by decide +kernel
theorem dM_paper_33 : decode prog_14_method_17_code 33 = .ok (.aload_n 0, 1) := by decide +kernel
theorem dM_paper_34 : decode prog_14_method_17_code 34 = .ok (.getfield 41, 3) := by decide +kernel
theorem dM_paper_37 : decode prog_14_method_17_code 37 = .ok (.iload_n 1, 1) := by decide +kernel
theorem dM_paper_38 : decode prog_14_method_17_code 38 = .ok (.iload_n 2, 1) := by decide +kernel
theorem dM_paper_39 : decode prog_14_method_17_code 39 = .ok (.iastore, 1) := by decide +kernel
theorem dM_paper_40 : decode prog_14_method_17_code 40 = .ok (.iconst 1, 1) := by decide +kernel
theorem dM_paper_41 : decode prog_14_method_17_code 41 = .ok (.ireturn, 1) := by decide +kernel
theorem dM_papers_0 : decode prog_14_method_49_code 0 = .ok (.iconst 0, 1) := by decide +kernel
theorem dM_papers_1 : decode prog_14_method_49_code 1 = .ok (.istore_n 3, 1) := by decide +kernel
theorem dM_papers_2 : decode prog_14_method_49_code 2 = .ok (.iload_n 3, 1) := by decide +kernel
theorem dM_papers_3 : decode prog_14_method_49_code 3 = .ok (.bipush 8, 2) := by decide +kernel
theorem dM_papers_5 : decode prog_14_method_49_code 5 = .ok (.if_icmp .ge 48, 3) := by decide +kernel
theorem dM_papers_8 : decode prog_14_method_49_code 8 = .ok (.aload_n 0, 1) := by decide +kernel
theorem dM_papers_9 : decode prog_14_method_49_code 9 = .ok (.getfield 145, 3) := by decide +kernel
theorem dM_papers_12 : decode prog_14_method_49_code 12 = .ok (.iload_n 1, 1) := by decide +kernel
theorem dM_papers_13 : decode prog_14_method_49_code 13 = .ok (.aaload, 1) := by decide +kernel
theorem dM_papers_14 : decode prog_14_method_49_code 14 = .ok (.iload_n 3, 1) := by decide +kernel
theorem dM_papers_15 : decode prog_14_method_49_code 15 = .ok (.aload_n 0, 1) := by decide +kernel
theorem dM_papers_16 : decode prog_14_method_49_code 16 = .ok (.getfield 145, 3) := by decide +kernel
theorem dM_papers_19 : decode prog_14_method_49_code 19 = .ok (.iload_n 1, 1) := by decide +kernel
theorem dM_papers_20 : decode prog_14_method_49_code 20 = .ok (.aaload, 1) := by decide +kernel
theorem dM_papers_21 : decode prog_14_method_49_code 21 = .ok (.iload_n 3, 1) := by decide +kernel
theorem dM_papers_22 : decode prog_14_method_49_code 22 = .ok (.laload, 1) := by decide +kernel
theorem dM_papers_23 : decode prog_14_method_49_code 23 = .ok (.aload_n 0, 1) := by decide +kernel
theorem dM_papers_24 : decode prog_14_method_49_code 24 = .ok (.getfield 134, 3) := by decide +kernel
theorem dM_papers_27 : decode prog_14_method_49_code 27 = .ok (.iload_n 3, 1) := by decide +kernel
theorem dM_papers_28 : decode prog_14_method_49_code 28 = .ok (.aaload, 1) := by decide +kernel
theorem dM_papers_29 : decode prog_14_method_49_code 29 = .ok (.iload_n 2, 1) := by decide +kernel
theorem dM_papers_30 : decode prog_14_method_49_code 30 = .ok (.iaload, 1) := by decide +kernel
theorem dM_papers_31 : decode prog_14_method_49_code 31 = .ok (.i2l, 1) := by decide +kernel
theorem dM_papers_32 : decode prog_14_method_49_code 32 = .ok (.lmul, 1) := by decide +kernel
theorem dM_papers_33 : decode prog_14_method_49_code 33 = .ok (.ldc2_w 247, 3) := by decide +kernel
theorem dM_papers_36 : decode prog_14_method_49_code 36 = .ok (.ldiv, 1) := by decide +kernel
theorem dM_papers_37 : decode prog_14_method_49_code 37 = .ok (.ldc2_w 425, 3) := by decide +kernel
theorem dM_papers_40 : decode prog_14_method_49_code 40 = .ok (.ldc2_w 427, 3) := by decide +kernel
theorem dM_papers_43 : decode prog_14_method_49_code 43 = .ok (.invokestatic 212, 3) := by decide +kernel
theorem dM_papers_46 : decode prog_14_method_49_code 46 = .ok (.lastore, 1) := by decide +kernel
theorem dM_papers_47 : decode prog_14_method_49_code 47 = .ok (.iinc 3 1, 3) := by decide +kernel
theorem dM_papers_50 : decode prog_14_method_49_code 50 = .ok (.goto (-48), 3) := by decide +kernel
theorem dM_papers_53 : decode prog_14_method_49_code 53 = .ok (.iconst 0, 1) := by decide +kernel
theorem dM_papers_54 : decode prog_14_method_49_code 54 = .ok (.istore_n 3, 1) := by decide +kernel
theorem dM_papers_55 : decode prog_14_method_49_code 55 = .ok (.iload_n 3, 1) := by decide +kernel
theorem dM_papers_56 : decode prog_14_method_49_code 56 = .ok (.bipush 8, 2) := by decide +kernel
theorem dM_papers_58 : decode prog_14_method_49_code 58 = .ok (.if_icmp .ge 55, 3) := by decide +kernel
theorem dM_papers_61 : decode prog_14_method_49_code 61 = .ok (.aload_n 0, 1) := by decide +kernel
theorem dM_papers_62 : decode prog_14_method_49_code 62 = .ok (.getfield 137, 3) := by decide +kernel
theorem dM_papers_65 : decode prog_14_method_49_code 65 = .ok (.iload_n 1, 1) := by decide +kernel
theorem dM_papers_66 : decode prog_14_method_49_code 66 = .ok (.dup2, 1) := by decide +kernel
theorem dM_papers_67 : decode prog_14_method_49_code 67 = .ok (.laload, 1) := by decide +kernel
theorem dM_papers_68 : decode prog_14_method_49_code 68 = .ok (.aload_n 0, 1) := by decide +kernel
theorem dM_papers_69 : decode prog_14_method_49_code 69 = .ok (.getfield 145, 3) := by decide +kernel
theorem dM_papers_72 : decode prog_14_method_49_code 72 = .ok (.iload_n 1, 1) := by decide +kernel
theorem dM_papers_73 : decode prog_14_method_49_code 73 = .ok (.aaload, 1) := by decide +kernel
theorem dM_papers_74 : decode prog_14_method_49_code 74 = .ok (.iload_n 3, 1) := by decide +kernel
theorem dM_papers_75 : decode prog_14_method_49_code 75 = .ok (.laload, 1) := by decide +kernel
theorem dM_papers_76 : decode prog_14_method_49_code 76 = .ok (.aload_n 0, 1) := by decide +kernel
theorem dM_papers_77 : decode prog_14_method_49_code 77 = .ok (.getfield 131, 3) := by decide +kernel
theorem dM_papers_80 : decode prog_14_method_49_code 80 = .ok (.iload_n 3, 1) := by decide +kernel
theorem dM_papers_81 : decode prog_14_method_49_code 81 = .ok (.aaload, 1) := by decide +kernel
theorem dM_papers_82 : decode prog_14_method_49_code 82 = .ok (.iload_n 2, 1) := by decide +kernel
theorem dM_papers_83 : decode prog_14_method_49_code 83 = .ok (.iaload, 1) := by decide +kernel
theorem dM_papers_84 : decode prog_14_method_49_code 84 = .ok (.i2l, 1) := by decide +kernel
theorem dM_papers_85 : decode prog_14_method_49_code 85 = .ok (.lmul, 1) := by decide +kernel
theorem dM_papers_86 : decode prog_14_method_49_code 86 = .ok (.aload_n 0, 1) := by decide +kernel
theorem dM_papers_87 : decode prog_14_method_49_code 87 = .ok (.getfield 128, 3) := by decide +kernel
theorem dM_papers_90 : decode prog_14_method_49_code 90 = .ok (.aload_n 0, 1) := by decide +kernel
theorem dM_papers_91 : decode prog_14_method_49_code 91 = .ok (.getfield 41, 3) := by decide +kernel
theorem dM_papers_94 : decode prog_14_method_49_code 94 = .ok (.iload_n 3, 1) := by decide +kernel
theorem dM_papers_95 : decode prog_14_method_49_code 95 = .ok (.iaload, 1) := by decide +kernel
theorem dM_papers_96 : decode prog_14_method_49_code 96 = .ok (.aaload, 1) := by decide +kernel
theorem dM_papers_97 : decode prog_14_method_49_code 97 = .ok (.iload_n 2, 1) := by decide +kernel
theorem dM_papers_98 : decode prog_14_method_49_code 98 = .ok (.iaload, 1) := by decide +kernel
theorem dM_papers_99 : decode prog_14_method_49_code 99 = .ok (.i2l, 1) := by decide +kernel
theorem dM_papers_100 : decode prog_14_method_49_code 100 = .ok (.lmul, 1) := by decide +kernel
theorem dM_papers_101 : decode prog_14_method_49_code 101 = .ok (.ldc2_w 247, 3) := by decide +kernel
theorem dM_papers_104 : decode prog_14_method_49_code 104 = .ok (.ldiv, 1) := by decide +kernel
theorem dM_papers_105 : decode prog_14_method_49_code 105 = .ok (.ladd, 1) := by decide +kernel
theorem dM_papers_106 : decode prog_14_method_49_code 106 = .ok (.lastore, 1) := by decide +kernel
theorem dM_papers_107 : decode prog_14_method_49_code 107 = .ok (.iinc 3 1, 3) := by decide +kernel
theorem dM_papers_110 : decode prog_14_method_49_code 110 = .ok (.goto (-55), 3) := by decide +kernel
theorem dM_papers_113 : decode prog_14_method_49_code 113 = .ok (.iconst 0, 1) := by decide +kernel
theorem dM_papers_114 : decode prog_14_method_49_code 114 = .ok (.istore_n 3, 1) := by decide +kernel
theorem dM_papers_115 : decode prog_14_method_49_code 115 = .ok (.iload_n 3, 1) := by decide +kernel
theorem dM_papers_116 : decode prog_14_method_49_code 116 = .ok (.aload_n 0, 1) := by decide +kernel
theorem dM_papers_117 : decode prog_14_method_49_code 117 = .ok (.getfield 294, 3) := by decide +kernel
theorem dM_papers_120 : decode prog_14_method_49_code 120 = .ok (.if_icmp .ge 104, 3) := by decide +kernel
theorem dM_papers_123 : decode prog_14_method_49_code 123 = .ok (.aload_n 0, 1) := by decide +kernel
theorem dM_papers_124 : decode prog_14_method_49_code 124 = .ok (.getfield 56, 3) := by decide +kernel
theorem dM_papers_127 : decode prog_14_method_49_code 127 = .ok (.iload_n 3, 1) := by decide +kernel
theorem dM_papers_128 : decode prog_14_method_49_code 128 = .ok (.iaload, 1) := by decide +kernel
theorem dM_papers_129 : decode prog_14_method_49_code 129 = .ok (.iload_n 1, 1) := by decide +kernel
theorem dM_papers_130 : decode prog_14_method_49_code 130 = .ok (.if_icmp .ne 88, 3) := by decide +kernel
theorem dM_papers_133 : decode prog_14_method_49_code 133 = .ok (.aload_n 0, 1) := by decide +kernel
theorem dM_papers_134 : decode prog_14_method_49_code 134 = .ok (.getfield 62, 3) := by decide +kernel
theorem dM_papers_137 : decode prog_14_method_49_code 137 = .ok (.iload_n 3, 1) := by decide +kernel
theorem dM_papers_138 : decode prog_14_method_49_code 138 = .ok (.iaload, 1) := by decide +kernel
theorem dM_papers_139 : decode prog_14_method_49_code 139 = .ok (.iload_n 2, 1) := by decide +kernel
theorem dM_papers_140 : decode prog_14_method_49_code 140 = .ok (.if_icmp .ne 78, 3) := by decide +kernel
theorem dM_papers_143 : decode prog_14_method_49_code 143 = .ok (.aload_n 0, 1) := by decide +kernel
theorem dM_papers_144 : decode prog_14_method_49_code 144 = .ok (.getfield 71, 3) := by decide +kernel
theorem dM_papers_147 : decode prog_14_method_49_code 147 = .ok (.iload_n 3, 1) := by decide +kernel
theorem dM_papers_148 : decode prog_14_method_49_code 148 = .ok (.iaload, 1) := by decide +kernel
theorem dM_papers_149 : decode prog_14_method_49_code 149 = .ok (.aload_n 0, 1) := by decide +kernel
theorem dM_papers_150 : decode prog_14_method_49_code 150 = .ok (.getfield 418, 3) := by decide +kernel
theorem dM_papers_153 : decode prog_14_method_49_code 153 = .ok (.if_icmp .le 6, 3) := by decide +kernel
theorem dM_papers_156 : decode prog_14_method_49_code 156 = .ok (.goto 62, 3) := by decide +kernel
theorem dM_papers_159 : decode prog_14_method_49_code 159 = .ok (.aload_n 0, 1) := by decide +kernel
theorem dM_papers_160 : decode prog_14_method_49_code 160 = .ok (.getfield 145, 3) := by decide +kernel
theorem dM_papers_163 : decode prog_14_method_49_code 163 = .ok (.iload_n 1, 1) := by decide +kernel
theorem dM_papers_164 : decode prog_14_method_49_code 164 = .ok (.aaload, 1) := by decide +kernel
theorem dM_papers_165 : decode prog_14_method_49_code 165 = .ok (.aload_n 0, 1) := by decide +kernel
theorem dM_papers_166 : decode prog_14_method_49_code 166 = .ok (.getfield 59, 3) := by decide +kernel
theorem dM_papers_169 : decode prog_14_method_49_code 169 = .ok (.iload_n 3, 1) := by decide +kernel
theorem dM_papers_170 : decode prog_14_method_49_code 170 = .ok (.iaload, 1) := by decide +kernel
theorem dM_papers_171 : decode prog_14_method_49_code 171 = .ok (.aload_n 0, 1) := by decide +kernel
theorem dM_papers_172 : decode prog_14_method_49_code 172 = .ok (.getfield 145, 3) := by decide +kernel
theorem dM_papers_175 : decode prog_14_method_49_code 175 = .ok (.iload_n 1, 1) := by decide +kernel
theorem dM_papers_176 : decode prog_14_method_49_code 176 = .ok (.aaload, 1) := by decide +kernel
theorem dM_papers_177 : decode prog_14_method_49_code 177 = .ok (.aload_n 0, 1) := by decide +kernel
theorem dM_papers_178 : decode prog_14_method_49_code 178 = .ok (.getfield 59, 3) := by decide +kernel
theorem dM_papers_181 : decode prog_14_method_49_code 181 = .ok (.iload_n 3, 1) := by decide +kernel
theorem dM_papers_182 : decode prog_14_method_49_code 182 = .ok (.iaload, 1) := by decide +kernel
theorem dM_papers_183 : decode prog_14_method_49_code 183 = .ok (.laload, 1) := by decide +kernel
theorem dM_papers_184 : decode prog_14_method_49_code 184 = .ok (.aload_n 0, 1) := by decide +kernel
theorem dM_papers_185 : decode prog_14_method_49_code 185 = .ok (.getfield 65, 3) := by decide +kernel
theorem dM_papers_188 : decode prog_14_method_49_code 188 = .ok (.iload_n 3, 1) := by decide +kernel
theorem dM_papers_189 : decode prog_14_method_49_code 189 = .ok (.iaload, 1) := by decide +kernel
theorem dM_papers_190 : decode prog_14_method_49_code 190 = .ok (.i2l, 1) := by decide +kernel
theorem dM_papers_191 : decode prog_14_method_49_code 191 = .ok (.ladd, 1) := by decide +kernel
theorem dM_papers_192 : decode prog_14_method_49_code 192 = .ok (.ldc2_w 425, 3) := by decide +kernel
theorem dM_papers_195 : decode prog_14_method_49_code 195 = .ok (.ldc2_w 427, 3) := by decide +kernel
theorem dM_papers_198 : decode prog_14_method_49_code 198 = .ok (.invokestatic 212, 3) := by decide +kernel
theorem dM_papers_201 : decode prog_14_method_49_code 201 = .ok (.lastore, 1) := by decide +kernel
theorem dM_papers_202 : decode prog_14_method_49_code 202 = .ok (.aload_n 0, 1) := by decide +kernel
theorem dM_papers_203 : decode prog_14_method_49_code 203 = .ok (.getfield 137, 3) := by decide +kernel
theorem dM_papers_206 : decode prog_14_method_49_code 206 = .ok (.iload_n 1, 1) := by decide +kernel
theorem dM_papers_207 : decode prog_14_method_49_code 207 = .ok (.dup2, 1) := by decide +kernel
theorem dM_papers_208 : decode prog_14_method_49_code 208 = .ok (.laload, 1) := by decide +kernel
theorem dM_papers_209 : decode prog_14_method_49_code 209 = .ok (.aload_n 0, 1) := by decide +kernel
theorem dM_papers_210 : decode prog_14_method_49_code 210 = .ok (.getfield 68, 3) := by decide +kernel
theorem dM_papers_213 : decode prog_14_method_49_code 213 = .ok (.iload_n 3, 1) := by decide +kernel
theorem dM_papers_214 : decode prog_14_method_49_code 214 = .ok (.iaload, 1) := by decide +kernel
theorem dM_papers_215 : decode prog_14_method_49_code 215 = .ok (.i2l, 1) := by decide +kernel
theorem dM_papers_216 : decode prog_14_method_49_code 216 = .ok (.ladd, 1) := by decide +kernel
theorem dM_papers_217 : decode prog_14_method_49_code 217 = .ok (.lastore, 1) := by decide +kernel
theorem dM_papers_218 : decode prog_14_method_49_code 218 = .ok (.iinc 3 1, 3) := by decide +kernel
theorem dM_papers_221 : decode prog_14_method_49_code 221 = .ok (.goto (-106), 3) := by decide +kernel
theorem dM_papers_224 : decode prog_14_method_49_code 224 = .ok (.return_, 1) := by decide +kernel
theorem dM_payment_0 : decode prog_14_method_104_code 0 = .ok (.iload_n 2, 1) := by decide +kernel
theorem dM_payment_1 : decode prog_14_method_104_code 1 = .ok (.ifCond .lt 23, 3) := by decide +kernel
theorem dM_payment_4 : decode prog_14_method_104_code 4 = .ok (.iload_n 3, 1) := by decide +kernel
theorem dM_payment_5 : decode prog_14_method_104_code 5 = .ok (.i2l, 1) := by decide +kernel
theorem dM_payment_6 : decode prog_14_method_104_code 6 = .ok (.lconst 0, 1) := by decide +kernel
theorem dM_payment_7 : decode prog_14_method_104_code 7 = .ok (.ldc2_w 233, 3) := by decide +kernel
theorem dM_payment_10 : decode prog_14_method_104_code 10 = .ok (.invokestatic 222, 3) := by decide +kernel
theorem dM_payment_13 : decode prog_14_method_104_code 13 = .ok (.ifCond .eq 11, 3) := by decide +kernel
theorem dM_payment_16 : decode prog_14_method_104_code 16 = .ok (.aload_n 0, 1) := by decide +kernel
theorem dM_payment_17 : decode prog_14_method_104_code 17 = .ok (.iload_n 1, 1) := by decide +kernel
theorem dM_payment_18 : decode prog_14_method_104_code 18 = .ok (.invokevirtual 561, 3) := by decide +kernel
theorem dM_payment_21 : decode prog_14_method_104_code 21 = .ok (.ifCond .ne 7, 3) := by decide +kernel
theorem dM_payment_24 : decode prog_14_method_104_code 24 = .ok (.ldc_w 266, 3) := by decide +kernel
theorem dM_payment_27 : decode prog_14_method_104_code 27 = .ok (.ireturn, 1) := by decide +kernel
theorem dM_payment_28 : decode prog_14_method_104_code 28 = .ok (.iconst 0, 1) := by decide +kernel
theorem dM_payment_29 : decode prog_14_method_104_code 29 = .ok (.istore 4, 2) := by decide +kernel
theorem dM_payment_31 : decode prog_14_method_104_code 31 = .ok (.iconst 0, 1) := by decide +kernel
theorem dM_payment_32 : decode prog_14_method_104_code 32 = .ok (.istore 5, 2) := by decide +kernel
theorem dM_payment_34 : decode prog_14_method_104_code 34 = .ok (.iload 5, 2) := by decide +kernel
theorem dM_payment_36 : decode prog_14_method_104_code 36 = .ok (.aload_n 0, 1) := by decide +kernel
theorem dM_payment_37 : decode prog_14_method_104_code 37 = .ok (.getfield 558, 3) := by decide +kernel
theorem dM_payment_40 : decode prog_14_method_104_code 40 = .ok (.if_icmp .ge 108, 3) := by decide +kernel
theorem dM_payment_43 : decode prog_14_method_104_code 43 = .ok (.lconst 0, 1) := by decide +kernel
theorem dM_payment_44 : decode prog_14_method_104_code 44 = .ok (.lstore 6, 2) := by decide +kernel
theorem dM_payment_46 : decode prog_14_method_104_code 46 = .ok (.iconst (-1), 1) := by decide +kernel
theorem dM_payment_47 : decode prog_14_method_104_code 47 = .ok (.istore 8, 2) := by decide +kernel
theorem dM_payment_49 : decode prog_14_method_104_code 49 = .ok (.iconst 0, 1) := by decide +kernel
theorem dM_payment_50 : decode prog_14_method_104_code 50 = .ok (.istore 9, 2) := by decide +kernel
theorem dM_payment_52 : decode prog_14_method_104_code 52 = .ok (.iload 9, 2) := by decide +kernel
theorem dM_payment_54 : decode prog_14_method_104_code 54 = .ok (.aload_n 0, 1) := by decide +kernel
theorem dM_payment_55 : decode prog_14_method_104_code 55 = .ok (.getfield 549, 3) := by decide +kernel
theorem dM_payment_58 : decode prog_14_method_104_code 58 = .ok (.if_icmp .ge 84, 3) := by decide +kernel
theorem dM_payment_61 : decode prog_14_method_104_code 61 = .ok (.aload_n 0, 1) := by decide +kernel
theorem dM_payment_62 : decode prog_14_method_104_code 62 = .ok (.getfield 205, 3) := by decide +kernel
theorem dM_payment_65 : decode prog_14_method_104_code 65 = .ok (.iload 5, 2) := by decide +kernel
theorem dM_payment_67 : decode prog_14_method_104_code 67 = .ok (.iaload, 1) := by decide +kernel
theorem dM_payment_68 : decode prog_14_method_104_code 68 = .ok (.iload 9, 2) := by decide +kernel
theorem dM_payment_70 : decode prog_14_method_104_code 70 = .ok (.ishr, 1) := by decide +kernel
theorem dM_payment_71 : decode prog_14_method_104_code 71 = .ok (.iconst 1, 1) := by decide +kernel
theorem dM_payment_72 : decode prog_14_method_104_code 72 = .ok (.iand, 1) := by decide +kernel
theorem dM_payment_73 : decode prog_14_method_104_code 73 = .ok (.ifCond .ne 6, 3) := by decide +kernel
theorem dM_payment_76 : decode prog_14_method_104_code 76 = .ok (.goto 60, 3) := by decide +kernel
theorem dM_payment_79 : decode prog_14_method_104_code 79 = .ok (.iload 8, 2) := by decide +kernel
theorem dM_payment_81 : decode prog_14_method_104_code 81 = .ok (.iconst (-1), 1) := by decide +kernel
theorem dM_payment_82 : decode prog_14_method_104_code 82 = .ok (.if_icmp .eq 28, 3) := by decide +kernel
theorem dM_payment_85 : decode prog_14_method_104_code 85 = .ok (.iload 4, 2) := by decide +kernel
theorem dM_payment_87 : decode prog_14_method_104_code 87 = .ok (.iload_n 2, 1) := by decide +kernel
theorem dM_payment_88 : decode prog_14_method_104_code 88 = .ok (.if_icmp .ne 19, 3) := by decide +kernel
theorem dM_payment_91 : decode prog_14_method_104_code 91 = .ok (.iload 8, 2) := by decide +kernel
theorem dM_payment_93 : decode prog_14_method_104_code 93 = .ok (.aload_n 0, 1) := by decide +kernel
theorem dM_payment_94 : decode prog_14_method_104_code 94 = .ok (.getfield 196, 3) := by decide +kernel
theorem dM_payment_97 : decode prog_14_method_104_code 97 = .ok (.iload 9, 2) := by decide +kernel
theorem dM_payment_99 : decode prog_14_method_104_code 99 = .ok (.iaload, 1) := by decide +kernel
theorem dM_payment_100 : decode prog_14_method_104_code 100 = .ok (.lload 6, 2) := by decide +kernel
theorem dM_payment_102 : decode prog_14_method_104_code 102 = .ok (.iload_n 3, 1) := by decide +kernel
theorem dM_payment_103 : decode prog_14_method_104_code 103 = .ok (.invokestatic 564, 3) := by decide +kernel
theorem dM_payment_106 : decode prog_14_method_104_code 106 = .ok (.ireturn, 1) := by decide +kernel
theorem dM_payment_107 : decode prog_14_method_104_code 107 = .ok (.iinc 4 1, 3) := by decide +kernel
theorem dM_payment_110 : decode prog_14_method_104_code 110 = .ok (.lload 6, 2) := by decide +kernel
theorem dM_payment_112 : decode prog_14_method_104_code 112 = .ok (.aload_n 0, 1) := by decide +kernel
theorem dM_payment_113 : decode prog_14_method_104_code 113 = .ok (.getfield 193, 3) := by decide +kernel
theorem dM_payment_116 : decode prog_14_method_104_code 116 = .ok (.aload_n 0, 1) := by decide +kernel
theorem dM_payment_117 : decode prog_14_method_104_code 117 = .ok (.getfield 196, 3) := by decide +kernel
theorem dM_payment_120 : decode prog_14_method_104_code 120 = .ok (.iload 9, 2) := by decide +kernel
theorem dM_payment_122 : decode prog_14_method_104_code 122 = .ok (.iaload, 1) := by decide +kernel
theorem dM_payment_123 : decode prog_14_method_104_code 123 = .ok (.laload, 1) := by decide +kernel
theorem dM_payment_124 : decode prog_14_method_104_code 124 = .ok (.ladd, 1) := by decide +kernel
theorem dM_payment_125 : decode prog_14_method_104_code 125 = .ok (.lstore 6, 2) := by decide +kernel
theorem dM_payment_127 : decode prog_14_method_104_code 127 = .ok (.aload_n 0, 1) := by decide +kernel
theorem dM_payment_128 : decode prog_14_method_104_code 128 = .ok (.getfield 196, 3) := by decide +kernel
theorem dM_payment_131 : decode prog_14_method_104_code 131 = .ok (.iload 9, 2) := by decide +kernel
theorem dM_payment_133 : decode prog_14_method_104_code 133 = .ok (.iaload, 1) := by decide +kernel
theorem dM_payment_134 : decode prog_14_method_104_code 134 = .ok (.istore 8, 2) := by decide +kernel
theorem dM_payment_136 : decode prog_14_method_104_code 136 = .ok (.iinc 9 1, 3) := by decide +kernel
theorem dM_payment_139 : decode prog_14_method_104_code 139 = .ok (.goto (-87), 3) := by decide +kernel
theorem dM_payment_142 : decode prog_14_method_104_code 142 = .ok (.iinc 5 1, 3) := by decide +kernel
theorem dM_payment_145 : decode prog_14_method_104_code 145 = .ok (.goto (-111), 3) := by decide +kernel
theorem dM_payment_148 : decode prog_14_method_104_code 148 = .ok (.ldc_w 266, 3) := by decide +kernel
theorem dM_payment_151 : decode prog_14_method_104_code 151 = .ok (.ireturn, 1) := by decide +kernel
theorem dM_payments_0 : decode prog_14_method_103_code 0 = .ok (.aload_n 0, 1) := by decide +kernel
theorem dM_payments_1 : decode prog_14_method_103_code 1 = .ok (.iload_n 1, 1) := by decide +kernel
theorem dM_payments_2 : decode prog_14_method_103_code 2 = .ok (.invokevirtual 561, 3) := by decide +kernel
theorem dM_payments_5 : decode prog_14_method_103_code 5 = .ok (.ifCond .eq 15, 3) := by decide +kernel
theorem dM_payments_8 : decode prog_14_method_103_code 8 = .ok (.aload_n 0, 1) := by decide +kernel
theorem dM_payments_9 : decode prog_14_method_103_code 9 = .ok (.getfield 549, 3) := by decide +kernel
theorem dM_payments_12 : decode prog_14_method_103_code 12 = .ok (.aload_n 0, 1) := by decide +kernel
theorem dM_payments_13 : decode prog_14_method_103_code 13 = .ok (.getfield 558, 3) := by decide +kernel
theorem dM_payments_16 : decode prog_14_method_103_code 16 = .ok (.isub, 1) := by decide +kernel
theorem dM_payments_17 : decode prog_14_method_103_code 17 = .ok (.goto 4, 3) := by decide +kernel
theorem dM_payments_20 : decode prog_14_method_103_code 20 = .ok (.iconst (-1), 1) := by decide +kernel
theorem dM_payments_21 : decode prog_14_method_103_code 21 = .ok (.ireturn, 1) := by decide +kernel
theorem dM_picks_0 : decode prog_14_method_102_code 0 = .ok (.aload_n 0, 1) := by decide +kernel
theorem dM_picks_1 : decode prog_14_method_102_code 1 = .ok (.iconst 0, 1) := by decide +kernel
theorem dM_picks_2 : decode prog_14_method_102_code 2 = .ok (.putfield 558, 3) := by decide +kernel
theorem dM_picks_5 : decode prog_14_method_102_code 5 = .ok (.iconst 1, 1) := by decide +kernel
theorem dM_picks_6 : decode prog_14_method_102_code 6 = .ok (.aload_n 0, 1) := by decide +kernel
theorem dM_picks_7 : decode prog_14_method_102_code 7 = .ok (.getfield 549, 3) := by decide +kernel
theorem dM_picks_10 : decode prog_14_method_102_code 10 = .ok (.ishl, 1) := by decide +kernel
theorem dM_picks_11 : decode prog_14_method_102_code 11 = .ok (.iconst 1, 1) := by decide +kernel
theorem dM_picks_12 : decode prog_14_method_102_code 12 = .ok (.isub, 1) := by decide +kernel
theorem dM_picks_13 : decode prog_14_method_102_code 13 = .ok (.istore_n 1, 1) := by decide +kernel
theorem dM_picks_14 : decode prog_14_method_102_code 14 = .ok (.iload_n 1, 1) := by decide +kernel
theorem dM_picks_15 : decode prog_14_method_102_code 15 = .ok (.ifCond .eq 91, 3) := by decide +kernel
theorem dM_picks_18 : decode prog_14_method_102_code 18 = .ok (.iload_n 1, 1) := by decide +kernel
theorem dM_picks_19 : decode prog_14_method_102_code 19 = .ok (.iload_n 1, 1) := by decide +kernel
theorem dM_picks_20 : decode prog_14_method_102_code 20 = .ok (.ineg, 1) := by decide +kernel
theorem dM_picks_21 : decode prog_14_method_102_code 21 = .ok (.iand, 1) := by decide +kernel
theorem dM_picks_22 : decode prog_14_method_102_code 22 = .ok (.istore_n 2, 1) := by decide +kernel
theorem dM_picks_23 : decode prog_14_method_102_code 23 = .ok (.iload_n 2, 1) := by decide +kernel
theorem dM_picks_24 : decode prog_14_method_102_code 24 = .ok (.istore_n 3, 1) := by decide +kernel
theorem dM_picks_25 : decode prog_14_method_102_code 25 = .ok (.iload_n 3, 1) := by decide +kernel
theorem dM_picks_26 : decode prog_14_method_102_code 26 = .ok (.iload_n 1, 1) := by decide +kernel
theorem dM_picks_27 : decode prog_14_method_102_code 27 = .ok (.iconst (-1), 1) := by decide +kernel
theorem dM_picks_28 : decode prog_14_method_102_code 28 = .ok (.ixor, 1) := by decide +kernel
