theorem dM_word_12 : decode prog_14_method_33_code 12 = .ok (.return_, 1) := by decide +kernel
theorem dM_word_13 : decode prog_14_method_33_code 13 = .ok (.aload_n 0, 1) := by decide +kernel
theorem dM_word_14 : decode prog_14_method_33_code 14 = .ok (.aload_n 1, 1) := by decide +kernel
theorem dM_word_15 : decode prog_14_method_33_code 15 = .ok (.invokevirtual 341, 3) := by decide +kernel
theorem dM_word_18 : decode prog_14_method_33_code 18 = .ok (.ifCond .ne 8, 3) := by decide +kernel
theorem dM_word_21 : decode prog_14_method_33_code 21 = .ok (.aload_n 0, 1) := by decide +kernel
theorem dM_word_22 : decode prog_14_method_33_code 22 = .ok (.invokevirtual 345, 3) := by decide +kernel
theorem dM_word_25 : decode prog_14_method_33_code 25 = .ok (.return_, 1) := by decide +kernel
theorem dM_word_26 : decode prog_14_method_33_code 26 = .ok (.aload_n 0, 1) := by decide +kernel
theorem dM_word_27 : decode prog_14_method_33_code 27 = .ok (.aload_n 0, 1) := by decide +kernel
theorem dM_word_28 : decode prog_14_method_33_code 28 = .ok (.invokevirtual 328, 3) := by decide +kernel
theorem dM_word_31 : decode prog_14_method_33_code 31 = .ok (.putfield 319, 3) := by decide +kernel
theorem dM_word_34 : decode prog_14_method_33_code 34 = .ok (.return_, 1) := by decide +kernel
theorem dM_wordEnd_0 : decode prog_14_method_31_code 0 = .ok (.aload_n 0, 1) := by decide +kernel
theorem dM_wordEnd_1 : decode prog_14_method_31_code 1 = .ok (.getfield 319, 3) := by decide +kernel
theorem dM_wordEnd_4 : decode prog_14_method_31_code 4 = .ok (.istore_n 1, 1) := by decide +kernel
theorem dM_wordEnd_5 : decode prog_14_method_31_code 5 = .ok (.iload_n 1, 1) := by decide +kernel
theorem dM_wordEnd_6 : decode prog_14_method_31_code 6 = .ok (.aload_n 0, 1) := by decide +kernel
theorem dM_wordEnd_7 : decode prog_14_method_31_code 7 = .ok (.getfield 322, 3) := by decide +kernel
theorem dM_wordEnd_10 : decode prog_14_method_31_code 10 = .ok (.if_icmp .ge 21, 3) := by decide +kernel
theorem dM_wordEnd_13 : decode prog_14_method_31_code 13 = .ok (.aload_n 0, 1) := by decide +kernel
theorem dM_wordEnd_14 : decode prog_14_method_31_code 14 = .ok (.getfield 96, 3) := by decide +kernel
theorem dM_wordEnd_17 : decode prog_14_method_31_code 17 = .ok (.iload_n 1, 1) := by decide +kernel
theorem dM_wordEnd_18 : decode prog_14_method_31_code 18 = .ok (.baload, 1) := by decide +kernel
theorem dM_wordEnd_19 : decode prog_14_method_31_code 19 = .ok (.invokestatic 325, 3) := by decide +kernel
theorem dM_wordEnd_22 : decode prog_14_method_31_code 22 = .ok (.ifCond .eq 9, 3) := by decide +kernel
theorem dM_wordEnd_25 : decode prog_14_method_31_code 25 = .ok (.iinc 1 1, 3) := by decide +kernel
theorem dM_wordEnd_28 : decode prog_14_method_31_code 28 = .ok (.goto (-23), 3) := by decide +kernel
theorem dM_wordEnd_31 : decode prog_14_method_31_code 31 = .ok (.iload_n 1, 1) := by decide +kernel
theorem dM_wordEnd_32 : decode prog_14_method_31_code 32 = .ok (.ireturn, 1) := by decide +kernel
theorem dUA_add_0 : decode prog_2_method_2_code 0 = .ok (.aload_n 0, 1) := by decide +kernel
theorem dUA_add_1 : decode prog_2_method_2_code 1 = .ok (.getfield 21, 3) := by decide +kernel
theorem dUA_add_4 : decode prog_2_method_2_code 4 = .ok (.bipush 8, 2) := by decide +kernel
theorem dUA_add_6 : decode prog_2_method_2_code 6 = .ok (.if_icmp .lt 5, 3) := by decide +kernel
theorem dUA_add_9 : decode prog_2_method_2_code 9 = .ok (.iconst (-1), 1) := by decide +kernel
theorem dUA_add_10 : decode prog_2_method_2_code 10 = .ok (.ireturn, 1) := by decide +kernel
theorem dUA_add_11 : decode prog_2_method_2_code 11 = .ok (.aload_n 0, 1) := by decide +kernel
theorem dUA_add_12 : decode prog_2_method_2_code 12 = .ok (.getfield 11, 3) := by decide +kernel
theorem dUA_add_15 : decode prog_2_method_2_code 15 = .ok (.aload_n 0, 1) := by decide +kernel
theorem dUA_add_16 : decode prog_2_method_2_code 16 = .ok (.getfield 21, 3) := by decide +kernel
theorem dUA_add_19 : decode prog_2_method_2_code 19 = .ok (.iload_n 1, 1) := by decide +kernel
theorem dUA_add_20 : decode prog_2_method_2_code 20 = .ok (.iastore, 1) := by decide +kernel
theorem dUA_add_21 : decode prog_2_method_2_code 21 = .ok (.aload_n 0, 1) := by decide +kernel
theorem dUA_add_22 : decode prog_2_method_2_code 22 = .ok (.getfield 15, 3) := by decide +kernel
theorem dUA_add_25 : decode prog_2_method_2_code 25 = .ok (.aload_n 0, 1) := by decide +kernel
theorem dUA_add_26 : decode prog_2_method_2_code 26 = .ok (.getfield 21, 3) := by decide +kernel
theorem dUA_add_29 : decode prog_2_method_2_code 29 = .ok (.iload_n 2, 1) := by decide +kernel
theorem dUA_add_30 : decode prog_2_method_2_code 30 = .ok (.iastore, 1) := by decide +kernel
theorem dUA_add_31 : decode prog_2_method_2_code 31 = .ok (.aload_n 0, 1) := by decide +kernel
theorem dUA_add_32 : decode prog_2_method_2_code 32 = .ok (.getfield 18, 3) := by decide +kernel
theorem dUA_add_35 : decode prog_2_method_2_code 35 = .ok (.aload_n 0, 1) := by decide +kernel
theorem dUA_add_36 : decode prog_2_method_2_code 36 = .ok (.getfield 21, 3) := by decide +kernel
theorem dUA_add_39 : decode prog_2_method_2_code 39 = .ok (.iload_n 3, 1) := by decide +kernel
theorem dUA_add_40 : decode prog_2_method_2_code 40 = .ok (.iastore, 1) := by decide +kernel
theorem dUA_add_41 : decode prog_2_method_2_code 41 = .ok (.aload_n 0, 1) := by decide +kernel
theorem dUA_add_42 : decode prog_2_method_2_code 42 = .ok (.dup, 1) := by decide +kernel
theorem dUA_add_43 : decode prog_2_method_2_code 43 = .ok (.getfield 21, 3) := by decide +kernel
theorem dUA_add_46 : decode prog_2_method_2_code 46 = .ok (.iconst 1, 1) := by decide +kernel
theorem dUA_add_47 : decode prog_2_method_2_code 47 = .ok (.iadd, 1) := by decide +kernel
theorem dUA_add_48 : decode prog_2_method_2_code 48 = .ok (.putfield 21, 3) := by decide +kernel
theorem dUA_add_51 : decode prog_2_method_2_code 51 = .ok (.aload_n 0, 1) := by decide +kernel
theorem dUA_add_52 : decode prog_2_method_2_code 52 = .ok (.iconst 0, 1) := by decide +kernel
theorem dUA_add_53 : decode prog_2_method_2_code 53 = .ok (.putfield 25, 3) := by decide +kernel
theorem dUA_add_56 : decode prog_2_method_2_code 56 = .ok (.aload_n 0, 1) := by decide +kernel
theorem dUA_add_57 : decode prog_2_method_2_code 57 = .ok (.getfield 21, 3) := by decide +kernel
theorem dUA_add_60 : decode prog_2_method_2_code 60 = .ok (.ireturn, 1) := by decide +kernel
theorem dUA_agrees_0 : decode prog_2_method_5_code 0 = .ok (.iconst 0, 1) := by decide +kernel
theorem dUA_agrees_1 : decode prog_2_method_5_code 1 = .ok (.istore_n 3, 1) := by decide +kernel
theorem dUA_agrees_2 : decode prog_2_method_5_code 2 = .ok (.iload_n 3, 1) := by decide +kernel
theorem dUA_agrees_3 : decode prog_2_method_5_code 3 = .ok (.aload_n 0, 1) := by decide +kernel
theorem dUA_agrees_4 : decode prog_2_method_5_code 4 = .ok (.getfield 21, 3) := by decide +kernel
theorem dUA_agrees_7 : decode prog_2_method_5_code 7 = .ok (.if_icmp .ge 45, 3) := by decide +kernel
theorem dUA_agrees_10 : decode prog_2_method_5_code 10 = .ok (.aload_n 0, 1) := by decide +kernel
theorem dUA_agrees_11 : decode prog_2_method_5_code 11 = .ok (.getfield 15, 3) := by decide +kernel
theorem dUA_agrees_14 : decode prog_2_method_5_code 14 = .ok (.iload_n 3, 1) := by decide +kernel
theorem dUA_agrees_15 : decode prog_2_method_5_code 15 = .ok (.iaload, 1) := by decide +kernel
theorem dUA_agrees_16 : decode prog_2_method_5_code 16 = .ok (.iload_n 2, 1) := by decide +kernel
theorem dUA_agrees_17 : decode prog_2_method_5_code 17 = .ok (.if_icmp .ne 29, 3) := by decide +kernel
theorem dUA_agrees_20 : decode prog_2_method_5_code 20 = .ok (.aload_n 1, 1) := by decide +kernel
theorem dUA_agrees_21 : decode prog_2_method_5_code 21 = .ok (.getfield 90, 3) := by decide +kernel
theorem dUA_agrees_24 : decode prog_2_method_5_code 24 = .ok (.aload_n 0, 1) := by decide +kernel
theorem dUA_agrees_25 : decode prog_2_method_5_code 25 = .ok (.getfield 11, 3) := by decide +kernel
theorem dUA_agrees_28 : decode prog_2_method_5_code 28 = .ok (.iload_n 3, 1) := by decide +kernel
theorem dUA_agrees_29 : decode prog_2_method_5_code 29 = .ok (.iaload, 1) := by decide +kernel
theorem dUA_agrees_30 : decode prog_2_method_5_code 30 = .ok (.iload_n 2, 1) := by decide +kernel
theorem dUA_agrees_31 : decode prog_2_method_5_code 31 = .ok (.invokestatic 93, 3) := by decide +kernel
theorem dUA_agrees_34 : decode prog_2_method_5_code 34 = .ok (.iaload, 1) := by decide +kernel
theorem dUA_agrees_35 : decode prog_2_method_5_code 35 = .ok (.aload_n 0, 1) := by decide +kernel
theorem dUA_agrees_36 : decode prog_2_method_5_code 36 = .ok (.getfield 18, 3) := by decide +kernel
theorem dUA_agrees_39 : decode prog_2_method_5_code 39 = .ok (.iload_n 3, 1) := by decide +kernel
theorem dUA_agrees_40 : decode prog_2_method_5_code 40 = .ok (.iaload, 1) := by decide +kernel
theorem dUA_agrees_41 : decode prog_2_method_5_code 41 = .ok (.if_icmp .eq 5, 3) := by decide +kernel
theorem dUA_agrees_44 : decode prog_2_method_5_code 44 = .ok (.iconst 0, 1) := by decide +kernel
theorem dUA_agrees_45 : decode prog_2_method_5_code 45 = .ok (.ireturn, 1) := by decide +kernel
theorem dUA_agrees_46 : decode prog_2_method_5_code 46 = .ok (.iinc 3 1, 3) := by decide +kernel
theorem dUA_agrees_49 : decode prog_2_method_5_code 49 = .ok (.goto (-47), 3) := by decide +kernel
theorem dUA_agrees_52 : decode prog_2_method_5_code 52 = .ok (.iconst 1, 1) := by decide +kernel
theorem dUA_agrees_53 : decode prog_2_method_5_code 53 = .ok (.ireturn, 1) := by decide +kernel
theorem dUA_explains_0 : decode prog_2_method_4_code 0 = .ok (.iconst (-1), 1) := by decide +kernel
theorem dUA_explains_1 : decode prog_2_method_4_code 1 = .ok (.istore 4, 2) := by decide +kernel
theorem dUA_explains_3 : decode prog_2_method_4_code 3 = .ok (.iconst 0, 1) := by decide +kernel
theorem dUA_explains_4 : decode prog_2_method_4_code 4 = .ok (.istore 5, 2) := by decide +kernel
theorem dUA_explains_6 : decode prog_2_method_4_code 6 = .ok (.iload 5, 2) := by decide +kernel
theorem dUA_explains_8 : decode prog_2_method_4_code 8 = .ok (.aload_n 0, 1) := by decide +kernel
theorem dUA_explains_9 : decode prog_2_method_4_code 9 = .ok (.getfield 21, 3) := by decide +kernel
theorem dUA_explains_12 : decode prog_2_method_4_code 12 = .ok (.if_icmp .ge 23, 3) := by decide +kernel
theorem dUA_explains_15 : decode prog_2_method_4_code 15 = .ok (.iload 4, 2) := by decide +kernel
theorem dUA_explains_17 : decode prog_2_method_4_code 17 = .ok (.aload_n 0, 1) := by decide +kernel
theorem dUA_explains_18 : decode prog_2_method_4_code 18 = .ok (.getfield 15, 3) := by decide +kernel
theorem dUA_explains_21 : decode prog_2_method_4_code 21 = .ok (.iload 5, 2) := by decide +kernel
theorem dUA_explains_23 : decode prog_2_method_4_code 23 = .ok (.iaload, 1) := by decide +kernel
theorem dUA_explains_24 : decode prog_2_method_4_code 24 = .ok (.invokestatic 66, 3) := by decide +kernel
theorem dUA_explains_27 : decode prog_2_method_4_code 27 = .ok (.istore 4, 2) := by decide +kernel
theorem dUA_explains_29 : decode prog_2_method_4_code 29 = .ok (.iinc 5 1, 3) := by decide +kernel
theorem dUA_explains_32 : decode prog_2_method_4_code 32 = .ok (.goto (-26), 3) := by decide +kernel
theorem dUA_explains_35 : decode prog_2_method_4_code 35 = .ok (.aload_n 2, 1) := by decide +kernel
theorem dUA_explains_36 : decode prog_2_method_4_code 36 = .ok (.aload_n 1, 1) := by decide +kernel
theorem dUA_explains_37 : decode prog_2_method_4_code 37 = .ok (.invokevirtual 72, 3) := by decide +kernel
theorem dUA_explains_40 : decode prog_2_method_4_code 40 = .ok (.iconst 0, 1) := by decide +kernel
theorem dUA_explains_41 : decode prog_2_method_4_code 41 = .ok (.istore 5, 2) := by decide +kernel
theorem dUA_explains_43 : decode prog_2_method_4_code 43 = .ok (.iload 5, 2) := by decide +kernel
theorem dUA_explains_45 : decode prog_2_method_4_code 45 = .ok (.iload 4, 2) := by decide +kernel
theorem dUA_explains_47 : decode prog_2_method_4_code 47 = .ok (.if_icmp .gt 33, 3) := by decide +kernel
theorem dUA_explains_50 : decode prog_2_method_4_code 50 = .ok (.aload_n 2, 1) := by decide +kernel
theorem dUA_explains_51 : decode prog_2_method_4_code 51 = .ok (.aload_n 1, 1) := by decide +kernel
theorem dUA_explains_52 : decode prog_2_method_4_code 52 = .ok (.iload 5, 2) := by decide +kernel
theorem dUA_explains_54 : decode prog_2_method_4_code 54 = .ok (.aload_n 1, 1) := by decide +kernel
theorem dUA_explains_55 : decode prog_2_method_4_code 55 = .ok (.invokevirtual 78, 3) := by decide +kernel
theorem dUA_explains_58 : decode prog_2_method_4_code 58 = .ok (.iload_n 3, 1) := by decide +kernel
theorem dUA_explains_59 : decode prog_2_method_4_code 59 = .ok (.invokevirtual 82, 3) := by decide +kernel
theorem dUA_explains_62 : decode prog_2_method_4_code 62 = .ok (.aload_n 0, 1) := by decide +kernel
theorem dUA_explains_63 : decode prog_2_method_4_code 63 = .ok (.aload_n 2, 1) := by decide +kernel
theorem dUA_explains_64 : decode prog_2_method_4_code 64 = .ok (.iload 5, 2) := by decide +kernel
theorem dUA_explains_66 : decode prog_2_method_4_code 66 = .ok (.invokevirtual 86, 3) := by decide +kernel
theorem dUA_explains_69 : decode prog_2_method_4_code 69 = .ok (.ifCond .ne 5, 3) := by decide +kernel
theorem dUA_explains_72 : decode prog_2_method_4_code 72 = .ok (.iconst 0, 1) := by decide +kernel
theorem dUA_explains_73 : decode prog_2_method_4_code 73 = .ok (.ireturn, 1) := by decide +kernel
theorem dUA_explains_74 : decode prog_2_method_4_code 74 = .ok (.iinc 5 1, 3) := by decide +kernel
theorem dUA_explains_77 : decode prog_2_method_4_code 77 = .ok (.goto (-34), 3) := by decide +kernel
theorem dUA_explains_80 : decode prog_2_method_4_code 80 = .ok (.iconst 1, 1) := by decide +kernel
theorem dUA_explains_81 : decode prog_2_method_4_code 81 = .ok (.ireturn, 1) := by decide +kernel
theorem dUA_search_0 : decode prog_2_method_3_code 0 = .ok (.aload_n 0, 1) := by decide +kernel
theorem dUA_search_1 : decode prog_2_method_3_code 1 = .ok (.getfield 25, 3) := by decide +kernel
theorem dUA_search_4 : decode prog_2_method_3_code 4 = .ok (.ifCond .eq 15, 3) := by decide +kernel
theorem dUA_search_7 : decode prog_2_method_3_code 7 = .ok (.aload_n 0, 1) := by decide +kernel
theorem dUA_search_8 : decode prog_2_method_3_code 8 = .ok (.getfield 29, 3) := by decide +kernel
theorem dUA_search_11 : decode prog_2_method_3_code 11 = .ok (.aload_n 1, 1) := by decide +kernel
theorem dUA_search_12 : decode prog_2_method_3_code 12 = .ok (.getfield 32, 3) := by decide +kernel
theorem dUA_search_15 : decode prog_2_method_3_code 15 = .ok (.if_icmp .ne 4, 3) := by decide +kernel
theorem dUA_search_18 : decode prog_2_method_3_code 18 = .ok (.return_, 1) := by decide +kernel
theorem dUA_search_19 : decode prog_2_method_3_code 19 = .ok (.aload_n 0, 1) := by decide +kernel
theorem dUA_search_20 : decode prog_2_method_3_code 20 = .ok (.iconst (-1), 1) := by decide +kernel
theorem dUA_search_21 : decode prog_2_method_3_code 21 = .ok (.putfield 37, 3) := by decide +kernel
theorem dUA_search_24 : decode prog_2_method_3_code 24 = .ok (.aload_n 0, 1) := by decide +kernel
theorem dUA_search_25 : decode prog_2_method_3_code 25 = .ok (.iconst (-1), 1) := by decide +kernel
theorem dUA_search_26 : decode prog_2_method_3_code 26 = .ok (.putfield 40, 3) := by decide +kernel
theorem dUA_search_29 : decode prog_2_method_3_code 29 = .ok (.aload_n 1, 1) := by decide +kernel
theorem dUA_search_30 : decode prog_2_method_3_code 30 = .ok (.getfield 43, 3) := by decide +kernel
theorem dUA_search_33 : decode prog_2_method_3_code 33 = .ok (.getfield 47, 3) := by decide +kernel
theorem dUA_search_36 : decode prog_2_method_3_code 36 = .ok (.getfield 53, 3) := by decide +kernel
theorem dUA_search_39 : decode prog_2_method_3_code 39 = .ok (.istore_n 3, 1) := by decide +kernel
theorem dUA_search_40 : decode prog_2_method_3_code 40 = .ok (.iconst 0, 1) := by decide +kernel
theorem dUA_search_41 : decode prog_2_method_3_code 41 = .ok (.istore 4, 2) := by decide +kernel
theorem dUA_search_43 : decode prog_2_method_3_code 43 = .ok (.iload 4, 2) := by decide +kernel
theorem dUA_search_45 : decode prog_2_method_3_code 45 = .ok (.iload_n 3, 1) := by decide +kernel
theorem dUA_search_46 : decode prog_2_method_3_code 46 = .ok (.if_icmp .gt 86, 3) := by decide +kernel
theorem dUA_search_49 : decode prog_2_method_3_code 49 = .ok (.aload_n 0, 1) := by decide +kernel
theorem dUA_search_50 : decode prog_2_method_3_code 50 = .ok (.getfield 37, 3) := by decide +kernel
theorem dUA_search_53 : decode prog_2_method_3_code 53 = .ok (.iconst (-1), 1) := by decide +kernel
theorem dUA_search_54 : decode prog_2_method_3_code 54 = .ok (.if_icmp .ne 78, 3) := by decide +kernel
theorem dUA_search_57 : decode prog_2_method_3_code 57 = .ok (.iconst 0, 1) := by decide +kernel
theorem dUA_search_58 : decode prog_2_method_3_code 58 = .ok (.istore 5, 2) := by decide +kernel
theorem dUA_search_60 : decode prog_2_method_3_code 60 = .ok (.iload 5, 2) := by decide +kernel
theorem dUA_search_62 : decode prog_2_method_3_code 62 = .ok (.iconst 1, 1) := by decide +kernel
theorem dUA_search_63 : decode prog_2_method_3_code 63 = .ok (.iload_n 3, 1) := by decide +kernel
theorem dUA_search_64 : decode prog_2_method_3_code 64 = .ok (.ishl, 1) := by decide +kernel
theorem dUA_search_65 : decode prog_2_method_3_code 65 = .ok (.if_icmp .ge 61, 3) := by decide +kernel
theorem dUA_search_68 : decode prog_2_method_3_code 68 = .ok (.iload 5, 2) := by decide +kernel
theorem dUA_search_70 : decode prog_2_method_3_code 70 = .ok (.invokestatic 56, 3) := by decide +kernel
theorem dUA_search_73 : decode prog_2_method_3_code 73 = .ok (.iload 4, 2) := by decide +kernel
theorem dUA_search_75 : decode prog_2_method_3_code 75 = .ok (.if_icmp .ne 45, 3) := by decide +kernel
theorem dUA_search_78 : decode prog_2_method_3_code 78 = .ok (.aload_n 0, 1) := by decide +kernel
theorem dUA_search_79 : decode prog_2_method_3_code 79 = .ok (.aload_n 1, 1) := by decide +kernel
theorem dUA_search_80 : decode prog_2_method_3_code 80 = .ok (.aload_n 2, 1) := by decide +kernel
theorem dUA_search_81 : decode prog_2_method_3_code 81 = .ok (.iload 5, 2) := by decide +kernel
theorem dUA_search_83 : decode prog_2_method_3_code 83 = .ok (.invokevirtual 62, 3) := by decide +kernel
theorem dUA_search_86 : decode prog_2_method_3_code 86 = .ok (.ifCond .eq 34, 3) := by decide +kernel
theorem dUA_search_89 : decode prog_2_method_3_code 89 = .ok (.aload_n 0, 1) := by decide +kernel
theorem dUA_search_90 : decode prog_2_method_3_code 90 = .ok (.aload_n 0, 1) := by decide +kernel
theorem dUA_search_91 : decode prog_2_method_3_code 91 = .ok (.getfield 37, 3) := by decide +kernel
theorem dUA_search_94 : decode prog_2_method_3_code 94 = .ok (.iconst (-1), 1) := by decide +kernel
theorem dUA_search_95 : decode prog_2_method_3_code 95 = .ok (.if_icmp .ne 8, 3) := by decide +kernel
theorem dUA_search_98 : decode prog_2_method_3_code 98 = .ok (.iload 5, 2) := by decide +kernel
theorem dUA_search_100 : decode prog_2_method_3_code 100 = .ok (.goto 7, 3) := by decide +kernel
theorem dUA_search_103 : decode prog_2_method_3_code 103 = .ok (.aload_n 0, 1) := by decide +kernel
theorem dUA_search_104 : decode prog_2_method_3_code 104 = .ok (.getfield 37, 3) := by decide +kernel
theorem dUA_search_107 : decode prog_2_method_3_code 107 = .ok (.putfield 37, 3) := by decide +kernel
theorem dUA_search_110 : decode prog_2_method_3_code 110 = .ok (.aload_n 0, 1) := by decide +kernel
theorem dUA_search_111 : decode prog_2_method_3_code 111 = .ok (.dup, 1) := by decide +kernel
theorem dUA_search_112 : decode prog_2_method_3_code 112 = .ok (.getfield 40, 3) := by decide +kernel
theorem dUA_search_115 : decode prog_2_method_3_code 115 = .ok (.iconst 1, 1) := by decide +kernel
theorem dUA_search_116 : decode prog_2_method_3_code 116 = .ok (.iadd, 1) := by decide +kernel
theorem dUA_search_117 : decode prog_2_method_3_code 117 = .ok (.putfield 40, 3) := by decide +kernel
theorem dUA_search_120 : decode prog_2_method_3_code 120 = .ok (.iinc 5 1, 3) := by decide +kernel
theorem dUA_search_123 : decode prog_2_method_3_code 123 = .ok (.goto (-63), 3) := by decide +kernel
theorem dUA_search_126 : decode prog_2_method_3_code 126 = .ok (.iinc 4 1, 3) := by decide +kernel
theorem dUA_search_129 : decode prog_2_method_3_code 129 = .ok (.goto (-86), 3) := by decide +kernel
theorem dUA_search_132 : decode prog_2_method_3_code 132 = .ok (.aload_n 0, 1) := by decide +kernel
theorem dUA_search_133 : decode prog_2_method_3_code 133 = .ok (.iconst 1, 1) := by decide +kernel
theorem dUA_search_134 : decode prog_2_method_3_code 134 = .ok (.putfield 25, 3) := by decide +kernel
theorem dUA_search_137 : decode prog_2_method_3_code 137 = .ok (.aload_n 0, 1) := by decide +kernel
theorem dUA_search_138 : decode prog_2_method_3_code 138 = .ok (.aload_n 1, 1) := by decide +kernel
theorem dUA_search_139 : decode prog_2_method_3_code 139 = .ok (.getfield 32, 3) := by decide +kernel
theorem dUA_search_142 : decode prog_2_method_3_code 142 = .ok (.putfield 29, 3) := by decide +kernel
theorem dUA_search_145 : decode prog_2_method_3_code 145 = .ok (.return_, 1) := by decide +kernel
theorem dUB_add_0 : decode prog_3_method_2_code 0 = .ok (.aload_n 0, 1) := by decide +kernel
theorem dUB_add_1 : decode prog_3_method_2_code 1 = .ok (.getfield 18, 3) := by decide +kernel
theorem dUB_add_4 : decode prog_3_method_2_code 4 = .ok (.aload_n 0, 1) := by decide +kernel
theorem dUB_add_5 : decode prog_3_method_2_code 5 = .ok (.getfield 9, 3) := by decide +kernel
theorem dUB_add_8 : decode prog_3_method_2_code 8 = .ok (.arraylength, 1) := by decide +kernel
theorem dUB_add_9 : decode prog_3_method_2_code 9 = .ok (.if_icmp .lt 5, 3) := by decide +kernel
theorem dUB_add_12 : decode prog_3_method_2_code 12 = .ok (.iconst (-1), 1) := by decide +kernel
theorem dUB_add_13 : decode prog_3_method_2_code 13 = .ok (.ireturn, 1) := by decide +kernel
theorem dUB_add_14 : decode prog_3_method_2_code 14 = .ok (.aload_n 0, 1) := by decide +kernel
theorem dUB_add_15 : decode prog_3_method_2_code 15 = .ok (.getfield 18, 3) := by decide +kernel
theorem dUB_add_18 : decode prog_3_method_2_code 18 = .ok (.istore_n 2, 1) := by decide +kernel
theorem dUB_add_19 : decode prog_3_method_2_code 19 = .ok (.iload_n 2, 1) := by decide +kernel
theorem dUB_add_20 : decode prog_3_method_2_code 20 = .ok (.istore_n 3, 1) := by decide +kernel
theorem dUB_add_21 : decode prog_3_method_2_code 21 = .ok (.iload_n 3, 1) := by decide +kernel
theorem dUB_add_22 : decode prog_3_method_2_code 22 = .ok (.ifCond .le 40, 3) := by decide +kernel
theorem dUB_add_25 : decode prog_3_method_2_code 25 = .ok (.aload_n 0, 1) := by decide +kernel
theorem dUB_add_26 : decode prog_3_method_2_code 26 = .ok (.getfield 9, 3) := by decide +kernel
theorem dUB_add_29 : decode prog_3_method_2_code 29 = .ok (.aload_n 0, 1) := by decide +kernel
theorem dUB_add_30 : decode prog_3_method_2_code 30 = .ok (.getfield 15, 3) := by decide +kernel
theorem dUB_add_33 : decode prog_3_method_2_code 33 = .ok (.iload_n 3, 1) := by decide +kernel
theorem dUB_add_34 : decode prog_3_method_2_code 34 = .ok (.iconst 1, 1) := by decide +kernel
theorem dUB_add_35 : decode prog_3_method_2_code 35 = .ok (.isub, 1) := by decide +kernel
theorem dUB_add_36 : decode prog_3_method_2_code 36 = .ok (.iaload, 1) := by decide +kernel
theorem dUB_add_37 : decode prog_3_method_2_code 37 = .ok (.iaload, 1) := by decide +kernel
theorem dUB_add_38 : decode prog_3_method_2_code 38 = .ok (.iload_n 1, 1) := by decide +kernel
theorem dUB_add_39 : decode prog_3_method_2_code 39 = .ok (.if_icmp .le 23, 3) := by decide +kernel
theorem dUB_add_42 : decode prog_3_method_2_code 42 = .ok (.aload_n 0, 1) := by decide +kernel
theorem dUB_add_43 : decode prog_3_method_2_code 43 = .ok (.getfield 15, 3) := by decide +kernel
theorem dUB_add_46 : decode prog_3_method_2_code 46 = .ok (.iload_n 3, 1) := by decide +kernel
theorem dUB_add_47 : decode prog_3_method_2_code 47 = .ok (.aload_n 0, 1) := by decide +kernel
theorem dUB_add_48 : decode prog_3_method_2_code 48 = .ok (.getfield 15, 3) := by decide +kernel
theorem dUB_add_51 : decode prog_3_method_2_code 51 = .ok (.iload_n 3, 1) := by decide +kernel
theorem dUB_add_52 : decode prog_3_method_2_code 52 = .ok (.iconst 1, 1) := by decide +kernel
theorem dUB_add_53 : decode prog_3_method_2_code 53 = .ok (.isub, 1) := by decide +kernel
theorem dUB_add_54 : decode prog_3_method_2_code 54 = .ok (.iaload, 1) := by decide +kernel
theorem dUB_add_55 : decode prog_3_method_2_code 55 = .ok (.iastore, 1) := by decide +kernel
theorem dUB_add_56 : decode prog_3_method_2_code 56 = .ok (.iinc 3 (-1), 3) := by decide +kernel
theorem dUB_add_59 : decode prog_3_method_2_code 59 = .ok (.goto (-38), 3) := by decide +kernel
theorem dUB_add_62 : decode prog_3_method_2_code 62 = .ok (.aload_n 0, 1) := by decide +kernel
theorem dUB_add_63 : decode prog_3_method_2_code 63 = .ok (.getfield 15, 3) := by decide +kernel
theorem dUB_add_66 : decode prog_3_method_2_code 66 = .ok (.iload_n 3, 1) := by decide +kernel
theorem dUB_add_67 : decode prog_3_method_2_code 67 = .ok (.iload_n 2, 1) := by decide +kernel
theorem dUB_add_68 : decode prog_3_method_2_code 68 = .ok (.iastore, 1) := by decide +kernel
theorem dUB_add_69 : decode prog_3_method_2_code 69 = .ok (.aload_n 0, 1) := by decide +kernel
theorem dUB_add_70 : decode prog_3_method_2_code 70 = .ok (.getfield 9, 3) := by decide +kernel
theorem dUB_add_73 : decode prog_3_method_2_code 73 = .ok (.iload_n 2, 1) := by decide +kernel
theorem dUB_add_74 : decode prog_3_method_2_code 74 = .ok (.iload_n 1, 1) := by decide +kernel
theorem dUB_add_75 : decode prog_3_method_2_code 75 = .ok (.iastore, 1) := by decide +kernel
theorem dUB_add_76 : decode prog_3_method_2_code 76 = .ok (.aload_n 0, 1) := by decide +kernel
theorem dUB_add_77 : decode prog_3_method_2_code 77 = .ok (.iload_n 2, 1) := by decide +kernel
theorem dUB_add_78 : decode prog_3_method_2_code 78 = .ok (.iconst 1, 1) := by decide +kernel
theorem dUB_add_79 : decode prog_3_method_2_code 79 = .ok (.iadd, 1) := by decide +kernel
theorem dUB_add_80 : decode prog_3_method_2_code 80 = .ok (.putfield 18, 3) := by decide +kernel
theorem dUB_add_83 : decode prog_3_method_2_code 83 = .ok (.iload_n 2, 1) := by decide +kernel
theorem dUB_add_84 : decode prog_3_method_2_code 84 = .ok (.ireturn, 1) := by decide +kernel
theorem dUC_assetsOf_0 : decode prog_5_method_17_code 0 = .ok (.lload 4, 2) := by decide +kernel
theorem dUC_assetsOf_2 : decode prog_5_method_17_code 2 = .ok (.lstore 7, 2) := by decide +kernel
theorem dUC_assetsOf_4 : decode prog_5_method_17_code 4 = .ok (.iconst 0, 1) := by decide +kernel
theorem dUC_assetsOf_5 : decode prog_5_method_17_code 5 = .ok (.istore 9, 2) := by decide +kernel
theorem dUC_assetsOf_7 : decode prog_5_method_17_code 7 = .ok (.iload 9, 2) := by decide +kernel
theorem dUC_assetsOf_9 : decode prog_5_method_17_code 9 = .ok (.bipush 8, 2) := by decide +kernel
theorem dUC_assetsOf_11 : decode prog_5_method_17_code 11 = .ok (.if_icmp .ge 63, 3) := by decide +kernel
theorem dUC_assetsOf_14 : decode prog_5_method_17_code 14 = .ok (.aload_n 0, 1) := by decide +kernel
theorem dUC_assetsOf_15 : decode prog_5_method_17_code 15 = .ok (.getfield 25, 3) := by decide +kernel
theorem dUC_assetsOf_18 : decode prog_5_method_17_code 18 = .ok (.iload_n 2, 1) := by decide +kernel
theorem dUC_assetsOf_19 : decode prog_5_method_17_code 19 = .ok (.bipush 8, 2) := by decide +kernel
theorem dUC_assetsOf_21 : decode prog_5_method_17_code 21 = .ok (.imul, 1) := by decide +kernel
theorem dUC_assetsOf_22 : decode prog_5_method_17_code 22 = .ok (.iload 9, 2) := by decide +kernel
theorem dUC_assetsOf_24 : decode prog_5_method_17_code 24 = .ok (.iadd, 1) := by decide +kernel
theorem dUC_assetsOf_25 : decode prog_5_method_17_code 25 = .ok (.iaload, 1) := by decide +kernel
theorem dUC_assetsOf_26 : decode prog_5_method_17_code 26 = .ok (.istore 10, 2) := by decide +kernel
theorem dUC_assetsOf_28 : decode prog_5_method_17_code 28 = .ok (.iload 10, 2) := by decide +kernel
theorem dUC_assetsOf_30 : decode prog_5_method_17_code 30 = .ok (.ifCond .eq 38, 3) := by decide +kernel
theorem dUC_assetsOf_33 : decode prog_5_method_17_code 33 = .ok (.lload 7, 2) := by decide +kernel
theorem dUC_assetsOf_35 : decode prog_5_method_17_code 35 = .ok (.iload 10, 2) := by decide +kernel
theorem dUC_assetsOf_37 : decode prog_5_method_17_code 37 = .ok (.i2l, 1) := by decide +kernel
theorem dUC_assetsOf_38 : decode prog_5_method_17_code 38 = .ok (.aload_n 0, 1) := by decide +kernel
theorem dUC_assetsOf_39 : decode prog_5_method_17_code 39 = .ok (.getfield 34, 3) := by decide +kernel
theorem dUC_assetsOf_42 : decode prog_5_method_17_code 42 = .ok (.iload 9, 2) := by decide +kernel
theorem dUC_assetsOf_44 : decode prog_5_method_17_code 44 = .ok (.iaload, 1) := by decide +kernel
theorem dUC_assetsOf_45 : decode prog_5_method_17_code 45 = .ok (.i2l, 1) := by decide +kernel
theorem dUC_assetsOf_46 : decode prog_5_method_17_code 46 = .ok (.lmul, 1) := by decide +kernel
theorem dUC_assetsOf_47 : decode prog_5_method_17_code 47 = .ok (.aload_n 0, 1) := by decide +kernel
theorem dUC_assetsOf_48 : decode prog_5_method_17_code 48 = .ok (.getfield 37, 3) := by decide +kernel
theorem dUC_assetsOf_51 : decode prog_5_method_17_code 51 = .ok (.aload_n 1, 1) := by decide +kernel
theorem dUC_assetsOf_52 : decode prog_5_method_17_code 52 = .ok (.getfield 240, 3) := by decide +kernel
theorem dUC_assetsOf_55 : decode prog_5_method_17_code 55 = .ok (.iload 9, 2) := by decide +kernel
theorem dUC_assetsOf_57 : decode prog_5_method_17_code 57 = .ok (.iaload, 1) := by decide +kernel
theorem dUC_assetsOf_58 : decode prog_5_method_17_code 58 = .ok (.iaload, 1) := by decide +kernel
theorem dUC_assetsOf_59 : decode prog_5_method_17_code 59 = .ok (.i2l, 1) := by decide +kernel
theorem dUC_assetsOf_60 : decode prog_5_method_17_code 60 = .ok (.lmul, 1) := by decide +kernel
theorem dUC_assetsOf_61 : decode prog_5_method_17_code 61 = .ok (.ldc2_w 234, 3) := by decide +kernel
theorem dUC_assetsOf_64 : decode prog_5_method_17_code 64 = .ok (.ldiv, 1) := by decide +kernel
theorem dUC_assetsOf_65 : decode prog_5_method_17_code 65 = .ok (.ladd, 1) := by decide +kernel
theorem dUC_assetsOf_66 : decode prog_5_method_17_code 66 = .ok (.lstore 7, 2) := by decide +kernel
theorem dUC_assetsOf_68 : decode prog_5_method_17_code 68 = .ok (.iinc 9 1, 3) := by decide +kernel
theorem dUC_assetsOf_71 : decode prog_5_method_17_code 71 = .ok (.goto (-64), 3) := by decide +kernel
theorem dUC_assetsOf_74 : decode prog_5_method_17_code 74 = .ok (.iconst 0, 1) := by decide +kernel
theorem dUC_assetsOf_75 : decode prog_5_method_17_code 75 = .ok (.istore 9, 2) := by decide +kernel
theorem dUC_assetsOf_77 : decode prog_5_method_17_code 77 = .ok (.iload 9, 2) := by decide +kernel
theorem dUC_assetsOf_79 : decode prog_5_method_17_code 79 = .ok (.iload_n 2, 1) := by decide +kernel
theorem dUC_assetsOf_80 : decode prog_5_method_17_code 80 = .ok (.if_icmp .ge 41, 3) := by decide +kernel
theorem dUC_assetsOf_83 : decode prog_5_method_17_code 83 = .ok (.lload 7, 2) := by decide +kernel
theorem dUC_assetsOf_85 : decode prog_5_method_17_code 85 = .ok (.aload_n 0, 1) := by decide +kernel
theorem dUC_assetsOf_86 : decode prog_5_method_17_code 86 = .ok (.getfield 28, 3) := by decide +kernel
theorem dUC_assetsOf_89 : decode prog_5_method_17_code 89 = .ok (.iload_n 2, 1) := by decide +kernel
theorem dUC_assetsOf_90 : decode prog_5_method_17_code 90 = .ok (.iconst 4, 1) := by decide +kernel
theorem dUC_assetsOf_91 : decode prog_5_method_17_code 91 = .ok (.imul, 1) := by decide +kernel
theorem dUC_assetsOf_92 : decode prog_5_method_17_code 92 = .ok (.iload 9, 2) := by decide +kernel
theorem dUC_assetsOf_94 : decode prog_5_method_17_code 94 = .ok (.iadd, 1) := by decide +kernel
theorem dUC_assetsOf_95 : decode prog_5_method_17_code 95 = .ok (.iaload, 1) := by decide +kernel
theorem dUC_assetsOf_96 : decode prog_5_method_17_code 96 = .ok (.i2l, 1) := by decide +kernel
theorem dUC_assetsOf_97 : decode prog_5_method_17_code 97 = .ok (.aload 6, 2) := by decide +kernel
theorem dUC_assetsOf_99 : decode prog_5_method_17_code 99 = .ok (.iload 9, 2) := by decide +kernel
theorem dUC_assetsOf_101 : decode prog_5_method_17_code 101 = .ok (.iload_n 3, 1) := by decide +kernel
theorem dUC_assetsOf_102 : decode prog_5_method_17_code 102 = .ok (.invokestatic 101, 3) := by decide +kernel
theorem dUC_assetsOf_105 : decode prog_5_method_17_code 105 = .ok (.iaload, 1) := by decide +kernel
theorem dUC_assetsOf_106 : decode prog_5_method_17_code 106 = .ok (.i2l, 1) := by decide +kernel
theorem dUC_assetsOf_107 : decode prog_5_method_17_code 107 = .ok (.lmul, 1) := by decide +kernel
theorem dUC_assetsOf_108 : decode prog_5_method_17_code 108 = .ok (.ldc2_w 271, 3) := by decide +kernel
theorem dUC_assetsOf_111 : decode prog_5_method_17_code 111 = .ok (.ldiv, 1) := by decide +kernel
theorem dUC_assetsOf_112 : decode prog_5_method_17_code 112 = .ok (.ladd, 1) := by decide +kernel
theorem dUC_assetsOf_113 : decode prog_5_method_17_code 113 = .ok (.lstore 7, 2) := by decide +kernel
theorem dUC_assetsOf_115 : decode prog_5_method_17_code 115 = .ok (.iinc 9 1, 3) := by decide +kernel
theorem dUC_assetsOf_118 : decode prog_5_method_17_code 118 = .ok (.goto (-41), 3) := by decide +kernel
theorem dUC_assetsOf_121 : decode prog_5_method_17_code 121 = .ok (.lload 7, 2) := by decide +kernel
theorem dUC_assetsOf_123 : decode prog_5_method_17_code 123 = .ok (.lreturn, 1) := by decide +kernel
theorem dUC_bookUntil_0 : decode prog_5_method_5_code 0 = .ok (.aload_n 0, 1) := by decide +kernel
theorem dUC_bookUntil_1 : decode prog_5_method_5_code 1 = .ok (.aload_n 1, 1) := by decide +kernel
theorem dUC_bookUntil_2 : decode prog_5_method_5_code 2 = .ok (.aload_n 1, 1) := by decide +kernel
theorem dUC_bookUntil_3 : decode prog_5_method_5_code 3 = .ok (.getfield 84, 3) := by decide +kernel
theorem dUC_bookUntil_6 : decode prog_5_method_5_code 6 = .ok (.invokevirtual 87, 3) := by decide +kernel
theorem dUC_bookUntil_9 : decode prog_5_method_5_code 9 = .ok (.aload_n 1, 1) := by decide +kernel
theorem dUC_bookUntil_10 : decode prog_5_method_5_code 10 = .ok (.getfield 84, 3) := by decide +kernel
theorem dUC_bookUntil_13 : decode prog_5_method_5_code 13 = .ok (.istore_n 3, 1) := by decide +kernel
theorem dUC_bookUntil_14 : decode prog_5_method_5_code 14 = .ok (.iload_n 3, 1) := by decide +kernel
theorem dUC_bookUntil_15 : decode prog_5_method_5_code 15 = .ok (.iload_n 2, 1) := by decide +kernel
theorem dUC_bookUntil_16 : decode prog_5_method_5_code 16 = .ok (.if_icmp .ge 132, 3) := by decide +kernel
theorem dUC_bookUntil_19 : decode prog_5_method_5_code 19 = .ok (.aload_n 0, 1) := by decide +kernel
theorem dUC_bookUntil_20 : decode prog_5_method_5_code 20 = .ok (.aload_n 1, 1) := by decide +kernel
theorem dUC_bookUntil_21 : decode prog_5_method_5_code 21 = .ok (.iload_n 3, 1) := by decide +kernel
theorem dUC_bookUntil_22 : decode prog_5_method_5_code 22 = .ok (.iload_n 3, 1) := by decide +kernel
theorem dUC_bookUntil_23 : decode prog_5_method_5_code 23 = .ok (.iconst 0, 1) := by decide +kernel
theorem dUC_bookUntil_24 : decode prog_5_method_5_code 24 = .ok (.invokevirtual 91, 3) := by decide +kernel
theorem dUC_bookUntil_27 : decode prog_5_method_5_code 27 = .ok (.iconst 0, 1) := by decide +kernel
theorem dUC_bookUntil_28 : decode prog_5_method_5_code 28 = .ok (.istore 4, 2) := by decide +kernel
theorem dUC_bookUntil_30 : decode prog_5_method_5_code 30 = .ok (.iload 4, 2) := by decide +kernel
theorem dUC_bookUntil_32 : decode prog_5_method_5_code 32 = .ok (.aload_n 1, 1) := by decide +kernel
theorem dUC_bookUntil_33 : decode prog_5_method_5_code 33 = .ok (.getfield 94, 3) := by decide +kernel
theorem dUC_bookUntil_36 : decode prog_5_method_5_code 36 = .ok (.if_icmp .ge 106, 3) := by decide +kernel
theorem dUC_bookUntil_39 : decode prog_5_method_5_code 39 = .ok (.aload_n 1, 1) := by decide +kernel
theorem dUC_bookUntil_40 : decode prog_5_method_5_code 40 = .ok (.iload_n 3, 1) := by decide +kernel
theorem dUC_bookUntil_41 : decode prog_5_method_5_code 41 = .ok (.invokevirtual 97, 3) := by decide +kernel
theorem dUC_bookUntil_44 : decode prog_5_method_5_code 44 = .ok (.ifCond .eq 98, 3) := by decide +kernel
theorem dUC_bookUntil_47 : decode prog_5_method_5_code 47 = .ok (.iload 4, 2) := by decide +kernel
theorem dUC_bookUntil_49 : decode prog_5_method_5_code 49 = .ok (.iload_n 3, 1) := by decide +kernel
theorem dUC_bookUntil_50 : decode prog_5_method_5_code 50 = .ok (.invokestatic 101, 3) := by decide +kernel
theorem dUC_bookUntil_53 : decode prog_5_method_5_code 53 = .ok (.istore 5, 2) := by decide +kernel
theorem dUC_bookUntil_55 : decode prog_5_method_5_code 55 = .ok (.aload_n 0, 1) := by decide +kernel
theorem dUC_bookUntil_56 : decode prog_5_method_5_code 56 = .ok (.aload_n 1, 1) := by decide +kernel
theorem dUC_bookUntil_57 : decode prog_5_method_5_code 57 = .ok (.getfield 105, 3) := by decide +kernel
theorem dUC_bookUntil_60 : decode prog_5_method_5_code 60 = .ok (.iload 4, 2) := by decide +kernel
theorem dUC_bookUntil_62 : decode prog_5_method_5_code 62 = .ok (.invokevirtual 109, 3) := by decide +kernel
theorem dUC_bookUntil_65 : decode prog_5_method_5_code 65 = .ok (.aload_n 0, 1) := by decide +kernel
theorem dUC_bookUntil_66 : decode prog_5_method_5_code 66 = .ok (.aload_n 1, 1) := by decide +kernel
theorem dUC_bookUntil_67 : decode prog_5_method_5_code 67 = .ok (.iload 4, 2) := by decide +kernel
theorem dUC_bookUntil_69 : decode prog_5_method_5_code 69 = .ok (.iload_n 3, 1) := by decide +kernel
theorem dUC_bookUntil_70 : decode prog_5_method_5_code 70 = .ok (.aload_n 0, 1) := by decide +kernel
theorem dUC_bookUntil_71 : decode prog_5_method_5_code 71 = .ok (.getfield 9, 3) := by decide +kernel
theorem dUC_bookUntil_74 : decode prog_5_method_5_code 74 = .ok (.aload_n 1, 1) := by decide +kernel
theorem dUC_bookUntil_75 : decode prog_5_method_5_code 75 = .ok (.getfield 50, 3) := by decide +kernel
theorem dUC_bookUntil_78 : decode prog_5_method_5_code 78 = .ok (.aload_n 1, 1) := by decide +kernel
theorem dUC_bookUntil_79 : decode prog_5_method_5_code 79 = .ok (.getfield 113, 3) := by decide +kernel
theorem dUC_bookUntil_82 : decode prog_5_method_5_code 82 = .ok (.invokevirtual 116, 3) := by decide +kernel
theorem dUC_bookUntil_85 : decode prog_5_method_5_code 85 = .ok (.aload_n 0, 1) := by decide +kernel
theorem dUC_bookUntil_86 : decode prog_5_method_5_code 86 = .ok (.aload_n 1, 1) := by decide +kernel
theorem dUC_bookUntil_87 : decode prog_5_method_5_code 87 = .ok (.getfield 105, 3) := by decide +kernel
theorem dUC_bookUntil_90 : decode prog_5_method_5_code 90 = .ok (.iload 4, 2) := by decide +kernel
theorem dUC_bookUntil_92 : decode prog_5_method_5_code 92 = .ok (.aload_n 1, 1) := by decide +kernel
theorem dUC_bookUntil_93 : decode prog_5_method_5_code 93 = .ok (.getfield 50, 3) := by decide +kernel
theorem dUC_bookUntil_96 : decode prog_5_method_5_code 96 = .ok (.iload 5, 2) := by decide +kernel
theorem dUC_bookUntil_98 : decode prog_5_method_5_code 98 = .ok (.iaload, 1) := by decide +kernel
theorem dUC_bookUntil_99 : decode prog_5_method_5_code 99 = .ok (.aload_n 1, 1) := by decide +kernel
theorem dUC_bookUntil_100 : decode prog_5_method_5_code 100 = .ok (.getfield 105, 3) := by decide +kernel
theorem dUC_bookUntil_103 : decode prog_5_method_5_code 103 = .ok (.getfield 120, 3) := by decide +kernel
theorem dUC_bookUntil_106 : decode prog_5_method_5_code 106 = .ok (.invokevirtual 125, 3) := by decide +kernel
theorem dUC_bookUntil_109 : decode prog_5_method_5_code 109 = .ok (.aload_n 0, 1) := by decide +kernel
theorem dUC_bookUntil_110 : decode prog_5_method_5_code 110 = .ok (.getfield 9, 3) := by decide +kernel
theorem dUC_bookUntil_113 : decode prog_5_method_5_code 113 = .ok (.iload 4, 2) := by decide +kernel
theorem dUC_bookUntil_115 : decode prog_5_method_5_code 115 = .ok (.dup2, 1) := by decide +kernel
theorem dUC_bookUntil_116 : decode prog_5_method_5_code 116 = .ok (.laload, 1) := by decide +kernel
theorem dUC_bookUntil_117 : decode prog_5_method_5_code 117 = .ok (.aload_n 1, 1) := by decide +kernel
theorem dUC_bookUntil_118 : decode prog_5_method_5_code 118 = .ok (.getfield 113, 3) := by decide +kernel
theorem dUC_bookUntil_121 : decode prog_5_method_5_code 121 = .ok (.iload 5, 2) := by decide +kernel
theorem dUC_bookUntil_123 : decode prog_5_method_5_code 123 = .ok (.laload, 1) := by decide +kernel
theorem dUC_bookUntil_124 : decode prog_5_method_5_code 124 = .ok (.lsub, 1) := by decide +kernel
theorem dUC_bookUntil_125 : decode prog_5_method_5_code 125 = .ok (.lastore, 1) := by decide +kernel
theorem dUC_bookUntil_126 : decode prog_5_method_5_code 126 = .ok (.aload_n 0, 1) := by decide +kernel
theorem dUC_bookUntil_127 : decode prog_5_method_5_code 127 = .ok (.aload_n 1, 1) := by decide +kernel
theorem dUC_bookUntil_128 : decode prog_5_method_5_code 128 = .ok (.getfield 105, 3) := by decide +kernel
theorem dUC_bookUntil_131 : decode prog_5_method_5_code 131 = .ok (.iload 4, 2) := by decide +kernel
theorem dUC_bookUntil_133 : decode prog_5_method_5_code 133 = .ok (.invokevirtual 129, 3) := by decide +kernel
theorem dUC_bookUntil_136 : decode prog_5_method_5_code 136 = .ok (.iinc 4 1, 3) := by decide +kernel
theorem dUC_bookUntil_139 : decode prog_5_method_5_code 139 = .ok (.goto (-109), 3) := by decide +kernel
theorem dUC_bookUntil_142 : decode prog_5_method_5_code 142 = .ok (.iinc 3 1, 3) := by decide +kernel
theorem dUC_bookUntil_145 : decode prog_5_method_5_code 145 = .ok (.goto (-131), 3) := by decide +kernel
theorem dUC_bookUntil_148 : decode prog_5_method_5_code 148 = .ok (.aload_n 1, 1) := by decide +kernel
theorem dUC_bookUntil_149 : decode prog_5_method_5_code 149 = .ok (.iload_n 2, 1) := by decide +kernel
theorem dUC_bookUntil_150 : decode prog_5_method_5_code 150 = .ok (.putfield 84, 3) := by decide +kernel
theorem dUC_bookUntil_153 : decode prog_5_method_5_code 153 = .ok (.aload_n 1, 1) := by decide +kernel
theorem dUC_bookUntil_154 : decode prog_5_method_5_code 154 = .ok (.dup, 1) := by decide +kernel
theorem dUC_bookUntil_155 : decode prog_5_method_5_code 155 = .ok (.getfield 70, 3) := by decide +kernel
theorem dUC_bookUntil_158 : decode prog_5_method_5_code 158 = .ok (.iconst 1, 1) := by decide +kernel
theorem dUC_bookUntil_159 : decode prog_5_method_5_code 159 = .ok (.iadd, 1) := by decide +kernel
theorem dUC_bookUntil_160 : decode prog_5_method_5_code 160 = .ok (.putfield 70, 3) := by decide +kernel
theorem dUC_bookUntil_163 : decode prog_5_method_5_code 163 = .ok (.return_, 1) := by decide +kernel
theorem dUC_bounded_0 : decode prog_5_method_15_code 0 = .ok (.ldc2_w 257, 3) := by decide +kernel
theorem dUC_bounded_3 : decode prog_5_method_15_code 3 = .ok (.ldc2_w 259, 3) := by decide +kernel
theorem dUC_bounded_6 : decode prog_5_method_15_code 6 = .ok (.lload_n 0, 1) := by decide +kernel
theorem dUC_bounded_7 : decode prog_5_method_15_code 7 = .ok (.invokestatic 261, 3) := by decide +kernel
theorem dUC_bounded_10 : decode prog_5_method_15_code 10 = .ok (.invokestatic 265, 3) := by decide +kernel
theorem dUC_bounded_13 : decode prog_5_method_15_code 13 = .ok (.l2i, 1) := by decide +kernel
theorem dUC_bounded_14 : decode prog_5_method_15_code 14 = .ok (.ireturn, 1) := by decide +kernel
theorem dUC_countCoins_0 : decode prog_5_method_21_code 0 = .ok (.aload_n 0, 1) := by decide +kernel
theorem dUC_countCoins_1 : decode prog_5_method_21_code 1 = .ok (.getfield 268, 3) := by decide +kernel
theorem dUC_countCoins_4 : decode prog_5_method_21_code 4 = .ok (.istore 5, 2) := by decide +kernel
theorem dUC_countCoins_6 : decode prog_5_method_21_code 6 = .ok (.iload 5, 2) := by decide +kernel
theorem dUC_countCoins_8 : decode prog_5_method_21_code 8 = .ok (.aload_n 0, 1) := by decide +kernel
theorem dUC_countCoins_9 : decode prog_5_method_21_code 9 = .ok (.getfield 160, 3) := by decide +kernel
theorem dUC_countCoins_12 : decode prog_5_method_21_code 12 = .ok (.if_icmp .ge 48, 3) := by decide +kernel
theorem dUC_countCoins_15 : decode prog_5_method_21_code 15 = .ok (.aload_n 1, 1) := by decide +kernel
theorem dUC_countCoins_16 : decode prog_5_method_21_code 16 = .ok (.getfield 193, 3) := by decide +kernel
theorem dUC_countCoins_19 : decode prog_5_method_21_code 19 = .ok (.getfield 215, 3) := by decide +kernel
theorem dUC_countCoins_22 : decode prog_5_method_21_code 22 = .ok (.iload 5, 2) := by decide +kernel
theorem dUC_countCoins_24 : decode prog_5_method_21_code 24 = .ok (.iaload, 1) := by decide +kernel
theorem dUC_countCoins_25 : decode prog_5_method_21_code 25 = .ok (.istore 6, 2) := by decide +kernel
theorem dUC_countCoins_27 : decode prog_5_method_21_code 27 = .ok (.aload_n 1, 1) := by decide +kernel
theorem dUC_countCoins_28 : decode prog_5_method_21_code 28 = .ok (.getfield 295, 3) := by decide +kernel
theorem dUC_countCoins_31 : decode prog_5_method_21_code 31 = .ok (.iload 6, 2) := by decide +kernel
theorem dUC_countCoins_33 : decode prog_5_method_21_code 33 = .ok (.iaload, 1) := by decide +kernel
theorem dUC_countCoins_34 : decode prog_5_method_21_code 34 = .ok (.iload_n 2, 1) := by decide +kernel
theorem dUC_countCoins_35 : decode prog_5_method_21_code 35 = .ok (.if_icmp .ne 19, 3) := by decide +kernel
theorem dUC_countCoins_38 : decode prog_5_method_21_code 38 = .ok (.aload 4, 2) := by decide +kernel
theorem dUC_countCoins_40 : decode prog_5_method_21_code 40 = .ok (.iload 6, 2) := by decide +kernel
theorem dUC_countCoins_42 : decode prog_5_method_21_code 42 = .ok (.aload_n 1, 1) := by decide +kernel
theorem dUC_countCoins_43 : decode prog_5_method_21_code 43 = .ok (.getfield 296, 3) := by decide +kernel
theorem dUC_countCoins_46 : decode prog_5_method_21_code 46 = .ok (.iload 6, 2) := by decide +kernel
theorem dUC_countCoins_48 : decode prog_5_method_21_code 48 = .ok (.iaload, 1) := by decide +kernel
theorem dUC_countCoins_49 : decode prog_5_method_21_code 49 = .ok (.iload_n 3, 1) := by decide +kernel
theorem dUC_countCoins_50 : decode prog_5_method_21_code 50 = .ok (.invokestatic 301, 3) := by decide +kernel
theorem dUC_countCoins_53 : decode prog_5_method_21_code 53 = .ok (.lastore, 1) := by decide +kernel
theorem dUC_countCoins_54 : decode prog_5_method_21_code 54 = .ok (.iinc 5 1, 3) := by decide +kernel
theorem dUC_countCoins_57 : decode prog_5_method_21_code 57 = .ok (.goto (-51), 3) := by decide +kernel
theorem dUC_countCoins_60 : decode prog_5_method_21_code 60 = .ok (.return_, 1) := by decide +kernel
theorem dUC_errorCounts_0 : decode prog_5_method_3_code 0 = .ok (.ldc2_w 55, 3) := by decide +kernel
theorem dUC_errorCounts_3 : decode prog_5_method_3_code 3 = .ok (.aload_n 0, 1) := by decide +kernel
theorem dUC_errorCounts_4 : decode prog_5_method_3_code 4 = .ok (.aload_n 1, 1) := by decide +kernel
theorem dUC_errorCounts_5 : decode prog_5_method_3_code 5 = .ok (.iload_n 2, 1) := by decide +kernel
theorem dUC_errorCounts_6 : decode prog_5_method_3_code 6 = .ok (.invokevirtual 57, 3) := by decide +kernel
theorem dUC_errorCounts_9 : decode prog_5_method_3_code 9 = .ok (.invokestatic 61, 3) := by decide +kernel
theorem dUC_errorCounts_12 : decode prog_5_method_3_code 12 = .ok (.i2l, 1) := by decide +kernel
theorem dUC_errorCounts_13 : decode prog_5_method_3_code 13 = .ok (.lmul, 1) := by decide +kernel
theorem dUC_errorCounts_14 : decode prog_5_method_3_code 14 = .ok (.iload_n 3, 1) := by decide +kernel
theorem dUC_errorCounts_15 : decode prog_5_method_3_code 15 = .ok (.i2l, 1) := by decide +kernel
theorem dUC_errorCounts_16 : decode prog_5_method_3_code 16 = .ok (.aload_n 0, 1) := by decide +kernel
theorem dUC_errorCounts_17 : decode prog_5_method_3_code 17 = .ok (.getfield 18, 3) := by decide +kernel
theorem dUC_errorCounts_20 : decode prog_5_method_3_code 20 = .ok (.iload_n 2, 1) := by decide +kernel
theorem dUC_errorCounts_21 : decode prog_5_method_3_code 21 = .ok (.iaload, 1) := by decide +kernel
theorem dUC_errorCounts_22 : decode prog_5_method_3_code 22 = .ok (.i2l, 1) := by decide +kernel
theorem dUC_errorCounts_23 : decode prog_5_method_3_code 23 = .ok (.lmul, 1) := by decide +kernel
theorem dUC_errorCounts_24 : decode prog_5_method_3_code 24 = .ok (.lcmp, 1) := by decide +kernel
theorem dUC_errorCounts_25 : decode prog_5_method_3_code 25 = .ok (.ifCond .le 7, 3) := by decide +kernel
theorem dUC_errorCounts_28 : decode prog_5_method_3_code 28 = .ok (.iconst 1, 1) := by decide +kernel
theorem dUC_errorCounts_29 : decode prog_5_method_3_code 29 = .ok (.goto 4, 3) := by decide +kernel
theorem dUC_errorCounts_32 : decode prog_5_method_3_code 32 = .ok (.iconst 0, 1) := by decide +kernel
theorem dUC_errorCounts_33 : decode prog_5_method_3_code 33 = .ok (.ireturn, 1) := by decide +kernel
theorem dUC_errorOn_0 : decode prog_5_method_2_code 0 = .ok (.aload_n 1, 1) := by decide +kernel
theorem dUC_errorOn_1 : decode prog_5_method_2_code 1 = .ok (.getfield 50, 3) := by decide +kernel
theorem dUC_errorOn_4 : decode prog_5_method_2_code 4 = .ok (.iload_n 2, 1) := by decide +kernel
theorem dUC_errorOn_5 : decode prog_5_method_2_code 5 = .ok (.iaload, 1) := by decide +kernel
theorem dUC_errorOn_6 : decode prog_5_method_2_code 6 = .ok (.aload_n 0, 1) := by decide +kernel
theorem dUC_errorOn_7 : decode prog_5_method_2_code 7 = .ok (.getfield 18, 3) := by decide +kernel
theorem dUC_errorOn_10 : decode prog_5_method_2_code 10 = .ok (.iload_n 2, 1) := by decide +kernel
theorem dUC_errorOn_11 : decode prog_5_method_2_code 11 = .ok (.iaload, 1) := by decide +kernel
theorem dUC_errorOn_12 : decode prog_5_method_2_code 12 = .ok (.isub, 1) := by decide +kernel
theorem dUC_errorOn_13 : decode prog_5_method_2_code 13 = .ok (.ireturn, 1) := by decide +kernel
theorem dUC_fillDeals_0 : decode prog_5_method_20_code 0 = .ok (.aload_n 0, 1) := by decide +kernel
theorem dUC_fillDeals_1 : decode prog_5_method_20_code 1 = .ok (.getfield 268, 3) := by decide +kernel
theorem dUC_fillDeals_4 : decode prog_5_method_20_code 4 = .ok (.istore_n 3, 1) := by decide +kernel
theorem dUC_fillDeals_5 : decode prog_5_method_20_code 5 = .ok (.iload_n 3, 1) := by decide +kernel
theorem dUC_fillDeals_6 : decode prog_5_method_20_code 6 = .ok (.aload_n 0, 1) := by decide +kernel
theorem dUC_fillDeals_7 : decode prog_5_method_20_code 7 = .ok (.getfield 160, 3) := by decide +kernel
theorem dUC_fillDeals_10 : decode prog_5_method_20_code 10 = .ok (.if_icmp .ge 37, 3) := by decide +kernel
theorem dUC_fillDeals_13 : decode prog_5_method_20_code 13 = .ok (.aload_n 1, 1) := by decide +kernel
theorem dUC_fillDeals_14 : decode prog_5_method_20_code 14 = .ok (.getfield 193, 3) := by decide +kernel
theorem dUC_fillDeals_17 : decode prog_5_method_20_code 17 = .ok (.getfield 215, 3) := by decide +kernel
theorem dUC_fillDeals_20 : decode prog_5_method_20_code 20 = .ok (.iload_n 3, 1) := by decide +kernel
theorem dUC_fillDeals_21 : decode prog_5_method_20_code 21 = .ok (.iaload, 1) := by decide +kernel
theorem dUC_fillDeals_22 : decode prog_5_method_20_code 22 = .ok (.istore 4, 2) := by decide +kernel
theorem dUC_fillDeals_24 : decode prog_5_method_20_code 24 = .ok (.aload_n 1, 1) := by decide +kernel
theorem dUC_fillDeals_25 : decode prog_5_method_20_code 25 = .ok (.getfield 295, 3) := by decide +kernel
theorem dUC_fillDeals_28 : decode prog_5_method_20_code 28 = .ok (.iload 4, 2) := by decide +kernel
theorem dUC_fillDeals_30 : decode prog_5_method_20_code 30 = .ok (.iaload, 1) := by decide +kernel
theorem dUC_fillDeals_31 : decode prog_5_method_20_code 31 = .ok (.iload_n 2, 1) := by decide +kernel
theorem dUC_fillDeals_32 : decode prog_5_method_20_code 32 = .ok (.if_icmp .ne 9, 3) := by decide +kernel
theorem dUC_fillDeals_35 : decode prog_5_method_20_code 35 = .ok (.aload_n 1, 1) := by decide +kernel
theorem dUC_fillDeals_36 : decode prog_5_method_20_code 36 = .ok (.iload 4, 2) := by decide +kernel
theorem dUC_fillDeals_38 : decode prog_5_method_20_code 38 = .ok (.invokevirtual 299, 3) := by decide +kernel
theorem dUC_fillDeals_41 : decode prog_5_method_20_code 41 = .ok (.iinc 3 1, 3) := by decide +kernel
theorem dUC_fillDeals_44 : decode prog_5_method_20_code 44 = .ok (.goto (-39), 3) := by decide +kernel
theorem dUC_fillDeals_47 : decode prog_5_method_20_code 47 = .ok (.return_, 1) := by decide +kernel
theorem dUC_findDeals_0 : decode prog_5_method_16_code 0 = .ok (.aload_n 0, 1) := by decide +kernel
theorem dUC_findDeals_1 : decode prog_5_method_16_code 1 = .ok (.aload_n 0, 1) := by decide +kernel
theorem dUC_findDeals_2 : decode prog_5_method_16_code 2 = .ok (.getfield 160, 3) := by decide +kernel
theorem dUC_findDeals_5 : decode prog_5_method_16_code 5 = .ok (.putfield 268, 3) := by decide +kernel
theorem dUC_findDeals_8 : decode prog_5_method_16_code 8 = .ok (.aload_n 0, 1) := by decide +kernel
theorem dUC_findDeals_9 : decode prog_5_method_16_code 9 = .ok (.getfield 160, 3) := by decide +kernel
theorem dUC_findDeals_12 : decode prog_5_method_16_code 12 = .ok (.aload_n 1, 1) := by decide +kernel
theorem dUC_findDeals_13 : decode prog_5_method_16_code 13 = .ok (.getfield 207, 3) := by decide +kernel
theorem dUC_findDeals_16 : decode prog_5_method_16_code 16 = .ok (.if_icmp .ge 34, 3) := by decide +kernel
theorem dUC_findDeals_19 : decode prog_5_method_16_code 19 = .ok (.aload_n 1, 1) := by decide +kernel
theorem dUC_findDeals_20 : decode prog_5_method_16_code 20 = .ok (.getfield 212, 3) := by decide +kernel
theorem dUC_findDeals_23 : decode prog_5_method_16_code 23 = .ok (.aload_n 1, 1) := by decide +kernel
theorem dUC_findDeals_24 : decode prog_5_method_16_code 24 = .ok (.getfield 215, 3) := by decide +kernel
theorem dUC_findDeals_27 : decode prog_5_method_16_code 27 = .ok (.aload_n 0, 1) := by decide +kernel
theorem dUC_findDeals_28 : decode prog_5_method_16_code 28 = .ok (.getfield 160, 3) := by decide +kernel
theorem dUC_findDeals_31 : decode prog_5_method_16_code 31 = .ok (.iaload, 1) := by decide +kernel
theorem dUC_findDeals_32 : decode prog_5_method_16_code 32 = .ok (.iaload, 1) := by decide +kernel
theorem dUC_findDeals_33 : decode prog_5_method_16_code 33 = .ok (.iload_n 2, 1) := by decide +kernel
theorem dUC_findDeals_34 : decode prog_5_method_16_code 34 = .ok (.if_icmp .ne 16, 3) := by decide +kernel
theorem dUC_findDeals_37 : decode prog_5_method_16_code 37 = .ok (.aload_n 0, 1) := by decide +kernel
theorem dUC_findDeals_38 : decode prog_5_method_16_code 38 = .ok (.dup, 1) := by decide +kernel
theorem dUC_findDeals_39 : decode prog_5_method_16_code 39 = .ok (.getfield 160, 3) := by decide +kernel
theorem dUC_findDeals_42 : decode prog_5_method_16_code 42 = .ok (.iconst 1, 1) := by decide +kernel
theorem dUC_findDeals_43 : decode prog_5_method_16_code 43 = .ok (.iadd, 1) := by decide +kernel
theorem dUC_findDeals_44 : decode prog_5_method_16_code 44 = .ok (.putfield 160, 3) := by decide +kernel
theorem dUC_findDeals_47 : decode prog_5_method_16_code 47 = .ok (.goto (-39), 3) := by decide +kernel
theorem dUC_findDeals_50 : decode prog_5_method_16_code 50 = .ok (.return_, 1) := by decide +kernel
theorem dUC_flowOf_0 : decode prog_5_method_19_code 0 = .ok (.lconst 0, 1) := by decide +kernel
theorem dUC_flowOf_1 : decode prog_5_method_19_code 1 = .ok (.lstore_n 3, 1) := by decide +kernel
theorem dUC_flowOf_2 : decode prog_5_method_19_code 2 = .ok (.aload_n 0, 1) := by decide +kernel
theorem dUC_flowOf_3 : decode prog_5_method_19_code 3 = .ok (.getfield 268, 3) := by decide +kernel
theorem dUC_flowOf_6 : decode prog_5_method_19_code 6 = .ok (.istore 5, 2) := by decide +kernel
theorem dUC_flowOf_8 : decode prog_5_method_19_code 8 = .ok (.iload 5, 2) := by decide +kernel
theorem dUC_flowOf_10 : decode prog_5_method_19_code 10 = .ok (.aload_n 0, 1) := by decide +kernel
theorem dUC_flowOf_11 : decode prog_5_method_19_code 11 = .ok (.getfield 160, 3) := by decide +kernel
theorem dUC_flowOf_14 : decode prog_5_method_19_code 14 = .ok (.if_icmp .ge 43, 3) := by decide +kernel
theorem dUC_flowOf_17 : decode prog_5_method_19_code 17 = .ok (.aload_n 1, 1) := by decide +kernel
theorem dUC_flowOf_18 : decode prog_5_method_19_code 18 = .ok (.getfield 193, 3) := by decide +kernel
theorem dUC_flowOf_21 : decode prog_5_method_19_code 21 = .ok (.getfield 215, 3) := by decide +kernel
theorem dUC_flowOf_24 : decode prog_5_method_19_code 24 = .ok (.iload 5, 2) := by decide +kernel
theorem dUC_flowOf_26 : decode prog_5_method_19_code 26 = .ok (.iaload, 1) := by decide +kernel
theorem dUC_flowOf_27 : decode prog_5_method_19_code 27 = .ok (.istore 6, 2) := by decide +kernel
theorem dUC_flowOf_29 : decode prog_5_method_19_code 29 = .ok (.aload_n 1, 1) := by decide +kernel
theorem dUC_flowOf_30 : decode prog_5_method_19_code 30 = .ok (.getfield 295, 3) := by decide +kernel
theorem dUC_flowOf_33 : decode prog_5_method_19_code 33 = .ok (.iload 6, 2) := by decide +kernel
theorem dUC_flowOf_35 : decode prog_5_method_19_code 35 = .ok (.iaload, 1) := by decide +kernel
theorem dUC_flowOf_36 : decode prog_5_method_19_code 36 = .ok (.iload_n 2, 1) := by decide +kernel
theorem dUC_flowOf_37 : decode prog_5_method_19_code 37 = .ok (.if_icmp .ne 14, 3) := by decide +kernel
theorem dUC_flowOf_40 : decode prog_5_method_19_code 40 = .ok (.lload_n 3, 1) := by decide +kernel
theorem dUC_flowOf_41 : decode prog_5_method_19_code 41 = .ok (.aload_n 1, 1) := by decide +kernel
theorem dUC_flowOf_42 : decode prog_5_method_19_code 42 = .ok (.getfield 296, 3) := by decide +kernel
theorem dUC_flowOf_45 : decode prog_5_method_19_code 45 = .ok (.iload 6, 2) := by decide +kernel
theorem dUC_flowOf_47 : decode prog_5_method_19_code 47 = .ok (.iaload, 1) := by decide +kernel
theorem dUC_flowOf_48 : decode prog_5_method_19_code 48 = .ok (.i2l, 1) := by decide +kernel
theorem dUC_flowOf_49 : decode prog_5_method_19_code 49 = .ok (.ladd, 1) := by decide +kernel
theorem dUC_flowOf_50 : decode prog_5_method_19_code 50 = .ok (.lstore_n 3, 1) := by decide +kernel
theorem dUC_flowOf_51 : decode prog_5_method_19_code 51 = .ok (.iinc 5 1, 3) := by decide +kernel
theorem dUC_flowOf_54 : decode prog_5_method_19_code 54 = .ok (.goto (-46), 3) := by decide +kernel
theorem dUC_flowOf_57 : decode prog_5_method_19_code 57 = .ok (.lload_n 3, 1) := by decide +kernel
theorem dUC_flowOf_58 : decode prog_5_method_19_code 58 = .ok (.lreturn, 1) := by decide +kernel
theorem dUC_hear_0 : decode prog_5_method_11_code 0 = .ok (.aload_n 1, 1) := by decide +kernel
theorem dUC_hear_1 : decode prog_5_method_11_code 1 = .ok (.getfield 225, 3) := by decide +kernel
theorem dUC_hear_4 : decode prog_5_method_11_code 4 = .ok (.iload_n 2, 1) := by decide +kernel
theorem dUC_hear_5 : decode prog_5_method_11_code 5 = .ok (.iaload, 1) := by decide +kernel
theorem dUC_hear_6 : decode prog_5_method_11_code 6 = .ok (.istore_n 3, 1) := by decide +kernel
theorem dUC_hear_7 : decode prog_5_method_11_code 7 = .ok (.aload_n 1, 1) := by decide +kernel
theorem dUC_hear_8 : decode prog_5_method_11_code 8 = .ok (.getfield 228, 3) := by decide +kernel
theorem dUC_hear_11 : decode prog_5_method_11_code 11 = .ok (.iload_n 2, 1) := by decide +kernel
theorem dUC_hear_12 : decode prog_5_method_11_code 12 = .ok (.iaload, 1) := by decide +kernel
theorem dUC_hear_13 : decode prog_5_method_11_code 13 = .ok (.istore 4, 2) := by decide +kernel
theorem dUC_hear_15 : decode prog_5_method_11_code 15 = .ok (.aload_n 1, 1) := by decide +kernel
theorem dUC_hear_16 : decode prog_5_method_11_code 16 = .ok (.getfield 231, 3) := by decide +kernel
theorem dUC_hear_19 : decode prog_5_method_11_code 19 = .ok (.iload_n 2, 1) := by decide +kernel
theorem dUC_hear_20 : decode prog_5_method_11_code 20 = .ok (.iaload, 1) := by decide +kernel
theorem dUC_hear_21 : decode prog_5_method_11_code 21 = .ok (.tableswitch 65 0 2 #[27, 38, 49], 27) := by decide +kernel
theorem dUC_hear_48 : decode prog_5_method_11_code 48 = .ok (.aload_n 0, 1) := by decide +kernel
theorem dUC_hear_49 : decode prog_5_method_11_code 49 = .ok (.getfield 34, 3) := by decide +kernel
theorem dUC_hear_52 : decode prog_5_method_11_code 52 = .ok (.iload_n 3, 1) := by decide +kernel
theorem dUC_hear_53 : decode prog_5_method_11_code 53 = .ok (.iload 4, 2) := by decide +kernel
theorem dUC_hear_55 : decode prog_5_method_11_code 55 = .ok (.iastore, 1) := by decide +kernel
theorem dUC_hear_56 : decode prog_5_method_11_code 56 = .ok (.goto 43, 3) := by decide +kernel
theorem dUC_hear_59 : decode prog_5_method_11_code 59 = .ok (.aload_n 0, 1) := by decide +kernel
theorem dUC_hear_60 : decode prog_5_method_11_code 60 = .ok (.getfield 37, 3) := by decide +kernel
theorem dUC_hear_63 : decode prog_5_method_11_code 63 = .ok (.iload_n 3, 1) := by decide +kernel
theorem dUC_hear_64 : decode prog_5_method_11_code 64 = .ok (.iload 4, 2) := by decide +kernel
theorem dUC_hear_66 : decode prog_5_method_11_code 66 = .ok (.iastore, 1) := by decide +kernel
theorem dUC_hear_67 : decode prog_5_method_11_code 67 = .ok (.goto 32, 3) := by decide +kernel
theorem dUC_hear_70 : decode prog_5_method_11_code 70 = .ok (.aload_n 0, 1) := by decide +kernel
theorem dUC_hear_71 : decode prog_5_method_11_code 71 = .ok (.getfield 40, 3) := by decide +kernel
theorem dUC_hear_74 : decode prog_5_method_11_code 74 = .ok (.iload_n 3, 1) := by decide +kernel
theorem dUC_hear_75 : decode prog_5_method_11_code 75 = .ok (.iload 4, 2) := by decide +kernel
theorem dUC_hear_77 : decode prog_5_method_11_code 77 = .ok (.iastore, 1) := by decide +kernel
theorem dUC_hear_78 : decode prog_5_method_11_code 78 = .ok (.aload_n 0, 1) := by decide +kernel
theorem dUC_hear_79 : decode prog_5_method_11_code 79 = .ok (.iconst 1, 1) := by decide +kernel
theorem dUC_hear_80 : decode prog_5_method_11_code 80 = .ok (.putfield 147, 3) := by decide +kernel
theorem dUC_hear_83 : decode prog_5_method_11_code 83 = .ok (.goto 16, 3) := by decide +kernel
theorem dUC_hear_86 : decode prog_5_method_11_code 86 = .ok (.aload_n 0, 1) := by decide +kernel
theorem dUC_hear_87 : decode prog_5_method_11_code 87 = .ok (.getfield 43, 3) := by decide +kernel
theorem dUC_hear_90 : decode prog_5_method_11_code 90 = .ok (.iload_n 3, 1) := by decide +kernel
theorem dUC_hear_91 : decode prog_5_method_11_code 91 = .ok (.iload 4, 2) := by decide +kernel
theorem dUC_hear_93 : decode prog_5_method_11_code 93 = .ok (.iastore, 1) := by decide +kernel
theorem dUC_hear_94 : decode prog_5_method_11_code 94 = .ok (.aload_n 0, 1) := by decide +kernel
theorem dUC_hear_95 : decode prog_5_method_11_code 95 = .ok (.iconst 1, 1) := by decide +kernel
theorem dUC_hear_96 : decode prog_5_method_11_code 96 = .ok (.putfield 151, 3) := by decide +kernel
theorem dUC_hear_99 : decode prog_5_method_11_code 99 = .ok (.return_, 1) := by decide +kernel
theorem dUC_learn_0 : decode prog_5_method_9_code 0 = .ok (.aload_n 0, 1) := by decide +kernel
theorem dUC_learn_1 : decode prog_5_method_9_code 1 = .ok (.getfield 147, 3) := by decide +kernel
theorem dUC_learn_4 : decode prog_5_method_9_code 4 = .ok (.ifCond .eq 11, 3) := by decide +kernel
theorem dUC_learn_7 : decode prog_5_method_9_code 7 = .ok (.aload_n 0, 1) := by decide +kernel
theorem dUC_learn_8 : decode prog_5_method_9_code 8 = .ok (.getfield 40, 3) := by decide +kernel
theorem dUC_learn_11 : decode prog_5_method_9_code 11 = .ok (.iconst 0, 1) := by decide +kernel
theorem dUC_learn_12 : decode prog_5_method_9_code 12 = .ok (.invokestatic 141, 3) := by decide +kernel
theorem dUC_learn_15 : decode prog_5_method_9_code 15 = .ok (.aload_n 0, 1) := by decide +kernel
theorem dUC_learn_16 : decode prog_5_method_9_code 16 = .ok (.getfield 151, 3) := by decide +kernel
theorem dUC_learn_19 : decode prog_5_method_9_code 19 = .ok (.ifCond .eq 13, 3) := by decide +kernel
theorem dUC_learn_22 : decode prog_5_method_9_code 22 = .ok (.aload_n 0, 1) := by decide +kernel
theorem dUC_learn_23 : decode prog_5_method_9_code 23 = .ok (.getfield 43, 3) := by decide +kernel
theorem dUC_learn_26 : decode prog_5_method_9_code 26 = .ok (.sipush 1000, 3) := by decide +kernel
theorem dUC_learn_29 : decode prog_5_method_9_code 29 = .ok (.invokestatic 141, 3) := by decide +kernel
theorem dUC_learn_32 : decode prog_5_method_9_code 32 = .ok (.aload_n 0, 1) := by decide +kernel
theorem dUC_learn_33 : decode prog_5_method_9_code 33 = .ok (.iconst 0, 1) := by decide +kernel
theorem dUC_learn_34 : decode prog_5_method_9_code 34 = .ok (.putfield 147, 3) := by decide +kernel
theorem dUC_learn_37 : decode prog_5_method_9_code 37 = .ok (.aload_n 0, 1) := by decide +kernel
theorem dUC_learn_38 : decode prog_5_method_9_code 38 = .ok (.iconst 0, 1) := by decide +kernel
theorem dUC_learn_39 : decode prog_5_method_9_code 39 = .ok (.putfield 151, 3) := by decide +kernel
theorem dUC_learn_42 : decode prog_5_method_9_code 42 = .ok (.aload_n 1, 1) := by decide +kernel
theorem dUC_learn_43 : decode prog_5_method_9_code 43 = .ok (.getfield 201, 3) := by decide +kernel
theorem dUC_learn_46 : decode prog_5_method_9_code 46 = .ok (.astore 4, 2) := by decide +kernel
theorem dUC_learn_48 : decode prog_5_method_9_code 48 = .ok (.aload 4, 2) := by decide +kernel
theorem dUC_learn_50 : decode prog_5_method_9_code 50 = .ok (.getfield 204, 3) := by decide +kernel
theorem dUC_learn_53 : decode prog_5_method_9_code 53 = .ok (.astore 5, 2) := by decide +kernel
theorem dUC_learn_55 : decode prog_5_method_9_code 55 = .ok (.aload_n 0, 1) := by decide +kernel
theorem dUC_learn_56 : decode prog_5_method_9_code 56 = .ok (.getfield 154, 3) := by decide +kernel
theorem dUC_learn_59 : decode prog_5_method_9_code 59 = .ok (.aload 5, 2) := by decide +kernel
theorem dUC_learn_61 : decode prog_5_method_9_code 61 = .ok (.getfield 207, 3) := by decide +kernel
theorem dUC_learn_64 : decode prog_5_method_9_code 64 = .ok (.if_icmp .ge 68, 3) := by decide +kernel
theorem dUC_learn_67 : decode prog_5_method_9_code 67 = .ok (.aload 5, 2) := by decide +kernel
theorem dUC_learn_69 : decode prog_5_method_9_code 69 = .ok (.getfield 212, 3) := by decide +kernel
theorem dUC_learn_72 : decode prog_5_method_9_code 72 = .ok (.aload 5, 2) := by decide +kernel
theorem dUC_learn_74 : decode prog_5_method_9_code 74 = .ok (.getfield 215, 3) := by decide +kernel
theorem dUC_learn_77 : decode prog_5_method_9_code 77 = .ok (.aload_n 0, 1) := by decide +kernel
theorem dUC_learn_78 : decode prog_5_method_9_code 78 = .ok (.getfield 154, 3) := by decide +kernel
theorem dUC_learn_81 : decode prog_5_method_9_code 81 = .ok (.iaload, 1) := by decide +kernel
theorem dUC_learn_82 : decode prog_5_method_9_code 82 = .ok (.iaload, 1) := by decide +kernel
theorem dUC_learn_83 : decode prog_5_method_9_code 83 = .ok (.iload_n 2, 1) := by decide +kernel
theorem dUC_learn_84 : decode prog_5_method_9_code 84 = .ok (.if_icmp .ne 48, 3) := by decide +kernel
theorem dUC_learn_87 : decode prog_5_method_9_code 87 = .ok (.aload 5, 2) := by decide +kernel
theorem dUC_learn_89 : decode prog_5_method_9_code 89 = .ok (.getfield 215, 3) := by decide +kernel
theorem dUC_learn_92 : decode prog_5_method_9_code 92 = .ok (.aload_n 0, 1) := by decide +kernel
theorem dUC_learn_93 : decode prog_5_method_9_code 93 = .ok (.getfield 154, 3) := by decide +kernel
theorem dUC_learn_96 : decode prog_5_method_9_code 96 = .ok (.iaload, 1) := by decide +kernel
theorem dUC_learn_97 : decode prog_5_method_9_code 97 = .ok (.istore 6, 2) := by decide +kernel
theorem dUC_learn_99 : decode prog_5_method_9_code 99 = .ok (.aload 4, 2) := by decide +kernel
theorem dUC_learn_101 : decode prog_5_method_9_code 101 = .ok (.getfield 218, 3) := by decide +kernel
theorem dUC_learn_104 : decode prog_5_method_9_code 104 = .ok (.iload 6, 2) := by decide +kernel
theorem dUC_learn_106 : decode prog_5_method_9_code 106 = .ok (.iaload, 1) := by decide +kernel
theorem dUC_learn_107 : decode prog_5_method_9_code 107 = .ok (.iload_n 3, 1) := by decide +kernel
theorem dUC_learn_108 : decode prog_5_method_9_code 108 = .ok (.if_icmp .gt 11, 3) := by decide +kernel
theorem dUC_learn_111 : decode prog_5_method_9_code 111 = .ok (.aload_n 0, 1) := by decide +kernel
theorem dUC_learn_112 : decode prog_5_method_9_code 112 = .ok (.aload 4, 2) := by decide +kernel
theorem dUC_learn_114 : decode prog_5_method_9_code 114 = .ok (.iload 6, 2) := by decide +kernel
theorem dUC_learn_116 : decode prog_5_method_9_code 116 = .ok (.invokevirtual 221, 3) := by decide +kernel
theorem dUC_learn_119 : decode prog_5_method_9_code 119 = .ok (.aload_n 0, 1) := by decide +kernel
theorem dUC_learn_120 : decode prog_5_method_9_code 120 = .ok (.dup, 1) := by decide +kernel
theorem dUC_learn_121 : decode prog_5_method_9_code 121 = .ok (.getfield 154, 3) := by decide +kernel
theorem dUC_learn_124 : decode prog_5_method_9_code 124 = .ok (.iconst 1, 1) := by decide +kernel
theorem dUC_learn_125 : decode prog_5_method_9_code 125 = .ok (.iadd, 1) := by decide +kernel
theorem dUC_learn_126 : decode prog_5_method_9_code 126 = .ok (.putfield 154, 3) := by decide +kernel
theorem dUC_learn_129 : decode prog_5_method_9_code 129 = .ok (.goto (-74), 3) := by decide +kernel
theorem dUC_learn_132 : decode prog_5_method_9_code 132 = .ok (.return_, 1) := by decide +kernel
theorem dUC_makePrice_0 : decode prog_5_method_18_code 0 = .ok (.aload_n 0, 1) := by decide +kernel
theorem dUC_makePrice_1 : decode prog_5_method_18_code 1 = .ok (.aload_n 1, 1) := by decide +kernel
theorem dUC_makePrice_2 : decode prog_5_method_18_code 2 = .ok (.iload_n 2, 1) := by decide +kernel
theorem dUC_makePrice_3 : decode prog_5_method_18_code 3 = .ok (.iload_n 3, 1) := by decide +kernel
theorem dUC_makePrice_4 : decode prog_5_method_18_code 4 = .ok (.aload 4, 2) := by decide +kernel
theorem dUC_makePrice_6 : decode prog_5_method_18_code 6 = .ok (.iload_n 2, 1) := by decide +kernel
theorem dUC_makePrice_7 : decode prog_5_method_18_code 7 = .ok (.laload, 1) := by decide +kernel
theorem dUC_makePrice_8 : decode prog_5_method_18_code 8 = .ok (.aload 5, 2) := by decide +kernel
theorem dUC_makePrice_10 : decode prog_5_method_18_code 10 = .ok (.invokevirtual 273, 3) := by decide +kernel
theorem dUC_makePrice_13 : decode prog_5_method_18_code 13 = .ok (.lstore 7, 2) := by decide +kernel
theorem dUC_makePrice_15 : decode prog_5_method_18_code 15 = .ok (.lconst 0, 1) := by decide +kernel
theorem dUC_makePrice_16 : decode prog_5_method_18_code 16 = .ok (.lload 7, 2) := by decide +kernel
theorem dUC_makePrice_18 : decode prog_5_method_18_code 18 = .ok (.invokestatic 265, 3) := by decide +kernel
theorem dUC_makePrice_21 : decode prog_5_method_18_code 21 = .ok (.aload_n 1, 1) := by decide +kernel
theorem dUC_makePrice_22 : decode prog_5_method_18_code 22 = .ok (.getfield 277, 3) := by decide +kernel
theorem dUC_makePrice_25 : decode prog_5_method_18_code 25 = .ok (.iload_n 2, 1) := by decide +kernel
theorem dUC_makePrice_26 : decode prog_5_method_18_code 26 = .ok (.iload_n 3, 1) := by decide +kernel
theorem dUC_makePrice_27 : decode prog_5_method_18_code 27 = .ok (.iconst 0, 1) := by decide +kernel
theorem dUC_makePrice_28 : decode prog_5_method_18_code 28 = .ok (.invokevirtual 281, 3) := by decide +kernel
theorem dUC_makePrice_31 : decode prog_5_method_18_code 31 = .ok (.i2l, 1) := by decide +kernel
theorem dUC_makePrice_32 : decode prog_5_method_18_code 32 = .ok (.lmul, 1) := by decide +kernel
theorem dUC_makePrice_33 : decode prog_5_method_18_code 33 = .ok (.ldc2_w 259, 3) := by decide +kernel
theorem dUC_makePrice_36 : decode prog_5_method_18_code 36 = .ok (.ldiv, 1) := by decide +kernel
theorem dUC_makePrice_37 : decode prog_5_method_18_code 37 = .ok (.lstore 9, 2) := by decide +kernel
theorem dUC_makePrice_39 : decode prog_5_method_18_code 39 = .ok (.aload_n 0, 1) := by decide +kernel
theorem dUC_makePrice_40 : decode prog_5_method_18_code 40 = .ok (.getfield 31, 3) := by decide +kernel
theorem dUC_makePrice_43 : decode prog_5_method_18_code 43 = .ok (.iload_n 2, 1) := by decide +kernel
theorem dUC_makePrice_44 : decode prog_5_method_18_code 44 = .ok (.iaload, 1) := by decide +kernel
theorem dUC_makePrice_45 : decode prog_5_method_18_code 45 = .ok (.ifCond .le 23, 3) := by decide +kernel
theorem dUC_makePrice_48 : decode prog_5_method_18_code 48 = .ok (.lload 7, 2) := by decide +kernel
theorem dUC_makePrice_50 : decode prog_5_method_18_code 50 = .ok (.lload 9, 2) := by decide +kernel
theorem dUC_makePrice_52 : decode prog_5_method_18_code 52 = .ok (.lsub, 1) := by decide +kernel
theorem dUC_makePrice_53 : decode prog_5_method_18_code 53 = .ok (.ldc2_w 271, 3) := by decide +kernel
theorem dUC_makePrice_56 : decode prog_5_method_18_code 56 = .ok (.lmul, 1) := by decide +kernel
theorem dUC_makePrice_57 : decode prog_5_method_18_code 57 = .ok (.aload_n 0, 1) := by decide +kernel
theorem dUC_makePrice_58 : decode prog_5_method_18_code 58 = .ok (.getfield 31, 3) := by decide +kernel
theorem dUC_makePrice_61 : decode prog_5_method_18_code 61 = .ok (.iload_n 2, 1) := by decide +kernel
theorem dUC_makePrice_62 : decode prog_5_method_18_code 62 = .ok (.iaload, 1) := by decide +kernel
theorem dUC_makePrice_63 : decode prog_5_method_18_code 63 = .ok (.i2l, 1) := by decide +kernel
theorem dUC_makePrice_64 : decode prog_5_method_18_code 64 = .ok (.ldiv, 1) := by decide +kernel
theorem dUC_makePrice_65 : decode prog_5_method_18_code 65 = .ok (.goto 6, 3) := by decide +kernel
theorem dUC_makePrice_68 : decode prog_5_method_18_code 68 = .ok (.ldc2_w 55, 3) := by decide +kernel
theorem dUC_makePrice_71 : decode prog_5_method_18_code 71 = .ok (.lstore 11, 2) := by decide +kernel
theorem dUC_makePrice_73 : decode prog_5_method_18_code 73 = .ok (.lconst 0, 1) := by decide +kernel
theorem dUC_makePrice_74 : decode prog_5_method_18_code 74 = .ok (.ldc2_w 286, 3) := by decide +kernel
theorem dUC_makePrice_77 : decode prog_5_method_18_code 77 = .ok (.lload 11, 2) := by decide +kernel
theorem dUC_makePrice_79 : decode prog_5_method_18_code 79 = .ok (.invokestatic 261, 3) := by decide +kernel
theorem dUC_makePrice_82 : decode prog_5_method_18_code 82 = .ok (.invokestatic 265, 3) := by decide +kernel
theorem dUC_makePrice_85 : decode prog_5_method_18_code 85 = .ok (.lstore 11, 2) := by decide +kernel
theorem dUC_makePrice_87 : decode prog_5_method_18_code 87 = .ok (.aload_n 0, 1) := by decide +kernel
theorem dUC_makePrice_88 : decode prog_5_method_18_code 88 = .ok (.aload_n 1, 1) := by decide +kernel
theorem dUC_makePrice_89 : decode prog_5_method_18_code 89 = .ok (.getfield 105, 3) := by decide +kernel
theorem dUC_makePrice_92 : decode prog_5_method_18_code 92 = .ok (.iload_n 2, 1) := by decide +kernel
theorem dUC_makePrice_93 : decode prog_5_method_18_code 93 = .ok (.invokevirtual 288, 3) := by decide +kernel
theorem dUC_makePrice_96 : decode prog_5_method_18_code 96 = .ok (.lstore 13, 2) := by decide +kernel
theorem dUC_makePrice_98 : decode prog_5_method_18_code 98 = .ok (.ldc2_w 55, 3) := by decide +kernel
theorem dUC_makePrice_101 : decode prog_5_method_18_code 101 = .ok (.lload 13, 2) := by decide +kernel
theorem dUC_makePrice_103 : decode prog_5_method_18_code 103 = .ok (.invokestatic 292, 3) := by decide +kernel
theorem dUC_makePrice_106 : decode prog_5_method_18_code 106 = .ok (.lmul, 1) := by decide +kernel
theorem dUC_makePrice_107 : decode prog_5_method_18_code 107 = .ok (.aload_n 1, 1) := by decide +kernel
theorem dUC_makePrice_108 : decode prog_5_method_18_code 108 = .ok (.getfield 277, 3) := by decide +kernel
theorem dUC_makePrice_111 : decode prog_5_method_18_code 111 = .ok (.iload_n 2, 1) := by decide +kernel
theorem dUC_makePrice_112 : decode prog_5_method_18_code 112 = .ok (.iload_n 3, 1) := by decide +kernel
theorem dUC_makePrice_113 : decode prog_5_method_18_code 113 = .ok (.iconst 2, 1) := by decide +kernel
theorem dUC_makePrice_114 : decode prog_5_method_18_code 114 = .ok (.invokevirtual 281, 3) := by decide +kernel
theorem dUC_makePrice_117 : decode prog_5_method_18_code 117 = .ok (.i2l, 1) := by decide +kernel
theorem dUC_makePrice_118 : decode prog_5_method_18_code 118 = .ok (.aload_n 0, 1) := by decide +kernel
theorem dUC_makePrice_119 : decode prog_5_method_18_code 119 = .ok (.getfield 31, 3) := by decide +kernel
theorem dUC_makePrice_122 : decode prog_5_method_18_code 122 = .ok (.iload_n 2, 1) := by decide +kernel
theorem dUC_makePrice_123 : decode prog_5_method_18_code 123 = .ok (.iaload, 1) := by decide +kernel
theorem dUC_makePrice_124 : decode prog_5_method_18_code 124 = .ok (.i2l, 1) := by decide +kernel
theorem dUC_makePrice_125 : decode prog_5_method_18_code 125 = .ok (.lmul, 1) := by decide +kernel
theorem dUC_makePrice_126 : decode prog_5_method_18_code 126 = .ok (.lcmp, 1) := by decide +kernel
theorem dUC_makePrice_127 : decode prog_5_method_18_code 127 = .ok (.ifCond .le 53, 3) := by decide +kernel
theorem dUC_makePrice_130 : decode prog_5_method_18_code 130 = .ok (.aload_n 1, 1) := by decide +kernel
theorem dUC_makePrice_131 : decode prog_5_method_18_code 131 = .ok (.getfield 277, 3) := by decide +kernel
theorem dUC_makePrice_134 : decode prog_5_method_18_code 134 = .ok (.iload_n 2, 1) := by decide +kernel
theorem dUC_makePrice_135 : decode prog_5_method_18_code 135 = .ok (.iload_n 3, 1) := by decide +kernel
theorem dUC_makePrice_136 : decode prog_5_method_18_code 136 = .ok (.iconst 1, 1) := by decide +kernel
theorem dUC_makePrice_137 : decode prog_5_method_18_code 137 = .ok (.invokevirtual 281, 3) := by decide +kernel
theorem dUC_makePrice_140 : decode prog_5_method_18_code 140 = .ok (.istore 15, 2) := by decide +kernel
theorem dUC_makePrice_142 : decode prog_5_method_18_code 142 = .ok (.ldc2_w 286, 3) := by decide +kernel
theorem dUC_makePrice_145 : decode prog_5_method_18_code 145 = .ok (.lload 11, 2) := by decide +kernel
theorem dUC_makePrice_147 : decode prog_5_method_18_code 147 = .ok (.lload 13, 2) := by decide +kernel
theorem dUC_makePrice_149 : decode prog_5_method_18_code 149 = .ok (.lconst 0, 1) := by decide +kernel
theorem dUC_makePrice_150 : decode prog_5_method_18_code 150 = .ok (.lcmp, 1) := by decide +kernel
theorem dUC_makePrice_151 : decode prog_5_method_18_code 151 = .ok (.ifCond .ge 12, 3) := by decide +kernel
theorem dUC_makePrice_154 : decode prog_5_method_18_code 154 = .ok (.sipush 10000, 3) := by decide +kernel
theorem dUC_makePrice_157 : decode prog_5_method_18_code 157 = .ok (.iload 15, 2) := by decide +kernel
theorem dUC_makePrice_159 : decode prog_5_method_18_code 159 = .ok (.isub, 1) := by decide +kernel
theorem dUC_makePrice_160 : decode prog_5_method_18_code 160 = .ok (.goto 9, 3) := by decide +kernel
theorem dUC_makePrice_163 : decode prog_5_method_18_code 163 = .ok (.sipush 10000, 3) := by decide +kernel
theorem dUC_makePrice_166 : decode prog_5_method_18_code 166 = .ok (.iload 15, 2) := by decide +kernel
theorem dUC_makePrice_168 : decode prog_5_method_18_code 168 = .ok (.iadd, 1) := by decide +kernel
theorem dUC_makePrice_169 : decode prog_5_method_18_code 169 = .ok (.i2l, 1) := by decide +kernel
theorem dUC_makePrice_170 : decode prog_5_method_18_code 170 = .ok (.lmul, 1) := by decide +kernel
theorem dUC_makePrice_171 : decode prog_5_method_18_code 171 = .ok (.ldc2_w 55, 3) := by decide +kernel
theorem dUC_makePrice_174 : decode prog_5_method_18_code 174 = .ok (.ldiv, 1) := by decide +kernel
theorem dUC_makePrice_175 : decode prog_5_method_18_code 175 = .ok (.invokestatic 261, 3) := by decide +kernel
theorem dUC_makePrice_178 : decode prog_5_method_18_code 178 = .ok (.lstore 11, 2) := by decide +kernel
theorem dUC_makePrice_180 : decode prog_5_method_18_code 180 = .ok (.aload 6, 2) := by decide +kernel
theorem dUC_makePrice_182 : decode prog_5_method_18_code 182 = .ok (.iload_n 2, 1) := by decide +kernel
theorem dUC_makePrice_183 : decode prog_5_method_18_code 183 = .ok (.iload_n 3, 1) := by decide +kernel
theorem dUC_makePrice_184 : decode prog_5_method_18_code 184 = .ok (.invokestatic 101, 3) := by decide +kernel
theorem dUC_makePrice_187 : decode prog_5_method_18_code 187 = .ok (.lload 9, 2) := by decide +kernel
theorem dUC_makePrice_189 : decode prog_5_method_18_code 189 = .ok (.lastore, 1) := by decide +kernel
theorem dUC_makePrice_190 : decode prog_5_method_18_code 190 = .ok (.aload 5, 2) := by decide +kernel
theorem dUC_makePrice_192 : decode prog_5_method_18_code 192 = .ok (.iload_n 2, 1) := by decide +kernel
theorem dUC_makePrice_193 : decode prog_5_method_18_code 193 = .ok (.iload_n 3, 1) := by decide +kernel
theorem dUC_makePrice_194 : decode prog_5_method_18_code 194 = .ok (.invokestatic 101, 3) := by decide +kernel
theorem dUC_makePrice_197 : decode prog_5_method_18_code 197 = .ok (.lload 11, 2) := by decide +kernel
theorem dUC_makePrice_199 : decode prog_5_method_18_code 199 = .ok (.l2i, 1) := by decide +kernel
theorem dUC_makePrice_200 : decode prog_5_method_18_code 200 = .ok (.iastore, 1) := by decide +kernel
theorem dUC_makePrice_201 : decode prog_5_method_18_code 201 = .ok (.return_, 1) := by decide +kernel
theorem dUC_openDay_0 : decode prog_5_method_8_code 0 = .ok (.aload_n 0, 1) := by decide +kernel
theorem dUC_openDay_1 : decode prog_5_method_8_code 1 = .ok (.aload_n 1, 1) := by decide +kernel
theorem dUC_openDay_2 : decode prog_5_method_8_code 2 = .ok (.iload_n 2, 1) := by decide +kernel
theorem dUC_openDay_3 : decode prog_5_method_8_code 3 = .ok (.iload_n 3, 1) := by decide +kernel
theorem dUC_openDay_4 : decode prog_5_method_8_code 4 = .ok (.invokevirtual 166, 3) := by decide +kernel
theorem dUC_openDay_7 : decode prog_5_method_8_code 7 = .ok (.iload 4, 2) := by decide +kernel
theorem dUC_openDay_9 : decode prog_5_method_8_code 9 = .ok (.ifCond .eq 14, 3) := by decide +kernel
theorem dUC_openDay_12 : decode prog_5_method_8_code 12 = .ok (.aload_n 0, 1) := by decide +kernel
theorem dUC_openDay_13 : decode prog_5_method_8_code 13 = .ok (.aload_n 1, 1) := by decide +kernel
theorem dUC_openDay_14 : decode prog_5_method_8_code 14 = .ok (.getfield 170, 3) := by decide +kernel
theorem dUC_openDay_17 : decode prog_5_method_8_code 17 = .ok (.iload_n 2, 1) := by decide +kernel
theorem dUC_openDay_18 : decode prog_5_method_8_code 18 = .ok (.iload 4, 2) := by decide +kernel
theorem dUC_openDay_20 : decode prog_5_method_8_code 20 = .ok (.invokevirtual 174, 3) := by decide +kernel
theorem dUC_openDay_23 : decode prog_5_method_8_code 23 = .ok (.aload_n 0, 1) := by decide +kernel
theorem dUC_openDay_24 : decode prog_5_method_8_code 24 = .ok (.getfield 151, 3) := by decide +kernel
theorem dUC_openDay_27 : decode prog_5_method_8_code 27 = .ok (.ifCond .eq 11, 3) := by decide +kernel
theorem dUC_openDay_30 : decode prog_5_method_8_code 30 = .ok (.aload_n 0, 1) := by decide +kernel
theorem dUC_openDay_31 : decode prog_5_method_8_code 31 = .ok (.aload_n 1, 1) := by decide +kernel
theorem dUC_openDay_32 : decode prog_5_method_8_code 32 = .ok (.getfield 94, 3) := by decide +kernel
theorem dUC_openDay_35 : decode prog_5_method_8_code 35 = .ok (.invokevirtual 178, 3) := by decide +kernel
theorem dUC_openDay_38 : decode prog_5_method_8_code 38 = .ok (.aload_n 0, 1) := by decide +kernel
theorem dUC_openDay_39 : decode prog_5_method_8_code 39 = .ok (.getfield 147, 3) := by decide +kernel
theorem dUC_openDay_42 : decode prog_5_method_8_code 42 = .ok (.ifCond .eq 8, 3) := by decide +kernel
theorem dUC_openDay_45 : decode prog_5_method_8_code 45 = .ok (.aload_n 0, 1) := by decide +kernel
theorem dUC_openDay_46 : decode prog_5_method_8_code 46 = .ok (.aload_n 1, 1) := by decide +kernel
theorem dUC_openDay_47 : decode prog_5_method_8_code 47 = .ok (.invokevirtual 182, 3) := by decide +kernel
theorem dUC_openDay_50 : decode prog_5_method_8_code 50 = .ok (.aload_n 0, 1) := by decide +kernel
theorem dUC_openDay_51 : decode prog_5_method_8_code 51 = .ok (.aload_n 1, 1) := by decide +kernel
theorem dUC_openDay_52 : decode prog_5_method_8_code 52 = .ok (.getfield 185, 3) := by decide +kernel
theorem dUC_openDay_55 : decode prog_5_method_8_code 55 = .ok (.iload_n 2, 1) := by decide +kernel
theorem dUC_openDay_56 : decode prog_5_method_8_code 56 = .ok (.iload_n 3, 1) := by decide +kernel
theorem dUC_openDay_57 : decode prog_5_method_8_code 57 = .ok (.invokevirtual 189, 3) := by decide +kernel
theorem dUC_openDay_60 : decode prog_5_method_8_code 60 = .ok (.aload_n 0, 1) := by decide +kernel
theorem dUC_openDay_61 : decode prog_5_method_8_code 61 = .ok (.aload_n 1, 1) := by decide +kernel
theorem dUC_openDay_62 : decode prog_5_method_8_code 62 = .ok (.getfield 105, 3) := by decide +kernel
theorem dUC_openDay_65 : decode prog_5_method_8_code 65 = .ok (.getfield 193, 3) := by decide +kernel
theorem dUC_openDay_68 : decode prog_5_method_8_code 68 = .ok (.iload_n 2, 1) := by decide +kernel
theorem dUC_openDay_69 : decode prog_5_method_8_code 69 = .ok (.invokevirtual 197, 3) := by decide +kernel
theorem dUC_openDay_72 : decode prog_5_method_8_code 72 = .ok (.return_, 1) := by decide +kernel
theorem dUC_passDay_0 : decode prog_5_method_7_code 0 = .ok (.aload_n 0, 1) := by decide +kernel
theorem dUC_passDay_1 : decode prog_5_method_7_code 1 = .ok (.aload_n 1, 1) := by decide +kernel
theorem dUC_passDay_2 : decode prog_5_method_7_code 2 = .ok (.iload_n 2, 1) := by decide +kernel
theorem dUC_passDay_3 : decode prog_5_method_7_code 3 = .ok (.iload_n 3, 1) := by decide +kernel
theorem dUC_passDay_4 : decode prog_5_method_7_code 4 = .ok (.iload 4, 2) := by decide +kernel
theorem dUC_passDay_6 : decode prog_5_method_7_code 6 = .ok (.invokevirtual 91, 3) := by decide +kernel
theorem dUC_passDay_9 : decode prog_5_method_7_code 9 = .ok (.iconst 0, 1) := by decide +kernel
theorem dUC_passDay_10 : decode prog_5_method_7_code 10 = .ok (.istore 5, 2) := by decide +kernel
theorem dUC_passDay_12 : decode prog_5_method_7_code 12 = .ok (.iload 5, 2) := by decide +kernel
theorem dUC_passDay_14 : decode prog_5_method_7_code 14 = .ok (.aload_n 1, 1) := by decide +kernel
theorem dUC_passDay_15 : decode prog_5_method_7_code 15 = .ok (.getfield 94, 3) := by decide +kernel
theorem dUC_passDay_18 : decode prog_5_method_7_code 18 = .ok (.if_icmp .ge 113, 3) := by decide +kernel
theorem dUC_passDay_21 : decode prog_5_method_7_code 21 = .ok (.aload_n 1, 1) := by decide +kernel
theorem dUC_passDay_22 : decode prog_5_method_7_code 22 = .ok (.iload_n 2, 1) := by decide +kernel
theorem dUC_passDay_23 : decode prog_5_method_7_code 23 = .ok (.invokevirtual 97, 3) := by decide +kernel
theorem dUC_passDay_26 : decode prog_5_method_7_code 26 = .ok (.ifCond .eq 105, 3) := by decide +kernel
theorem dUC_passDay_29 : decode prog_5_method_7_code 29 = .ok (.iload 5, 2) := by decide +kernel
theorem dUC_passDay_31 : decode prog_5_method_7_code 31 = .ok (.iload_n 2, 1) := by decide +kernel
theorem dUC_passDay_32 : decode prog_5_method_7_code 32 = .ok (.invokestatic 101, 3) := by decide +kernel
theorem dUC_passDay_35 : decode prog_5_method_7_code 35 = .ok (.istore 6, 2) := by decide +kernel
theorem dUC_passDay_37 : decode prog_5_method_7_code 37 = .ok (.aload_n 0, 1) := by decide +kernel
theorem dUC_passDay_38 : decode prog_5_method_7_code 38 = .ok (.aload_n 1, 1) := by decide +kernel
theorem dUC_passDay_39 : decode prog_5_method_7_code 39 = .ok (.iload 5, 2) := by decide +kernel
theorem dUC_passDay_41 : decode prog_5_method_7_code 41 = .ok (.iload_n 2, 1) := by decide +kernel
theorem dUC_passDay_42 : decode prog_5_method_7_code 42 = .ok (.aload_n 0, 1) := by decide +kernel
theorem dUC_passDay_43 : decode prog_5_method_7_code 43 = .ok (.getfield 15, 3) := by decide +kernel
theorem dUC_passDay_46 : decode prog_5_method_7_code 46 = .ok (.aload_n 0, 1) := by decide +kernel
theorem dUC_passDay_47 : decode prog_5_method_7_code 47 = .ok (.getfield 18, 3) := by decide +kernel
theorem dUC_passDay_50 : decode prog_5_method_7_code 50 = .ok (.aload_n 0, 1) := by decide +kernel
theorem dUC_passDay_51 : decode prog_5_method_7_code 51 = .ok (.getfield 22, 3) := by decide +kernel
theorem dUC_passDay_54 : decode prog_5_method_7_code 54 = .ok (.invokevirtual 116, 3) := by decide +kernel
theorem dUC_passDay_57 : decode prog_5_method_7_code 57 = .ok (.aload_n 0, 1) := by decide +kernel
theorem dUC_passDay_58 : decode prog_5_method_7_code 58 = .ok (.aload_n 1, 1) := by decide +kernel
theorem dUC_passDay_59 : decode prog_5_method_7_code 59 = .ok (.getfield 105, 3) := by decide +kernel
theorem dUC_passDay_62 : decode prog_5_method_7_code 62 = .ok (.iload 5, 2) := by decide +kernel
theorem dUC_passDay_64 : decode prog_5_method_7_code 64 = .ok (.aload_n 0, 1) := by decide +kernel
theorem dUC_passDay_65 : decode prog_5_method_7_code 65 = .ok (.getfield 18, 3) := by decide +kernel
theorem dUC_passDay_68 : decode prog_5_method_7_code 68 = .ok (.iload 6, 2) := by decide +kernel
theorem dUC_passDay_70 : decode prog_5_method_7_code 70 = .ok (.iaload, 1) := by decide +kernel
theorem dUC_passDay_71 : decode prog_5_method_7_code 71 = .ok (.aload_n 1, 1) := by decide +kernel
theorem dUC_passDay_72 : decode prog_5_method_7_code 72 = .ok (.getfield 105, 3) := by decide +kernel
theorem dUC_passDay_75 : decode prog_5_method_7_code 75 = .ok (.getfield 163, 3) := by decide +kernel
theorem dUC_passDay_78 : decode prog_5_method_7_code 78 = .ok (.invokevirtual 125, 3) := by decide +kernel
theorem dUC_passDay_81 : decode prog_5_method_7_code 81 = .ok (.aload_n 0, 1) := by decide +kernel
theorem dUC_passDay_82 : decode prog_5_method_7_code 82 = .ok (.getfield 15, 3) := by decide +kernel
theorem dUC_passDay_85 : decode prog_5_method_7_code 85 = .ok (.iload 5, 2) := by decide +kernel
theorem dUC_passDay_87 : decode prog_5_method_7_code 87 = .ok (.dup2, 1) := by decide +kernel
theorem dUC_passDay_88 : decode prog_5_method_7_code 88 = .ok (.laload, 1) := by decide +kernel
theorem dUC_passDay_89 : decode prog_5_method_7_code 89 = .ok (.aload_n 0, 1) := by decide +kernel
theorem dUC_passDay_90 : decode prog_5_method_7_code 90 = .ok (.getfield 22, 3) := by decide +kernel
theorem dUC_passDay_93 : decode prog_5_method_7_code 93 = .ok (.iload 6, 2) := by decide +kernel
theorem dUC_passDay_95 : decode prog_5_method_7_code 95 = .ok (.laload, 1) := by decide +kernel
theorem dUC_passDay_96 : decode prog_5_method_7_code 96 = .ok (.lsub, 1) := by decide +kernel
theorem dUC_passDay_97 : decode prog_5_method_7_code 97 = .ok (.lastore, 1) := by decide +kernel
theorem dUC_passDay_98 : decode prog_5_method_7_code 98 = .ok (.aload_n 0, 1) := by decide +kernel
theorem dUC_passDay_99 : decode prog_5_method_7_code 99 = .ok (.getfield 9, 3) := by decide +kernel
theorem dUC_passDay_102 : decode prog_5_method_7_code 102 = .ok (.iload 5, 2) := by decide +kernel
theorem dUC_passDay_104 : decode prog_5_method_7_code 104 = .ok (.dup2, 1) := by decide +kernel
theorem dUC_passDay_105 : decode prog_5_method_7_code 105 = .ok (.laload, 1) := by decide +kernel
theorem dUC_passDay_106 : decode prog_5_method_7_code 106 = .ok (.aload_n 1, 1) := by decide +kernel
theorem dUC_passDay_107 : decode prog_5_method_7_code 107 = .ok (.getfield 113, 3) := by decide +kernel
theorem dUC_passDay_110 : decode prog_5_method_7_code 110 = .ok (.iload 6, 2) := by decide +kernel
theorem dUC_passDay_112 : decode prog_5_method_7_code 112 = .ok (.laload, 1) := by decide +kernel
theorem dUC_passDay_113 : decode prog_5_method_7_code 113 = .ok (.lsub, 1) := by decide +kernel
theorem dUC_passDay_114 : decode prog_5_method_7_code 114 = .ok (.lastore, 1) := by decide +kernel
theorem dUC_passDay_115 : decode prog_5_method_7_code 115 = .ok (.aload_n 0, 1) := by decide +kernel
theorem dUC_passDay_116 : decode prog_5_method_7_code 116 = .ok (.aload_n 1, 1) := by decide +kernel
theorem dUC_passDay_117 : decode prog_5_method_7_code 117 = .ok (.getfield 105, 3) := by decide +kernel
theorem dUC_passDay_120 : decode prog_5_method_7_code 120 = .ok (.iload 5, 2) := by decide +kernel
theorem dUC_passDay_122 : decode prog_5_method_7_code 122 = .ok (.invokevirtual 129, 3) := by decide +kernel
theorem dUC_passDay_125 : decode prog_5_method_7_code 125 = .ok (.iinc 5 1, 3) := by decide +kernel
theorem dUC_passDay_128 : decode prog_5_method_7_code 128 = .ok (.goto (-116), 3) := by decide +kernel
theorem dUC_passDay_131 : decode prog_5_method_7_code 131 = .ok (.return_, 1) := by decide +kernel
theorem dUC_passDeals_0 : decode prog_5_method_22_code 0 = .ok (.aload_n 0, 1) := by decide +kernel
theorem dUC_passDeals_1 : decode prog_5_method_22_code 1 = .ok (.getfield 268, 3) := by decide +kernel
theorem dUC_passDeals_4 : decode prog_5_method_22_code 4 = .ok (.istore_n 3, 1) := by decide +kernel
theorem dUC_passDeals_5 : decode prog_5_method_22_code 5 = .ok (.iload_n 3, 1) := by decide +kernel
theorem dUC_passDeals_6 : decode prog_5_method_22_code 6 = .ok (.aload_n 0, 1) := by decide +kernel
theorem dUC_passDeals_7 : decode prog_5_method_22_code 7 = .ok (.getfield 160, 3) := by decide +kernel
theorem dUC_passDeals_10 : decode prog_5_method_22_code 10 = .ok (.if_icmp .ge 183, 3) := by decide +kernel
theorem dUC_passDeals_13 : decode prog_5_method_22_code 13 = .ok (.aload_n 1, 1) := by decide +kernel
theorem dUC_passDeals_14 : decode prog_5_method_22_code 14 = .ok (.getfield 193, 3) := by decide +kernel
theorem dUC_passDeals_17 : decode prog_5_method_22_code 17 = .ok (.getfield 215, 3) := by decide +kernel
theorem dUC_passDeals_20 : decode prog_5_method_22_code 20 = .ok (.iload_n 3, 1) := by decide +kernel
theorem dUC_passDeals_21 : decode prog_5_method_22_code 21 = .ok (.iaload, 1) := by decide +kernel
theorem dUC_passDeals_22 : decode prog_5_method_22_code 22 = .ok (.istore 4, 2) := by decide +kernel
theorem dUC_passDeals_24 : decode prog_5_method_22_code 24 = .ok (.aload_n 1, 1) := by decide +kernel
theorem dUC_passDeals_25 : decode prog_5_method_22_code 25 = .ok (.getfield 295, 3) := by decide +kernel
theorem dUC_passDeals_28 : decode prog_5_method_22_code 28 = .ok (.iload 4, 2) := by decide +kernel
theorem dUC_passDeals_30 : decode prog_5_method_22_code 30 = .ok (.iaload, 1) := by decide +kernel
theorem dUC_passDeals_31 : decode prog_5_method_22_code 31 = .ok (.iload_n 2, 1) := by decide +kernel
theorem dUC_passDeals_32 : decode prog_5_method_22_code 32 = .ok (.if_icmp .eq 6, 3) := by decide +kernel
theorem dUC_passDeals_35 : decode prog_5_method_22_code 35 = .ok (.goto 152, 3) := by decide +kernel
theorem dUC_passDeals_38 : decode prog_5_method_22_code 38 = .ok (.aload_n 1, 1) := by decide +kernel
theorem dUC_passDeals_39 : decode prog_5_method_22_code 39 = .ok (.getfield 296, 3) := by decide +kernel
theorem dUC_passDeals_42 : decode prog_5_method_22_code 42 = .ok (.iload 4, 2) := by decide +kernel
theorem dUC_passDeals_44 : decode prog_5_method_22_code 44 = .ok (.iaload, 1) := by decide +kernel
theorem dUC_passDeals_45 : decode prog_5_method_22_code 45 = .ok (.istore 5, 2) := by decide +kernel
theorem dUC_passDeals_47 : decode prog_5_method_22_code 47 = .ok (.iload 5, 2) := by decide +kernel
theorem dUC_passDeals_49 : decode prog_5_method_22_code 49 = .ok (.ifCond .le 13, 3) := by decide +kernel
theorem dUC_passDeals_52 : decode prog_5_method_22_code 52 = .ok (.aload_n 1, 1) := by decide +kernel
theorem dUC_passDeals_53 : decode prog_5_method_22_code 53 = .ok (.getfield 120, 3) := by decide +kernel
theorem dUC_passDeals_56 : decode prog_5_method_22_code 56 = .ok (.iload 4, 2) := by decide +kernel
theorem dUC_passDeals_58 : decode prog_5_method_22_code 58 = .ok (.laload, 1) := by decide +kernel
theorem dUC_passDeals_59 : decode prog_5_method_22_code 59 = .ok (.goto 11, 3) := by decide +kernel
theorem dUC_passDeals_62 : decode prog_5_method_22_code 62 = .ok (.aload_n 1, 1) := by decide +kernel
theorem dUC_passDeals_63 : decode prog_5_method_22_code 63 = .ok (.getfield 120, 3) := by decide +kernel
theorem dUC_passDeals_66 : decode prog_5_method_22_code 66 = .ok (.iload 4, 2) := by decide +kernel
theorem dUC_passDeals_68 : decode prog_5_method_22_code 68 = .ok (.laload, 1) := by decide +kernel
theorem dUC_passDeals_69 : decode prog_5_method_22_code 69 = .ok (.lneg, 1) := by decide +kernel
theorem dUC_passDeals_70 : decode prog_5_method_22_code 70 = .ok (.lstore 6, 2) := by decide +kernel
theorem dUC_passDeals_72 : decode prog_5_method_22_code 72 = .ok (.iload 5, 2) := by decide +kernel
theorem dUC_passDeals_74 : decode prog_5_method_22_code 74 = .ok (.ifCond .le 13, 3) := by decide +kernel
theorem dUC_passDeals_77 : decode prog_5_method_22_code 77 = .ok (.aload_n 1, 1) := by decide +kernel
theorem dUC_passDeals_78 : decode prog_5_method_22_code 78 = .ok (.getfield 163, 3) := by decide +kernel
theorem dUC_passDeals_81 : decode prog_5_method_22_code 81 = .ok (.iload 4, 2) := by decide +kernel
theorem dUC_passDeals_83 : decode prog_5_method_22_code 83 = .ok (.laload, 1) := by decide +kernel
theorem dUC_passDeals_84 : decode prog_5_method_22_code 84 = .ok (.goto 11, 3) := by decide +kernel
theorem dUC_passDeals_87 : decode prog_5_method_22_code 87 = .ok (.aload_n 1, 1) := by decide +kernel
theorem dUC_passDeals_88 : decode prog_5_method_22_code 88 = .ok (.getfield 163, 3) := by decide +kernel
theorem dUC_passDeals_91 : decode prog_5_method_22_code 91 = .ok (.iload 4, 2) := by decide +kernel
theorem dUC_passDeals_93 : decode prog_5_method_22_code 93 = .ok (.laload, 1) := by decide +kernel
theorem dUC_passDeals_94 : decode prog_5_method_22_code 94 = .ok (.lneg, 1) := by decide +kernel
theorem dUC_passDeals_95 : decode prog_5_method_22_code 95 = .ok (.lstore 8, 2) := by decide +kernel
theorem dUC_passDeals_97 : decode prog_5_method_22_code 97 = .ok (.aload_n 0, 1) := by decide +kernel
theorem dUC_passDeals_98 : decode prog_5_method_22_code 98 = .ok (.getfield 9, 3) := by decide +kernel
theorem dUC_passDeals_101 : decode prog_5_method_22_code 101 = .ok (.iload_n 2, 1) := by decide +kernel
theorem dUC_passDeals_102 : decode prog_5_method_22_code 102 = .ok (.dup2, 1) := by decide +kernel
theorem dUC_passDeals_103 : decode prog_5_method_22_code 103 = .ok (.laload, 1) := by decide +kernel
theorem dUC_passDeals_104 : decode prog_5_method_22_code 104 = .ok (.lload 6, 2) := by decide +kernel
theorem dUC_passDeals_106 : decode prog_5_method_22_code 106 = .ok (.ladd, 1) := by decide +kernel
theorem dUC_passDeals_107 : decode prog_5_method_22_code 107 = .ok (.lastore, 1) := by decide +kernel
theorem dUC_passDeals_108 : decode prog_5_method_22_code 108 = .ok (.aload_n 0, 1) := by decide +kernel
theorem dUC_passDeals_109 : decode prog_5_method_22_code 109 = .ok (.getfield 15, 3) := by decide +kernel
theorem dUC_passDeals_112 : decode prog_5_method_22_code 112 = .ok (.iload_n 2, 1) := by decide +kernel
theorem dUC_passDeals_113 : decode prog_5_method_22_code 113 = .ok (.dup2, 1) := by decide +kernel
theorem dUC_passDeals_114 : decode prog_5_method_22_code 114 = .ok (.laload, 1) := by decide +kernel
theorem dUC_passDeals_115 : decode prog_5_method_22_code 115 = .ok (.lload 8, 2) := by decide +kernel
theorem dUC_passDeals_117 : decode prog_5_method_22_code 117 = .ok (.ladd, 1) := by decide +kernel
theorem dUC_passDeals_118 : decode prog_5_method_22_code 118 = .ok (.lastore, 1) := by decide +kernel
theorem dUC_passDeals_119 : decode prog_5_method_22_code 119 = .ok (.aload_n 0, 1) := by decide +kernel
theorem dUC_passDeals_120 : decode prog_5_method_22_code 120 = .ok (.getfield 31, 3) := by decide +kernel
theorem dUC_passDeals_123 : decode prog_5_method_22_code 123 = .ok (.iload_n 2, 1) := by decide +kernel
theorem dUC_passDeals_124 : decode prog_5_method_22_code 124 = .ok (.dup2, 1) := by decide +kernel
theorem dUC_passDeals_125 : decode prog_5_method_22_code 125 = .ok (.iaload, 1) := by decide +kernel
theorem dUC_passDeals_126 : decode prog_5_method_22_code 126 = .ok (.iload 5, 2) := by decide +kernel
theorem dUC_passDeals_128 : decode prog_5_method_22_code 128 = .ok (.iadd, 1) := by decide +kernel
theorem dUC_passDeals_129 : decode prog_5_method_22_code 129 = .ok (.iastore, 1) := by decide +kernel
theorem dUC_passDeals_130 : decode prog_5_method_22_code 130 = .ok (.aload_n 1, 1) := by decide +kernel
theorem dUC_passDeals_131 : decode prog_5_method_22_code 131 = .ok (.getfield 305, 3) := by decide +kernel
theorem dUC_passDeals_134 : decode prog_5_method_22_code 134 = .ok (.iload 4, 2) := by decide +kernel
theorem dUC_passDeals_136 : decode prog_5_method_22_code 136 = .ok (.iaload, 1) := by decide +kernel
theorem dUC_passDeals_137 : decode prog_5_method_22_code 137 = .ok (.bipush 20, 2) := by decide +kernel
theorem dUC_passDeals_139 : decode prog_5_method_22_code 139 = .ok (.isub, 1) := by decide +kernel
theorem dUC_passDeals_140 : decode prog_5_method_22_code 140 = .ok (.istore 10, 2) := by decide +kernel
theorem dUC_passDeals_142 : decode prog_5_method_22_code 142 = .ok (.iload 10, 2) := by decide +kernel
theorem dUC_passDeals_144 : decode prog_5_method_22_code 144 = .ok (.ifCond .lt 43, 3) := by decide +kernel
theorem dUC_passDeals_147 : decode prog_5_method_22_code 147 = .ok (.aload_n 0, 1) := by decide +kernel
theorem dUC_passDeals_148 : decode prog_5_method_22_code 148 = .ok (.getfield 9, 3) := by decide +kernel
theorem dUC_passDeals_151 : decode prog_5_method_22_code 151 = .ok (.iload 10, 2) := by decide +kernel
theorem dUC_passDeals_153 : decode prog_5_method_22_code 153 = .ok (.dup2, 1) := by decide +kernel
theorem dUC_passDeals_154 : decode prog_5_method_22_code 154 = .ok (.laload, 1) := by decide +kernel
theorem dUC_passDeals_155 : decode prog_5_method_22_code 155 = .ok (.lload 6, 2) := by decide +kernel
theorem dUC_passDeals_157 : decode prog_5_method_22_code 157 = .ok (.lsub, 1) := by decide +kernel
theorem dUC_passDeals_158 : decode prog_5_method_22_code 158 = .ok (.lastore, 1) := by decide +kernel
theorem dUC_passDeals_159 : decode prog_5_method_22_code 159 = .ok (.aload_n 0, 1) := by decide +kernel
theorem dUC_passDeals_160 : decode prog_5_method_22_code 160 = .ok (.getfield 15, 3) := by decide +kernel
theorem dUC_passDeals_163 : decode prog_5_method_22_code 163 = .ok (.iload 10, 2) := by decide +kernel
theorem dUC_passDeals_165 : decode prog_5_method_22_code 165 = .ok (.dup2, 1) := by decide +kernel
theorem dUC_passDeals_166 : decode prog_5_method_22_code 166 = .ok (.laload, 1) := by decide +kernel
theorem dUC_passDeals_167 : decode prog_5_method_22_code 167 = .ok (.lload 8, 2) := by decide +kernel
theorem dUC_passDeals_169 : decode prog_5_method_22_code 169 = .ok (.lsub, 1) := by decide +kernel
theorem dUC_passDeals_170 : decode prog_5_method_22_code 170 = .ok (.lastore, 1) := by decide +kernel
theorem dUC_passDeals_171 : decode prog_5_method_22_code 171 = .ok (.aload_n 0, 1) := by decide +kernel
theorem dUC_passDeals_172 : decode prog_5_method_22_code 172 = .ok (.getfield 28, 3) := by decide +kernel
theorem dUC_passDeals_175 : decode prog_5_method_22_code 175 = .ok (.iload 10, 2) := by decide +kernel
theorem dUC_passDeals_177 : decode prog_5_method_22_code 177 = .ok (.iconst 4, 1) := by decide +kernel
theorem dUC_passDeals_178 : decode prog_5_method_22_code 178 = .ok (.imul, 1) := by decide +kernel
theorem dUC_passDeals_179 : decode prog_5_method_22_code 179 = .ok (.iload_n 2, 1) := by decide +kernel
theorem dUC_passDeals_180 : decode prog_5_method_22_code 180 = .ok (.iadd, 1) := by decide +kernel
theorem dUC_passDeals_181 : decode prog_5_method_22_code 181 = .ok (.dup2, 1) := by decide +kernel
theorem dUC_passDeals_182 : decode prog_5_method_22_code 182 = .ok (.iaload, 1) := by decide +kernel
theorem dUC_passDeals_183 : decode prog_5_method_22_code 183 = .ok (.iload 5, 2) := by decide +kernel
theorem dUC_passDeals_185 : decode prog_5_method_22_code 185 = .ok (.iadd, 1) := by decide +kernel
theorem dUC_passDeals_186 : decode prog_5_method_22_code 186 = .ok (.iastore, 1) := by decide +kernel
theorem dUC_passDeals_187 : decode prog_5_method_22_code 187 = .ok (.iinc 3 1, 3) := by decide +kernel
theorem dUC_passDeals_190 : decode prog_5_method_22_code 190 = .ok (.goto (-185), 3) := by decide +kernel
theorem dUC_passDeals_193 : decode prog_5_method_22_code 193 = .ok (.return_, 1) := by decide +kernel
theorem dUC_passTrades_0 : decode prog_5_method_14_code 0 = .ok (.aload_n 1, 1) := by decide +kernel
theorem dUC_passTrades_1 : decode prog_5_method_14_code 1 = .ok (.getfield 243, 3) := by decide +kernel
theorem dUC_passTrades_4 : decode prog_5_method_14_code 4 = .ok (.astore 4, 2) := by decide +kernel
theorem dUC_passTrades_6 : decode prog_5_method_14_code 6 = .ok (.aload_n 0, 1) := by decide +kernel
theorem dUC_passTrades_7 : decode prog_5_method_14_code 7 = .ok (.getfield 157, 3) := by decide +kernel
theorem dUC_passTrades_10 : decode prog_5_method_14_code 10 = .ok (.aload 4, 2) := by decide +kernel
theorem dUC_passTrades_12 : decode prog_5_method_14_code 12 = .ok (.getfield 207, 3) := by decide +kernel
theorem dUC_passTrades_15 : decode prog_5_method_14_code 15 = .ok (.if_icmp .ge 146, 3) := by decide +kernel
theorem dUC_passTrades_18 : decode prog_5_method_14_code 18 = .ok (.aload 4, 2) := by decide +kernel
theorem dUC_passTrades_20 : decode prog_5_method_14_code 20 = .ok (.getfield 212, 3) := by decide +kernel
theorem dUC_passTrades_23 : decode prog_5_method_14_code 23 = .ok (.aload 4, 2) := by decide +kernel
theorem dUC_passTrades_25 : decode prog_5_method_14_code 25 = .ok (.getfield 215, 3) := by decide +kernel
theorem dUC_passTrades_28 : decode prog_5_method_14_code 28 = .ok (.aload_n 0, 1) := by decide +kernel
theorem dUC_passTrades_29 : decode prog_5_method_14_code 29 = .ok (.getfield 157, 3) := by decide +kernel
theorem dUC_passTrades_32 : decode prog_5_method_14_code 32 = .ok (.iaload, 1) := by decide +kernel
theorem dUC_passTrades_33 : decode prog_5_method_14_code 33 = .ok (.iaload, 1) := by decide +kernel
theorem dUC_passTrades_34 : decode prog_5_method_14_code 34 = .ok (.iload_n 2, 1) := by decide +kernel
theorem dUC_passTrades_35 : decode prog_5_method_14_code 35 = .ok (.if_icmp .ne 126, 3) := by decide +kernel
theorem dUC_passTrades_38 : decode prog_5_method_14_code 38 = .ok (.aload 4, 2) := by decide +kernel
theorem dUC_passTrades_40 : decode prog_5_method_14_code 40 = .ok (.getfield 215, 3) := by decide +kernel
theorem dUC_passTrades_43 : decode prog_5_method_14_code 43 = .ok (.aload_n 0, 1) := by decide +kernel
theorem dUC_passTrades_44 : decode prog_5_method_14_code 44 = .ok (.getfield 157, 3) := by decide +kernel
theorem dUC_passTrades_47 : decode prog_5_method_14_code 47 = .ok (.iaload, 1) := by decide +kernel
theorem dUC_passTrades_48 : decode prog_5_method_14_code 48 = .ok (.istore 5, 2) := by decide +kernel
theorem dUC_passTrades_50 : decode prog_5_method_14_code 50 = .ok (.aload_n 1, 1) := by decide +kernel
theorem dUC_passTrades_51 : decode prog_5_method_14_code 51 = .ok (.getfield 246, 3) := by decide +kernel
theorem dUC_passTrades_54 : decode prog_5_method_14_code 54 = .ok (.iload 5, 2) := by decide +kernel
theorem dUC_passTrades_56 : decode prog_5_method_14_code 56 = .ok (.iaload, 1) := by decide +kernel
theorem dUC_passTrades_57 : decode prog_5_method_14_code 57 = .ok (.iload_n 3, 1) := by decide +kernel
theorem dUC_passTrades_58 : decode prog_5_method_14_code 58 = .ok (.if_icmp .gt 90, 3) := by decide +kernel
theorem dUC_passTrades_61 : decode prog_5_method_14_code 61 = .ok (.aload_n 1, 1) := by decide +kernel
theorem dUC_passTrades_62 : decode prog_5_method_14_code 62 = .ok (.getfield 247, 3) := by decide +kernel
theorem dUC_passTrades_65 : decode prog_5_method_14_code 65 = .ok (.iload 5, 2) := by decide +kernel
theorem dUC_passTrades_67 : decode prog_5_method_14_code 67 = .ok (.iaload, 1) := by decide +kernel
theorem dUC_passTrades_68 : decode prog_5_method_14_code 68 = .ok (.istore 6, 2) := by decide +kernel
theorem dUC_passTrades_70 : decode prog_5_method_14_code 70 = .ok (.iload 6, 2) := by decide +kernel
theorem dUC_passTrades_72 : decode prog_5_method_14_code 72 = .ok (.bipush 8, 2) := by decide +kernel
theorem dUC_passTrades_74 : decode prog_5_method_14_code 74 = .ok (.imul, 1) := by decide +kernel
theorem dUC_passTrades_75 : decode prog_5_method_14_code 75 = .ok (.aload_n 1, 1) := by decide +kernel
theorem dUC_passTrades_76 : decode prog_5_method_14_code 76 = .ok (.getfield 250, 3) := by decide +kernel
theorem dUC_passTrades_79 : decode prog_5_method_14_code 79 = .ok (.iload 5, 2) := by decide +kernel
theorem dUC_passTrades_81 : decode prog_5_method_14_code 81 = .ok (.iaload, 1) := by decide +kernel
theorem dUC_passTrades_82 : decode prog_5_method_14_code 82 = .ok (.iadd, 1) := by decide +kernel
theorem dUC_passTrades_83 : decode prog_5_method_14_code 83 = .ok (.istore 7, 2) := by decide +kernel
theorem dUC_passTrades_85 : decode prog_5_method_14_code 85 = .ok (.aload_n 0, 1) := by decide +kernel
theorem dUC_passTrades_86 : decode prog_5_method_14_code 86 = .ok (.getfield 25, 3) := by decide +kernel
theorem dUC_passTrades_89 : decode prog_5_method_14_code 89 = .ok (.iload 7, 2) := by decide +kernel
theorem dUC_passTrades_91 : decode prog_5_method_14_code 91 = .ok (.aload_n 0, 1) := by decide +kernel
theorem dUC_passTrades_92 : decode prog_5_method_14_code 92 = .ok (.getfield 25, 3) := by decide +kernel
theorem dUC_passTrades_95 : decode prog_5_method_14_code 95 = .ok (.iload 7, 2) := by decide +kernel
theorem dUC_passTrades_97 : decode prog_5_method_14_code 97 = .ok (.iaload, 1) := by decide +kernel
theorem dUC_passTrades_98 : decode prog_5_method_14_code 98 = .ok (.i2l, 1) := by decide +kernel
theorem dUC_passTrades_99 : decode prog_5_method_14_code 99 = .ok (.aload_n 1, 1) := by decide +kernel
theorem dUC_passTrades_100 : decode prog_5_method_14_code 100 = .ok (.getfield 253, 3) := by decide +kernel
theorem dUC_passTrades_103 : decode prog_5_method_14_code 103 = .ok (.iload 5, 2) := by decide +kernel
theorem dUC_passTrades_105 : decode prog_5_method_14_code 105 = .ok (.iaload, 1) := by decide +kernel
theorem dUC_passTrades_106 : decode prog_5_method_14_code 106 = .ok (.i2l, 1) := by decide +kernel
theorem dUC_passTrades_107 : decode prog_5_method_14_code 107 = .ok (.ladd, 1) := by decide +kernel
theorem dUC_passTrades_108 : decode prog_5_method_14_code 108 = .ok (.invokestatic 236, 3) := by decide +kernel
theorem dUC_passTrades_111 : decode prog_5_method_14_code 111 = .ok (.iastore, 1) := by decide +kernel
theorem dUC_passTrades_112 : decode prog_5_method_14_code 112 = .ok (.aload_n 0, 1) := by decide +kernel
theorem dUC_passTrades_113 : decode prog_5_method_14_code 113 = .ok (.getfield 9, 3) := by decide +kernel
theorem dUC_passTrades_116 : decode prog_5_method_14_code 116 = .ok (.iload 6, 2) := by decide +kernel
theorem dUC_passTrades_118 : decode prog_5_method_14_code 118 = .ok (.dup2, 1) := by decide +kernel
theorem dUC_passTrades_119 : decode prog_5_method_14_code 119 = .ok (.laload, 1) := by decide +kernel
theorem dUC_passTrades_120 : decode prog_5_method_14_code 120 = .ok (.aload_n 1, 1) := by decide +kernel
theorem dUC_passTrades_121 : decode prog_5_method_14_code 121 = .ok (.getfield 254, 3) := by decide +kernel
theorem dUC_passTrades_124 : decode prog_5_method_14_code 124 = .ok (.iload 5, 2) := by decide +kernel
theorem dUC_passTrades_126 : decode prog_5_method_14_code 126 = .ok (.iaload, 1) := by decide +kernel
theorem dUC_passTrades_127 : decode prog_5_method_14_code 127 = .ok (.i2l, 1) := by decide +kernel
theorem dUC_passTrades_128 : decode prog_5_method_14_code 128 = .ok (.ladd, 1) := by decide +kernel
theorem dUC_passTrades_129 : decode prog_5_method_14_code 129 = .ok (.lastore, 1) := by decide +kernel
theorem dUC_passTrades_130 : decode prog_5_method_14_code 130 = .ok (.aload_n 0, 1) := by decide +kernel
theorem dUC_passTrades_131 : decode prog_5_method_14_code 131 = .ok (.getfield 15, 3) := by decide +kernel
theorem dUC_passTrades_134 : decode prog_5_method_14_code 134 = .ok (.iload 6, 2) := by decide +kernel
theorem dUC_passTrades_136 : decode prog_5_method_14_code 136 = .ok (.dup2, 1) := by decide +kernel
theorem dUC_passTrades_137 : decode prog_5_method_14_code 137 = .ok (.laload, 1) := by decide +kernel
theorem dUC_passTrades_138 : decode prog_5_method_14_code 138 = .ok (.aload_n 1, 1) := by decide +kernel
theorem dUC_passTrades_139 : decode prog_5_method_14_code 139 = .ok (.getfield 254, 3) := by decide +kernel
theorem dUC_passTrades_142 : decode prog_5_method_14_code 142 = .ok (.iload 5, 2) := by decide +kernel
theorem dUC_passTrades_144 : decode prog_5_method_14_code 144 = .ok (.iaload, 1) := by decide +kernel
theorem dUC_passTrades_145 : decode prog_5_method_14_code 145 = .ok (.i2l, 1) := by decide +kernel
theorem dUC_passTrades_146 : decode prog_5_method_14_code 146 = .ok (.ladd, 1) := by decide +kernel
theorem dUC_passTrades_147 : decode prog_5_method_14_code 147 = .ok (.lastore, 1) := by decide +kernel
theorem dUC_passTrades_148 : decode prog_5_method_14_code 148 = .ok (.aload_n 0, 1) := by decide +kernel
theorem dUC_passTrades_149 : decode prog_5_method_14_code 149 = .ok (.dup, 1) := by decide +kernel
theorem dUC_passTrades_150 : decode prog_5_method_14_code 150 = .ok (.getfield 157, 3) := by decide +kernel
theorem dUC_passTrades_153 : decode prog_5_method_14_code 153 = .ok (.iconst 1, 1) := by decide +kernel
theorem dUC_passTrades_154 : decode prog_5_method_14_code 154 = .ok (.iadd, 1) := by decide +kernel
theorem dUC_passTrades_155 : decode prog_5_method_14_code 155 = .ok (.putfield 157, 3) := by decide +kernel
theorem dUC_passTrades_158 : decode prog_5_method_14_code 158 = .ok (.goto (-152), 3) := by decide +kernel
theorem dUC_passTrades_161 : decode prog_5_method_14_code 161 = .ok (.return_, 1) := by decide +kernel
theorem dUC_payDividends_0 : decode prog_5_method_13_code 0 = .ok (.iconst 0, 1) := by decide +kernel
theorem dUC_payDividends_1 : decode prog_5_method_13_code 1 = .ok (.istore_n 2, 1) := by decide +kernel
theorem dUC_payDividends_2 : decode prog_5_method_13_code 2 = .ok (.iload_n 2, 1) := by decide +kernel
theorem dUC_payDividends_3 : decode prog_5_method_13_code 3 = .ok (.aload_n 1, 1) := by decide +kernel
theorem dUC_payDividends_4 : decode prog_5_method_13_code 4 = .ok (.getfield 94, 3) := by decide +kernel
theorem dUC_payDividends_7 : decode prog_5_method_13_code 7 = .ok (.if_icmp .ge 88, 3) := by decide +kernel
theorem dUC_payDividends_10 : decode prog_5_method_13_code 10 = .ok (.iconst 0, 1) := by decide +kernel
theorem dUC_payDividends_11 : decode prog_5_method_13_code 11 = .ok (.istore_n 3, 1) := by decide +kernel
theorem dUC_payDividends_12 : decode prog_5_method_13_code 12 = .ok (.iload_n 3, 1) := by decide +kernel
theorem dUC_payDividends_13 : decode prog_5_method_13_code 13 = .ok (.bipush 8, 2) := by decide +kernel
theorem dUC_payDividends_15 : decode prog_5_method_13_code 15 = .ok (.if_icmp .ge 74, 3) := by decide +kernel
theorem dUC_payDividends_18 : decode prog_5_method_13_code 18 = .ok (.aload_n 0, 1) := by decide +kernel
theorem dUC_payDividends_19 : decode prog_5_method_13_code 19 = .ok (.getfield 40, 3) := by decide +kernel
theorem dUC_payDividends_22 : decode prog_5_method_13_code 22 = .ok (.iload_n 3, 1) := by decide +kernel
theorem dUC_payDividends_23 : decode prog_5_method_13_code 23 = .ok (.iaload, 1) := by decide +kernel
theorem dUC_payDividends_24 : decode prog_5_method_13_code 24 = .ok (.i2l, 1) := by decide +kernel
theorem dUC_payDividends_25 : decode prog_5_method_13_code 25 = .ok (.aload_n 0, 1) := by decide +kernel
theorem dUC_payDividends_26 : decode prog_5_method_13_code 26 = .ok (.getfield 37, 3) := by decide +kernel
theorem dUC_payDividends_29 : decode prog_5_method_13_code 29 = .ok (.aload_n 1, 1) := by decide +kernel
theorem dUC_payDividends_30 : decode prog_5_method_13_code 30 = .ok (.getfield 240, 3) := by decide +kernel
theorem dUC_payDividends_33 : decode prog_5_method_13_code 33 = .ok (.iload_n 3, 1) := by decide +kernel
theorem dUC_payDividends_34 : decode prog_5_method_13_code 34 = .ok (.iaload, 1) := by decide +kernel
theorem dUC_payDividends_35 : decode prog_5_method_13_code 35 = .ok (.iaload, 1) := by decide +kernel
theorem dUC_payDividends_36 : decode prog_5_method_13_code 36 = .ok (.i2l, 1) := by decide +kernel
theorem dUC_payDividends_37 : decode prog_5_method_13_code 37 = .ok (.lmul, 1) := by decide +kernel
theorem dUC_payDividends_38 : decode prog_5_method_13_code 38 = .ok (.lstore 4, 2) := by decide +kernel
theorem dUC_payDividends_40 : decode prog_5_method_13_code 40 = .ok (.aload_n 0, 1) := by decide +kernel
theorem dUC_payDividends_41 : decode prog_5_method_13_code 41 = .ok (.getfield 25, 3) := by decide +kernel
theorem dUC_payDividends_44 : decode prog_5_method_13_code 44 = .ok (.iload_n 2, 1) := by decide +kernel
theorem dUC_payDividends_45 : decode prog_5_method_13_code 45 = .ok (.bipush 8, 2) := by decide +kernel
theorem dUC_payDividends_47 : decode prog_5_method_13_code 47 = .ok (.imul, 1) := by decide +kernel
theorem dUC_payDividends_48 : decode prog_5_method_13_code 48 = .ok (.iload_n 3, 1) := by decide +kernel
theorem dUC_payDividends_49 : decode prog_5_method_13_code 49 = .ok (.iadd, 1) := by decide +kernel
theorem dUC_payDividends_50 : decode prog_5_method_13_code 50 = .ok (.iaload, 1) := by decide +kernel
theorem dUC_payDividends_51 : decode prog_5_method_13_code 51 = .ok (.i2l, 1) := by decide +kernel
theorem dUC_payDividends_52 : decode prog_5_method_13_code 52 = .ok (.lload 4, 2) := by decide +kernel
theorem dUC_payDividends_54 : decode prog_5_method_13_code 54 = .ok (.lmul, 1) := by decide +kernel
theorem dUC_payDividends_55 : decode prog_5_method_13_code 55 = .ok (.ldc2_w 234, 3) := by decide +kernel
theorem dUC_payDividends_58 : decode prog_5_method_13_code 58 = .ok (.ldiv, 1) := by decide +kernel
theorem dUC_payDividends_59 : decode prog_5_method_13_code 59 = .ok (.lstore 6, 2) := by decide +kernel
theorem dUC_payDividends_61 : decode prog_5_method_13_code 61 = .ok (.aload_n 0, 1) := by decide +kernel
theorem dUC_payDividends_62 : decode prog_5_method_13_code 62 = .ok (.getfield 9, 3) := by decide +kernel
theorem dUC_payDividends_65 : decode prog_5_method_13_code 65 = .ok (.iload_n 2, 1) := by decide +kernel
theorem dUC_payDividends_66 : decode prog_5_method_13_code 66 = .ok (.dup2, 1) := by decide +kernel
theorem dUC_payDividends_67 : decode prog_5_method_13_code 67 = .ok (.laload, 1) := by decide +kernel
theorem dUC_payDividends_68 : decode prog_5_method_13_code 68 = .ok (.lload 6, 2) := by decide +kernel
theorem dUC_payDividends_70 : decode prog_5_method_13_code 70 = .ok (.ladd, 1) := by decide +kernel
theorem dUC_payDividends_71 : decode prog_5_method_13_code 71 = .ok (.lastore, 1) := by decide +kernel
theorem dUC_payDividends_72 : decode prog_5_method_13_code 72 = .ok (.aload_n 0, 1) := by decide +kernel
theorem dUC_payDividends_73 : decode prog_5_method_13_code 73 = .ok (.getfield 15, 3) := by decide +kernel
theorem dUC_payDividends_76 : decode prog_5_method_13_code 76 = .ok (.iload_n 2, 1) := by decide +kernel
theorem dUC_payDividends_77 : decode prog_5_method_13_code 77 = .ok (.dup2, 1) := by decide +kernel
theorem dUC_payDividends_78 : decode prog_5_method_13_code 78 = .ok (.laload, 1) := by decide +kernel
theorem dUC_payDividends_79 : decode prog_5_method_13_code 79 = .ok (.lload 6, 2) := by decide +kernel
theorem dUC_payDividends_81 : decode prog_5_method_13_code 81 = .ok (.ladd, 1) := by decide +kernel
theorem dUC_payDividends_82 : decode prog_5_method_13_code 82 = .ok (.lastore, 1) := by decide +kernel
theorem dUC_payDividends_83 : decode prog_5_method_13_code 83 = .ok (.iinc 3 1, 3) := by decide +kernel
theorem dUC_payDividends_86 : decode prog_5_method_13_code 86 = .ok (.goto (-74), 3) := by decide +kernel
theorem dUC_payDividends_89 : decode prog_5_method_13_code 89 = .ok (.iinc 2 1, 3) := by decide +kernel
theorem dUC_payDividends_92 : decode prog_5_method_13_code 92 = .ok (.goto (-90), 3) := by decide +kernel
theorem dUC_payDividends_95 : decode prog_5_method_13_code 95 = .ok (.return_, 1) := by decide +kernel
theorem dUC_splitPieces_0 : decode prog_5_method_12_code 0 = .ok (.iconst 0, 1) := by decide +kernel
theorem dUC_splitPieces_1 : decode prog_5_method_12_code 1 = .ok (.istore_n 2, 1) := by decide +kernel
theorem dUC_splitPieces_2 : decode prog_5_method_12_code 2 = .ok (.iload_n 2, 1) := by decide +kernel
theorem dUC_splitPieces_3 : decode prog_5_method_12_code 3 = .ok (.iload_n 1, 1) := by decide +kernel
theorem dUC_splitPieces_4 : decode prog_5_method_12_code 4 = .ok (.if_icmp .ge 61, 3) := by decide +kernel
theorem dUC_splitPieces_7 : decode prog_5_method_12_code 7 = .ok (.iconst 0, 1) := by decide +kernel
theorem dUC_splitPieces_8 : decode prog_5_method_12_code 8 = .ok (.istore_n 3, 1) := by decide +kernel
theorem dUC_splitPieces_9 : decode prog_5_method_12_code 9 = .ok (.iload_n 3, 1) := by decide +kernel
theorem dUC_splitPieces_10 : decode prog_5_method_12_code 10 = .ok (.bipush 8, 2) := by decide +kernel
theorem dUC_splitPieces_12 : decode prog_5_method_12_code 12 = .ok (.if_icmp .ge 47, 3) := by decide +kernel
theorem dUC_splitPieces_15 : decode prog_5_method_12_code 15 = .ok (.iload_n 2, 1) := by decide +kernel
theorem dUC_splitPieces_16 : decode prog_5_method_12_code 16 = .ok (.bipush 8, 2) := by decide +kernel
theorem dUC_splitPieces_18 : decode prog_5_method_12_code 18 = .ok (.imul, 1) := by decide +kernel
theorem dUC_splitPieces_19 : decode prog_5_method_12_code 19 = .ok (.iload_n 3, 1) := by decide +kernel
theorem dUC_splitPieces_20 : decode prog_5_method_12_code 20 = .ok (.iadd, 1) := by decide +kernel
theorem dUC_splitPieces_21 : decode prog_5_method_12_code 21 = .ok (.istore 4, 2) := by decide +kernel
theorem dUC_splitPieces_23 : decode prog_5_method_12_code 23 = .ok (.aload_n 0, 1) := by decide +kernel
theorem dUC_splitPieces_24 : decode prog_5_method_12_code 24 = .ok (.getfield 25, 3) := by decide +kernel
theorem dUC_splitPieces_27 : decode prog_5_method_12_code 27 = .ok (.iload 4, 2) := by decide +kernel
theorem dUC_splitPieces_29 : decode prog_5_method_12_code 29 = .ok (.aload_n 0, 1) := by decide +kernel
theorem dUC_splitPieces_30 : decode prog_5_method_12_code 30 = .ok (.getfield 25, 3) := by decide +kernel
theorem dUC_splitPieces_33 : decode prog_5_method_12_code 33 = .ok (.iload 4, 2) := by decide +kernel
theorem dUC_splitPieces_35 : decode prog_5_method_12_code 35 = .ok (.iaload, 1) := by decide +kernel
theorem dUC_splitPieces_36 : decode prog_5_method_12_code 36 = .ok (.i2l, 1) := by decide +kernel
theorem dUC_splitPieces_37 : decode prog_5_method_12_code 37 = .ok (.aload_n 0, 1) := by decide +kernel
theorem dUC_splitPieces_38 : decode prog_5_method_12_code 38 = .ok (.getfield 43, 3) := by decide +kernel
theorem dUC_splitPieces_41 : decode prog_5_method_12_code 41 = .ok (.iload_n 3, 1) := by decide +kernel
theorem dUC_splitPieces_42 : decode prog_5_method_12_code 42 = .ok (.iaload, 1) := by decide +kernel
theorem dUC_splitPieces_43 : decode prog_5_method_12_code 43 = .ok (.i2l, 1) := by decide +kernel
theorem dUC_splitPieces_44 : decode prog_5_method_12_code 44 = .ok (.lmul, 1) := by decide +kernel
theorem dUC_splitPieces_45 : decode prog_5_method_12_code 45 = .ok (.ldc2_w 234, 3) := by decide +kernel
theorem dUC_splitPieces_48 : decode prog_5_method_12_code 48 = .ok (.ldiv, 1) := by decide +kernel
theorem dUC_splitPieces_49 : decode prog_5_method_12_code 49 = .ok (.invokestatic 236, 3) := by decide +kernel
theorem dUC_splitPieces_52 : decode prog_5_method_12_code 52 = .ok (.iastore, 1) := by decide +kernel
theorem dUC_splitPieces_53 : decode prog_5_method_12_code 53 = .ok (.iinc 3 1, 3) := by decide +kernel
theorem dUC_splitPieces_56 : decode prog_5_method_12_code 56 = .ok (.goto (-47), 3) := by decide +kernel
theorem dUC_splitPieces_59 : decode prog_5_method_12_code 59 = .ok (.iinc 2 1, 3) := by decide +kernel
theorem dUC_splitPieces_62 : decode prog_5_method_12_code 62 = .ok (.goto (-60), 3) := by decide +kernel
theorem dUC_splitPieces_65 : decode prog_5_method_12_code 65 = .ok (.return_, 1) := by decide +kernel
theorem dUC_start_0 : decode prog_5_method_6_code 0 = .ok (.aload_n 1, 1) := by decide +kernel
theorem dUC_start_1 : decode prog_5_method_6_code 1 = .ok (.getfield 132, 3) := by decide +kernel
theorem dUC_start_4 : decode prog_5_method_6_code 4 = .ok (.iconst 0, 1) := by decide +kernel
theorem dUC_start_5 : decode prog_5_method_6_code 5 = .ok (.aload_n 0, 1) := by decide +kernel
theorem dUC_start_6 : decode prog_5_method_6_code 6 = .ok (.getfield 9, 3) := by decide +kernel
theorem dUC_start_9 : decode prog_5_method_6_code 9 = .ok (.iconst 0, 1) := by decide +kernel
theorem dUC_start_10 : decode prog_5_method_6_code 10 = .ok (.iconst 4, 1) := by decide +kernel
theorem dUC_start_11 : decode prog_5_method_6_code 11 = .ok (.invokestatic 135, 3) := by decide +kernel
theorem dUC_start_14 : decode prog_5_method_6_code 14 = .ok (.aload_n 1, 1) := by decide +kernel
theorem dUC_start_15 : decode prog_5_method_6_code 15 = .ok (.getfield 132, 3) := by decide +kernel
theorem dUC_start_18 : decode prog_5_method_6_code 18 = .ok (.iconst 0, 1) := by decide +kernel
theorem dUC_start_19 : decode prog_5_method_6_code 19 = .ok (.aload_n 0, 1) := by decide +kernel
theorem dUC_start_20 : decode prog_5_method_6_code 20 = .ok (.getfield 15, 3) := by decide +kernel
theorem dUC_start_23 : decode prog_5_method_6_code 23 = .ok (.iconst 0, 1) := by decide +kernel
theorem dUC_start_24 : decode prog_5_method_6_code 24 = .ok (.iconst 4, 1) := by decide +kernel
theorem dUC_start_25 : decode prog_5_method_6_code 25 = .ok (.invokestatic 135, 3) := by decide +kernel
theorem dUC_start_28 : decode prog_5_method_6_code 28 = .ok (.aload_n 0, 1) := by decide +kernel
theorem dUC_start_29 : decode prog_5_method_6_code 29 = .ok (.getfield 25, 3) := by decide +kernel
theorem dUC_start_32 : decode prog_5_method_6_code 32 = .ok (.iconst 0, 1) := by decide +kernel
theorem dUC_start_33 : decode prog_5_method_6_code 33 = .ok (.invokestatic 141, 3) := by decide +kernel
theorem dUC_start_36 : decode prog_5_method_6_code 36 = .ok (.aload_n 0, 1) := by decide +kernel
theorem dUC_start_37 : decode prog_5_method_6_code 37 = .ok (.getfield 28, 3) := by decide +kernel
theorem dUC_start_40 : decode prog_5_method_6_code 40 = .ok (.iconst 0, 1) := by decide +kernel
theorem dUC_start_41 : decode prog_5_method_6_code 41 = .ok (.invokestatic 141, 3) := by decide +kernel
theorem dUC_start_44 : decode prog_5_method_6_code 44 = .ok (.aload_n 0, 1) := by decide +kernel
theorem dUC_start_45 : decode prog_5_method_6_code 45 = .ok (.getfield 31, 3) := by decide +kernel
theorem dUC_start_48 : decode prog_5_method_6_code 48 = .ok (.iconst 0, 1) := by decide +kernel
theorem dUC_start_49 : decode prog_5_method_6_code 49 = .ok (.invokestatic 141, 3) := by decide +kernel
theorem dUC_start_52 : decode prog_5_method_6_code 52 = .ok (.aload_n 0, 1) := by decide +kernel
theorem dUC_start_53 : decode prog_5_method_6_code 53 = .ok (.getfield 34, 3) := by decide +kernel
theorem dUC_start_56 : decode prog_5_method_6_code 56 = .ok (.iconst 0, 1) := by decide +kernel
theorem dUC_start_57 : decode prog_5_method_6_code 57 = .ok (.invokestatic 141, 3) := by decide +kernel
theorem dUC_start_60 : decode prog_5_method_6_code 60 = .ok (.aload_n 0, 1) := by decide +kernel
theorem dUC_start_61 : decode prog_5_method_6_code 61 = .ok (.getfield 37, 3) := by decide +kernel
theorem dUC_start_64 : decode prog_5_method_6_code 64 = .ok (.sipush 1000, 3) := by decide +kernel
theorem dUC_start_67 : decode prog_5_method_6_code 67 = .ok (.invokestatic 141, 3) := by decide +kernel
theorem dUC_start_70 : decode prog_5_method_6_code 70 = .ok (.aload_n 0, 1) := by decide +kernel
theorem dUC_start_71 : decode prog_5_method_6_code 71 = .ok (.iconst 1, 1) := by decide +kernel
theorem dUC_start_72 : decode prog_5_method_6_code 72 = .ok (.putfield 147, 3) := by decide +kernel
theorem dUC_start_75 : decode prog_5_method_6_code 75 = .ok (.aload_n 0, 1) := by decide +kernel
theorem dUC_start_76 : decode prog_5_method_6_code 76 = .ok (.iconst 1, 1) := by decide +kernel
theorem dUC_start_77 : decode prog_5_method_6_code 77 = .ok (.putfield 151, 3) := by decide +kernel
theorem dUC_start_80 : decode prog_5_method_6_code 80 = .ok (.aload_n 0, 1) := by decide +kernel
theorem dUC_start_81 : decode prog_5_method_6_code 81 = .ok (.iconst 0, 1) := by decide +kernel
theorem dUC_start_82 : decode prog_5_method_6_code 82 = .ok (.putfield 154, 3) := by decide +kernel
theorem dUC_start_85 : decode prog_5_method_6_code 85 = .ok (.aload_n 0, 1) := by decide +kernel
theorem dUC_start_86 : decode prog_5_method_6_code 86 = .ok (.iconst 0, 1) := by decide +kernel
theorem dUC_start_87 : decode prog_5_method_6_code 87 = .ok (.putfield 157, 3) := by decide +kernel
theorem dUC_start_90 : decode prog_5_method_6_code 90 = .ok (.aload_n 0, 1) := by decide +kernel
theorem dUC_start_91 : decode prog_5_method_6_code 91 = .ok (.iconst 0, 1) := by decide +kernel
theorem dUC_start_92 : decode prog_5_method_6_code 92 = .ok (.putfield 160, 3) := by decide +kernel
theorem dUC_start_95 : decode prog_5_method_6_code 95 = .ok (.aload_n 0, 1) := by decide +kernel
theorem dUC_start_96 : decode prog_5_method_6_code 96 = .ok (.iconst (-1), 1) := by decide +kernel
theorem dUC_start_97 : decode prog_5_method_6_code 97 = .ok (.putfield 46, 3) := by decide +kernel
theorem dUC_start_100 : decode prog_5_method_6_code 100 = .ok (.return_, 1) := by decide +kernel
theorem dUC_suspectOn_0 : decode prog_5_method_10_code 0 = .ok (.iconst 0, 1) := by decide +kernel
theorem dUC_suspectOn_1 : decode prog_5_method_10_code 1 = .ok (.istore 4, 2) := by decide +kernel
theorem dUC_suspectOn_3 : decode prog_5_method_10_code 3 = .ok (.iload 4, 2) := by decide +kernel
theorem dUC_suspectOn_5 : decode prog_5_method_10_code 5 = .ok (.aload_n 1, 1) := by decide +kernel
theorem dUC_suspectOn_6 : decode prog_5_method_10_code 6 = .ok (.getfield 204, 3) := by decide +kernel
theorem dUC_suspectOn_9 : decode prog_5_method_10_code 9 = .ok (.getfield 207, 3) := by decide +kernel
theorem dUC_suspectOn_12 : decode prog_5_method_10_code 12 = .ok (.if_icmp .ge 39, 3) := by decide +kernel
theorem dUC_suspectOn_15 : decode prog_5_method_10_code 15 = .ok (.iload_n 3, 1) := by decide +kernel
theorem dUC_suspectOn_16 : decode prog_5_method_10_code 16 = .ok (.iload 4, 2) := by decide +kernel
theorem dUC_suspectOn_18 : decode prog_5_method_10_code 18 = .ok (.ishr, 1) := by decide +kernel
theorem dUC_suspectOn_19 : decode prog_5_method_10_code 19 = .ok (.iconst 1, 1) := by decide +kernel
theorem dUC_suspectOn_20 : decode prog_5_method_10_code 20 = .ok (.iand, 1) := by decide +kernel
theorem dUC_suspectOn_21 : decode prog_5_method_10_code 21 = .ok (.ifCond .eq 24, 3) := by decide +kernel
theorem dUC_suspectOn_24 : decode prog_5_method_10_code 24 = .ok (.aload_n 1, 1) := by decide +kernel
theorem dUC_suspectOn_25 : decode prog_5_method_10_code 25 = .ok (.getfield 204, 3) := by decide +kernel
theorem dUC_suspectOn_28 : decode prog_5_method_10_code 28 = .ok (.getfield 212, 3) := by decide +kernel
theorem dUC_suspectOn_31 : decode prog_5_method_10_code 31 = .ok (.iload 4, 2) := by decide +kernel
theorem dUC_suspectOn_33 : decode prog_5_method_10_code 33 = .ok (.iaload, 1) := by decide +kernel
theorem dUC_suspectOn_34 : decode prog_5_method_10_code 34 = .ok (.iload_n 2, 1) := by decide +kernel
theorem dUC_suspectOn_35 : decode prog_5_method_10_code 35 = .ok (.if_icmp .ne 10, 3) := by decide +kernel
theorem dUC_suspectOn_38 : decode prog_5_method_10_code 38 = .ok (.aload_n 0, 1) := by decide +kernel
theorem dUC_suspectOn_39 : decode prog_5_method_10_code 39 = .ok (.aload_n 1, 1) := by decide +kernel
theorem dUC_suspectOn_40 : decode prog_5_method_10_code 40 = .ok (.iload 4, 2) := by decide +kernel
theorem dUC_suspectOn_42 : decode prog_5_method_10_code 42 = .ok (.invokevirtual 221, 3) := by decide +kernel
theorem dUC_suspectOn_45 : decode prog_5_method_10_code 45 = .ok (.iinc 4 1, 3) := by decide +kernel
theorem dUC_suspectOn_48 : decode prog_5_method_10_code 48 = .ok (.goto (-45), 3) := by decide +kernel
theorem dUC_suspectOn_51 : decode prog_5_method_10_code 51 = .ok (.return_, 1) := by decide +kernel
theorem dUC_walkTo_0 : decode prog_5_method_4_code 0 = .ok (.aload_n 0, 1) := by decide +kernel
theorem dUC_walkTo_1 : decode prog_5_method_4_code 1 = .ok (.getfield 46, 3) := by decide +kernel
theorem dUC_walkTo_4 : decode prog_5_method_4_code 4 = .ok (.iload_n 2, 1) := by decide +kernel
theorem dUC_walkTo_5 : decode prog_5_method_4_code 5 = .ok (.if_icmp .ne 15, 3) := by decide +kernel
theorem dUC_walkTo_8 : decode prog_5_method_4_code 8 = .ok (.aload_n 0, 1) := by decide +kernel
theorem dUC_walkTo_9 : decode prog_5_method_4_code 9 = .ok (.getfield 67, 3) := by decide +kernel
theorem dUC_walkTo_12 : decode prog_5_method_4_code 12 = .ok (.aload_n 1, 1) := by decide +kernel
theorem dUC_walkTo_13 : decode prog_5_method_4_code 13 = .ok (.getfield 70, 3) := by decide +kernel
theorem dUC_walkTo_16 : decode prog_5_method_4_code 16 = .ok (.if_icmp .ne 4, 3) := by decide +kernel
theorem dUC_walkTo_19 : decode prog_5_method_4_code 19 = .ok (.return_, 1) := by decide +kernel
theorem dUC_walkTo_20 : decode prog_5_method_4_code 20 = .ok (.aload_n 0, 1) := by decide +kernel
theorem dUC_walkTo_21 : decode prog_5_method_4_code 21 = .ok (.aload_n 1, 1) := by decide +kernel
theorem dUC_walkTo_22 : decode prog_5_method_4_code 22 = .ok (.invokevirtual 73, 3) := by decide +kernel
theorem dUC_walkTo_25 : decode prog_5_method_4_code 25 = .ok (.aload_n 1, 1) := by decide +kernel
theorem dUC_walkTo_26 : decode prog_5_method_4_code 26 = .ok (.iload_n 2, 1) := by decide +kernel
theorem dUC_walkTo_27 : decode prog_5_method_4_code 27 = .ok (.invokevirtual 77, 3) := by decide +kernel
theorem dUC_walkTo_30 : decode prog_5_method_4_code 30 = .ok (.istore_n 3, 1) := by decide +kernel
theorem dUC_walkTo_31 : decode prog_5_method_4_code 31 = .ok (.iconst 0, 1) := by decide +kernel
theorem dUC_walkTo_32 : decode prog_5_method_4_code 32 = .ok (.istore 4, 2) := by decide +kernel
theorem dUC_walkTo_34 : decode prog_5_method_4_code 34 = .ok (.iload 4, 2) := by decide +kernel
theorem dUC_walkTo_36 : decode prog_5_method_4_code 36 = .ok (.iload_n 3, 1) := by decide +kernel
theorem dUC_walkTo_37 : decode prog_5_method_4_code 37 = .ok (.if_icmp .gt 18, 3) := by decide +kernel
theorem dUC_walkTo_40 : decode prog_5_method_4_code 40 = .ok (.aload_n 0, 1) := by decide +kernel
theorem dUC_walkTo_41 : decode prog_5_method_4_code 41 = .ok (.aload_n 1, 1) := by decide +kernel
theorem dUC_walkTo_42 : decode prog_5_method_4_code 42 = .ok (.iload 4, 2) := by decide +kernel
theorem dUC_walkTo_44 : decode prog_5_method_4_code 44 = .ok (.iload_n 2, 1) := by decide +kernel
theorem dUC_walkTo_45 : decode prog_5_method_4_code 45 = .ok (.iconst 0, 1) := by decide +kernel
theorem dUC_walkTo_46 : decode prog_5_method_4_code 46 = .ok (.invokevirtual 80, 3) := by decide +kernel
theorem dUC_walkTo_49 : decode prog_5_method_4_code 49 = .ok (.iinc 4 1, 3) := by decide +kernel
theorem dUC_walkTo_52 : decode prog_5_method_4_code 52 = .ok (.goto (-18), 3) := by decide +kernel
theorem dUC_walkTo_55 : decode prog_5_method_4_code 55 = .ok (.aload_n 0, 1) := by decide +kernel
theorem dUC_walkTo_56 : decode prog_5_method_4_code 56 = .ok (.iload_n 2, 1) := by decide +kernel
theorem dUC_walkTo_57 : decode prog_5_method_4_code 57 = .ok (.putfield 46, 3) := by decide +kernel
theorem dUC_walkTo_60 : decode prog_5_method_4_code 60 = .ok (.aload_n 0, 1) := by decide +kernel
theorem dUC_walkTo_61 : decode prog_5_method_4_code 61 = .ok (.aload_n 1, 1) := by decide +kernel
theorem dUC_walkTo_62 : decode prog_5_method_4_code 62 = .ok (.getfield 70, 3) := by decide +kernel
theorem dUC_walkTo_65 : decode prog_5_method_4_code 65 = .ok (.putfield 67, 3) := by decide +kernel
theorem dUC_walkTo_68 : decode prog_5_method_4_code 68 = .ok (.return_, 1) := by decide +kernel
theorem dUD_add_0 : decode prog_6_method_2_code 0 = .ok (.aload_n 0, 1) := by decide +kernel
theorem dUD_add_1 : decode prog_6_method_2_code 1 = .ok (.getfield 16, 3) := by decide +kernel
theorem dUD_add_4 : decode prog_6_method_2_code 4 = .ok (.iload 4, 2) := by decide +kernel
theorem dUD_add_6 : decode prog_6_method_2_code 6 = .ok (.invokevirtual 46, 3) := by decide +kernel
theorem dUD_add_9 : decode prog_6_method_2_code 9 = .ok (.istore 5, 2) := by decide +kernel
theorem dUD_add_11 : decode prog_6_method_2_code 11 = .ok (.iload 5, 2) := by decide +kernel
theorem dUD_add_13 : decode prog_6_method_2_code 13 = .ok (.iconst (-1), 1) := by decide +kernel
theorem dUD_add_14 : decode prog_6_method_2_code 14 = .ok (.if_icmp .eq 27, 3) := by decide +kernel
theorem dUD_add_17 : decode prog_6_method_2_code 17 = .ok (.aload_n 0, 1) := by decide +kernel
theorem dUD_add_18 : decode prog_6_method_2_code 18 = .ok (.getfield 20, 3) := by decide +kernel
theorem dUD_add_21 : decode prog_6_method_2_code 21 = .ok (.iload 5, 2) := by decide +kernel
theorem dUD_add_23 : decode prog_6_method_2_code 23 = .ok (.iload_n 1, 1) := by decide +kernel
theorem dUD_add_24 : decode prog_6_method_2_code 24 = .ok (.iastore, 1) := by decide +kernel
theorem dUD_add_25 : decode prog_6_method_2_code 25 = .ok (.aload_n 0, 1) := by decide +kernel
theorem dUD_add_26 : decode prog_6_method_2_code 26 = .ok (.getfield 24, 3) := by decide +kernel
theorem dUD_add_29 : decode prog_6_method_2_code 29 = .ok (.iload 5, 2) := by decide +kernel
theorem dUD_add_31 : decode prog_6_method_2_code 31 = .ok (.iload_n 2, 1) := by decide +kernel
theorem dUD_add_32 : decode prog_6_method_2_code 32 = .ok (.iastore, 1) := by decide +kernel
theorem dUD_add_33 : decode prog_6_method_2_code 33 = .ok (.aload_n 0, 1) := by decide +kernel
theorem dUD_add_34 : decode prog_6_method_2_code 34 = .ok (.getfield 27, 3) := by decide +kernel
theorem dUD_add_37 : decode prog_6_method_2_code 37 = .ok (.iload 5, 2) := by decide +kernel
theorem dUD_add_39 : decode prog_6_method_2_code 39 = .ok (.iload_n 3, 1) := by decide +kernel
theorem dUD_add_40 : decode prog_6_method_2_code 40 = .ok (.iastore, 1) := by decide +kernel
theorem dUD_add_41 : decode prog_6_method_2_code 41 = .ok (.iload 5, 2) := by decide +kernel
theorem dUD_add_43 : decode prog_6_method_2_code 43 = .ok (.ireturn, 1) := by decide +kernel
theorem dUD_coinsOf_0 : decode prog_6_method_4_code 0 = .ok (.iload_n 0, 1) := by decide +kernel
theorem dUD_coinsOf_1 : decode prog_6_method_4_code 1 = .ok (.ifCond .le 19, 3) := by decide +kernel
theorem dUD_coinsOf_4 : decode prog_6_method_4_code 4 = .ok (.iload_n 0, 1) := by decide +kernel
theorem dUD_coinsOf_5 : decode prog_6_method_4_code 5 = .ok (.i2l, 1) := by decide +kernel
theorem dUD_coinsOf_6 : decode prog_6_method_4_code 6 = .ok (.iload_n 1, 1) := by decide +kernel
theorem dUD_coinsOf_7 : decode prog_6_method_4_code 7 = .ok (.i2l, 1) := by decide +kernel
theorem dUD_coinsOf_8 : decode prog_6_method_4_code 8 = .ok (.lmul, 1) := by decide +kernel
theorem dUD_coinsOf_9 : decode prog_6_method_4_code 9 = .ok (.ldc2_w 56, 3) := by decide +kernel
theorem dUD_coinsOf_12 : decode prog_6_method_4_code 12 = .ok (.ladd, 1) := by decide +kernel
theorem dUD_coinsOf_13 : decode prog_6_method_4_code 13 = .ok (.ldc2_w 58, 3) := by decide +kernel
theorem dUD_coinsOf_16 : decode prog_6_method_4_code 16 = .ok (.ldiv, 1) := by decide +kernel
theorem dUD_coinsOf_17 : decode prog_6_method_4_code 17 = .ok (.goto 13, 3) := by decide +kernel
theorem dUD_coinsOf_20 : decode prog_6_method_4_code 20 = .ok (.iload_n 0, 1) := by decide +kernel
theorem dUD_coinsOf_21 : decode prog_6_method_4_code 21 = .ok (.i2l, 1) := by decide +kernel
theorem dUD_coinsOf_22 : decode prog_6_method_4_code 22 = .ok (.lneg, 1) := by decide +kernel
theorem dUD_coinsOf_23 : decode prog_6_method_4_code 23 = .ok (.iload_n 1, 1) := by decide +kernel
theorem dUD_coinsOf_24 : decode prog_6_method_4_code 24 = .ok (.i2l, 1) := by decide +kernel
theorem dUD_coinsOf_25 : decode prog_6_method_4_code 25 = .ok (.lmul, 1) := by decide +kernel
theorem dUD_coinsOf_26 : decode prog_6_method_4_code 26 = .ok (.ldc2_w 58, 3) := by decide +kernel
theorem dUD_coinsOf_29 : decode prog_6_method_4_code 29 = .ok (.ldiv, 1) := by decide +kernel
theorem dUD_coinsOf_30 : decode prog_6_method_4_code 30 = .ok (.lreturn, 1) := by decide +kernel
theorem dUD_fill_0 : decode prog_6_method_3_code 0 = .ok (.aload_n 0, 1) := by decide +kernel
theorem dUD_fill_1 : decode prog_6_method_3_code 1 = .ok (.getfield 20, 3) := by decide +kernel
theorem dUD_fill_4 : decode prog_6_method_3_code 4 = .ok (.iload_n 1, 1) := by decide +kernel
theorem dUD_fill_5 : decode prog_6_method_3_code 5 = .ok (.iaload, 1) := by decide +kernel
theorem dUD_fill_6 : decode prog_6_method_3_code 6 = .ok (.iconst 4, 1) := by decide +kernel
theorem dUD_fill_7 : decode prog_6_method_3_code 7 = .ok (.imul, 1) := by decide +kernel
theorem dUD_fill_8 : decode prog_6_method_3_code 8 = .ok (.aload_n 0, 1) := by decide +kernel
theorem dUD_fill_9 : decode prog_6_method_3_code 9 = .ok (.getfield 24, 3) := by decide +kernel
theorem dUD_fill_12 : decode prog_6_method_3_code 12 = .ok (.iload_n 1, 1) := by decide +kernel
theorem dUD_fill_13 : decode prog_6_method_3_code 13 = .ok (.iaload, 1) := by decide +kernel
theorem dUD_fill_14 : decode prog_6_method_3_code 14 = .ok (.iadd, 1) := by decide +kernel
theorem dUD_fill_15 : decode prog_6_method_3_code 15 = .ok (.istore_n 2, 1) := by decide +kernel
theorem dUD_fill_16 : decode prog_6_method_3_code 16 = .ok (.aload_n 0, 1) := by decide +kernel
theorem dUD_fill_17 : decode prog_6_method_3_code 17 = .ok (.getfield 27, 3) := by decide +kernel
theorem dUD_fill_20 : decode prog_6_method_3_code 20 = .ok (.iload_n 1, 1) := by decide +kernel
theorem dUD_fill_21 : decode prog_6_method_3_code 21 = .ok (.iaload, 1) := by decide +kernel
theorem dUD_fill_22 : decode prog_6_method_3_code 22 = .ok (.aload_n 0, 1) := by decide +kernel
theorem dUD_fill_23 : decode prog_6_method_3_code 23 = .ok (.getfield 40, 3) := by decide +kernel
theorem dUD_fill_26 : decode prog_6_method_3_code 26 = .ok (.iload_n 2, 1) := by decide +kernel
theorem dUD_fill_27 : decode prog_6_method_3_code 27 = .ok (.iaload, 1) := by decide +kernel
theorem dUD_fill_28 : decode prog_6_method_3_code 28 = .ok (.ineg, 1) := by decide +kernel
theorem dUD_fill_29 : decode prog_6_method_3_code 29 = .ok (.invokestatic 50, 3) := by decide +kernel
theorem dUD_fill_32 : decode prog_6_method_3_code 32 = .ok (.istore_n 3, 1) := by decide +kernel
theorem dUD_fill_33 : decode prog_6_method_3_code 33 = .ok (.aload_n 0, 1) := by decide +kernel
theorem dUD_fill_34 : decode prog_6_method_3_code 34 = .ok (.getfield 30, 3) := by decide +kernel
theorem dUD_fill_37 : decode prog_6_method_3_code 37 = .ok (.iload_n 1, 1) := by decide +kernel
theorem dUD_fill_38 : decode prog_6_method_3_code 38 = .ok (.iload_n 3, 1) := by decide +kernel
theorem dUD_fill_39 : decode prog_6_method_3_code 39 = .ok (.iastore, 1) := by decide +kernel
theorem dUD_fill_40 : decode prog_6_method_3_code 40 = .ok (.aload_n 0, 1) := by decide +kernel
theorem dUD_fill_41 : decode prog_6_method_3_code 41 = .ok (.getfield 40, 3) := by decide +kernel
theorem dUD_fill_44 : decode prog_6_method_3_code 44 = .ok (.iload_n 2, 1) := by decide +kernel
theorem dUD_fill_45 : decode prog_6_method_3_code 45 = .ok (.dup2, 1) := by decide +kernel
theorem dUD_fill_46 : decode prog_6_method_3_code 46 = .ok (.iaload, 1) := by decide +kernel
theorem dUD_fill_47 : decode prog_6_method_3_code 47 = .ok (.iload_n 3, 1) := by decide +kernel
theorem dUD_fill_48 : decode prog_6_method_3_code 48 = .ok (.iadd, 1) := by decide +kernel
theorem dUD_fill_49 : decode prog_6_method_3_code 49 = .ok (.iastore, 1) := by decide +kernel
theorem dUD_fill_50 : decode prog_6_method_3_code 50 = .ok (.aload_n 0, 1) := by decide +kernel
theorem dUD_fill_51 : decode prog_6_method_3_code 51 = .ok (.getfield 43, 3) := by decide +kernel
theorem dUD_fill_54 : decode prog_6_method_3_code 54 = .ok (.aload_n 0, 1) := by decide +kernel
theorem dUD_fill_55 : decode prog_6_method_3_code 55 = .ok (.getfield 24, 3) := by decide +kernel
theorem dUD_fill_58 : decode prog_6_method_3_code 58 = .ok (.iload_n 1, 1) := by decide +kernel
theorem dUD_fill_59 : decode prog_6_method_3_code 59 = .ok (.iaload, 1) := by decide +kernel
theorem dUD_fill_60 : decode prog_6_method_3_code 60 = .ok (.dup2, 1) := by decide +kernel
theorem dUD_fill_61 : decode prog_6_method_3_code 61 = .ok (.iaload, 1) := by decide +kernel
theorem dUD_fill_62 : decode prog_6_method_3_code 62 = .ok (.iload_n 3, 1) := by decide +kernel
theorem dUD_fill_63 : decode prog_6_method_3_code 63 = .ok (.iadd, 1) := by decide +kernel
theorem dUD_fill_64 : decode prog_6_method_3_code 64 = .ok (.iastore, 1) := by decide +kernel
theorem dUD_fill_65 : decode prog_6_method_3_code 65 = .ok (.return_, 1) := by decide +kernel
theorem dUD_taxOf_0 : decode prog_6_method_5_code 0 = .ok (.aload_n 0, 1) := by decide +kernel
theorem dUD_taxOf_1 : decode prog_6_method_5_code 1 = .ok (.getfield 30, 3) := by decide +kernel
theorem dUD_taxOf_4 : decode prog_6_method_5_code 4 = .ok (.iload_n 2, 1) := by decide +kernel
theorem dUD_taxOf_5 : decode prog_6_method_5_code 5 = .ok (.iaload, 1) := by decide +kernel
theorem dUD_taxOf_6 : decode prog_6_method_5_code 6 = .ok (.ifCond .lt 5, 3) := by decide +kernel
theorem dUD_taxOf_9 : decode prog_6_method_5_code 9 = .ok (.lconst 0, 1) := by decide +kernel
theorem dUD_taxOf_10 : decode prog_6_method_5_code 10 = .ok (.lreturn, 1) := by decide +kernel
theorem dUD_taxOf_11 : decode prog_6_method_5_code 11 = .ok (.lconst 0, 1) := by decide +kernel
theorem dUD_taxOf_12 : decode prog_6_method_5_code 12 = .ok (.lstore 4, 2) := by decide +kernel
theorem dUD_taxOf_14 : decode prog_6_method_5_code 14 = .ok (.lconst 0, 1) := by decide +kernel
theorem dUD_taxOf_15 : decode prog_6_method_5_code 15 = .ok (.lstore 6, 2) := by decide +kernel
theorem dUD_taxOf_17 : decode prog_6_method_5_code 17 = .ok (.iconst 0, 1) := by decide +kernel
theorem dUD_taxOf_18 : decode prog_6_method_5_code 18 = .ok (.istore 8, 2) := by decide +kernel
theorem dUD_taxOf_20 : decode prog_6_method_5_code 20 = .ok (.iload 8, 2) := by decide +kernel
theorem dUD_taxOf_22 : decode prog_6_method_5_code 22 = .ok (.aload_n 0, 1) := by decide +kernel
theorem dUD_taxOf_23 : decode prog_6_method_5_code 23 = .ok (.getfield 16, 3) := by decide +kernel
theorem dUD_taxOf_26 : decode prog_6_method_5_code 26 = .ok (.getfield 60, 3) := by decide +kernel
theorem dUD_taxOf_29 : decode prog_6_method_5_code 29 = .ok (.if_icmp .ge 181, 3) := by decide +kernel
theorem dUD_taxOf_32 : decode prog_6_method_5_code 32 = .ok (.aload_n 0, 1) := by decide +kernel
theorem dUD_taxOf_33 : decode prog_6_method_5_code 33 = .ok (.getfield 16, 3) := by decide +kernel
theorem dUD_taxOf_36 : decode prog_6_method_5_code 36 = .ok (.getfield 64, 3) := by decide +kernel
theorem dUD_taxOf_39 : decode prog_6_method_5_code 39 = .ok (.iload 8, 2) := by decide +kernel
theorem dUD_taxOf_41 : decode prog_6_method_5_code 41 = .ok (.iaload, 1) := by decide +kernel
theorem dUD_taxOf_42 : decode prog_6_method_5_code 42 = .ok (.istore 9, 2) := by decide +kernel
theorem dUD_taxOf_44 : decode prog_6_method_5_code 44 = .ok (.aload_n 0, 1) := by decide +kernel
theorem dUD_taxOf_45 : decode prog_6_method_5_code 45 = .ok (.getfield 20, 3) := by decide +kernel
theorem dUD_taxOf_48 : decode prog_6_method_5_code 48 = .ok (.iload 9, 2) := by decide +kernel
theorem dUD_taxOf_50 : decode prog_6_method_5_code 50 = .ok (.iaload, 1) := by decide +kernel
theorem dUD_taxOf_51 : decode prog_6_method_5_code 51 = .ok (.aload_n 0, 1) := by decide +kernel
theorem dUD_taxOf_52 : decode prog_6_method_5_code 52 = .ok (.getfield 20, 3) := by decide +kernel
theorem dUD_taxOf_55 : decode prog_6_method_5_code 55 = .ok (.iload_n 2, 1) := by decide +kernel
theorem dUD_taxOf_56 : decode prog_6_method_5_code 56 = .ok (.iaload, 1) := by decide +kernel
theorem dUD_taxOf_57 : decode prog_6_method_5_code 57 = .ok (.if_icmp .ne 147, 3) := by decide +kernel
theorem dUD_taxOf_60 : decode prog_6_method_5_code 60 = .ok (.aload_n 0, 1) := by decide +kernel
theorem dUD_taxOf_61 : decode prog_6_method_5_code 61 = .ok (.getfield 24, 3) := by decide +kernel
theorem dUD_taxOf_64 : decode prog_6_method_5_code 64 = .ok (.iload 9, 2) := by decide +kernel
theorem dUD_taxOf_66 : decode prog_6_method_5_code 66 = .ok (.iaload, 1) := by decide +kernel
theorem dUD_taxOf_67 : decode prog_6_method_5_code 67 = .ok (.aload_n 0, 1) := by decide +kernel
theorem dUD_taxOf_68 : decode prog_6_method_5_code 68 = .ok (.getfield 24, 3) := by decide +kernel
theorem dUD_taxOf_71 : decode prog_6_method_5_code 71 = .ok (.iload_n 2, 1) := by decide +kernel
theorem dUD_taxOf_72 : decode prog_6_method_5_code 72 = .ok (.iaload, 1) := by decide +kernel
theorem dUD_taxOf_73 : decode prog_6_method_5_code 73 = .ok (.if_icmp .eq 6, 3) := by decide +kernel
theorem dUD_taxOf_76 : decode prog_6_method_5_code 76 = .ok (.goto 128, 3) := by decide +kernel
theorem dUD_taxOf_79 : decode prog_6_method_5_code 79 = .ok (.aload_n 0, 1) := by decide +kernel
theorem dUD_taxOf_80 : decode prog_6_method_5_code 80 = .ok (.getfield 30, 3) := by decide +kernel
theorem dUD_taxOf_83 : decode prog_6_method_5_code 83 = .ok (.iload 9, 2) := by decide +kernel
theorem dUD_taxOf_85 : decode prog_6_method_5_code 85 = .ok (.iaload, 1) := by decide +kernel
theorem dUD_taxOf_86 : decode prog_6_method_5_code 86 = .ok (.ifCond .le 12, 3) := by decide +kernel
theorem dUD_taxOf_89 : decode prog_6_method_5_code 89 = .ok (.lload 4, 2) := by decide +kernel
theorem dUD_taxOf_91 : decode prog_6_method_5_code 91 = .ok (.aload_n 3, 1) := by decide +kernel
theorem dUD_taxOf_92 : decode prog_6_method_5_code 92 = .ok (.iload 9, 2) := by decide +kernel
theorem dUD_taxOf_94 : decode prog_6_method_5_code 94 = .ok (.laload, 1) := by decide +kernel
theorem dUD_taxOf_95 : decode prog_6_method_5_code 95 = .ok (.ladd, 1) := by decide +kernel
theorem dUD_taxOf_96 : decode prog_6_method_5_code 96 = .ok (.lstore 4, 2) := by decide +kernel
theorem dUD_taxOf_98 : decode prog_6_method_5_code 98 = .ok (.aload_n 0, 1) := by decide +kernel
theorem dUD_taxOf_99 : decode prog_6_method_5_code 99 = .ok (.getfield 30, 3) := by decide +kernel
theorem dUD_taxOf_102 : decode prog_6_method_5_code 102 = .ok (.iload 9, 2) := by decide +kernel
theorem dUD_taxOf_104 : decode prog_6_method_5_code 104 = .ok (.iaload, 1) := by decide +kernel
theorem dUD_taxOf_105 : decode prog_6_method_5_code 105 = .ok (.ifCond .ge 28, 3) := by decide +kernel
theorem dUD_taxOf_108 : decode prog_6_method_5_code 108 = .ok (.lload 6, 2) := by decide +kernel
theorem dUD_taxOf_110 : decode prog_6_method_5_code 110 = .ok (.lconst 0, 1) := by decide +kernel
theorem dUD_taxOf_111 : decode prog_6_method_5_code 111 = .ok (.lcmp, 1) := by decide +kernel
theorem dUD_taxOf_112 : decode prog_6_method_5_code 112 = .ok (.ifCond .le 21, 3) := by decide +kernel
theorem dUD_taxOf_115 : decode prog_6_method_5_code 115 = .ok (.lload 4, 2) := by decide +kernel
theorem dUD_taxOf_117 : decode prog_6_method_5_code 117 = .ok (.aload_n 0, 1) := by decide +kernel
theorem dUD_taxOf_118 : decode prog_6_method_5_code 118 = .ok (.getfield 30, 3) := by decide +kernel
theorem dUD_taxOf_121 : decode prog_6_method_5_code 121 = .ok (.iload 9, 2) := by decide +kernel
theorem dUD_taxOf_123 : decode prog_6_method_5_code 123 = .ok (.iaload, 1) := by decide +kernel
theorem dUD_taxOf_124 : decode prog_6_method_5_code 124 = .ok (.ineg, 1) := by decide +kernel
theorem dUD_taxOf_125 : decode prog_6_method_5_code 125 = .ok (.i2l, 1) := by decide +kernel
theorem dUD_taxOf_126 : decode prog_6_method_5_code 126 = .ok (.lmul, 1) := by decide +kernel
theorem dUD_taxOf_127 : decode prog_6_method_5_code 127 = .ok (.lload 6, 2) := by decide +kernel
theorem dUD_taxOf_129 : decode prog_6_method_5_code 129 = .ok (.ldiv, 1) := by decide +kernel
theorem dUD_taxOf_130 : decode prog_6_method_5_code 130 = .ok (.goto 4, 3) := by decide +kernel
theorem dUD_taxOf_133 : decode prog_6_method_5_code 133 = .ok (.lconst 0, 1) := by decide +kernel
theorem dUD_taxOf_134 : decode prog_6_method_5_code 134 = .ok (.lstore 10, 2) := by decide +kernel
theorem dUD_taxOf_136 : decode prog_6_method_5_code 136 = .ok (.iload 9, 2) := by decide +kernel
theorem dUD_taxOf_138 : decode prog_6_method_5_code 138 = .ok (.iload_n 2, 1) := by decide +kernel
theorem dUD_taxOf_139 : decode prog_6_method_5_code 139 = .ok (.if_icmp .ne 45, 3) := by decide +kernel
theorem dUD_taxOf_142 : decode prog_6_method_5_code 142 = .ok (.lconst 0, 1) := by decide +kernel
theorem dUD_taxOf_143 : decode prog_6_method_5_code 143 = .ok (.aload_n 3, 1) := by decide +kernel
theorem dUD_taxOf_144 : decode prog_6_method_5_code 144 = .ok (.iload_n 2, 1) := by decide +kernel
theorem dUD_taxOf_145 : decode prog_6_method_5_code 145 = .ok (.laload, 1) := by decide +kernel
theorem dUD_taxOf_146 : decode prog_6_method_5_code 146 = .ok (.lload 10, 2) := by decide +kernel
theorem dUD_taxOf_148 : decode prog_6_method_5_code 148 = .ok (.lsub, 1) := by decide +kernel
theorem dUD_taxOf_149 : decode prog_6_method_5_code 149 = .ok (.invokestatic 67, 3) := by decide +kernel
theorem dUD_taxOf_152 : decode prog_6_method_5_code 152 = .ok (.lstore 12, 2) := by decide +kernel
theorem dUD_taxOf_154 : decode prog_6_method_5_code 154 = .ok (.lload 12, 2) := by decide +kernel
theorem dUD_taxOf_156 : decode prog_6_method_5_code 156 = .ok (.aload_n 1, 1) := by decide +kernel
theorem dUD_taxOf_157 : decode prog_6_method_5_code 157 = .ok (.aload_n 0, 1) := by decide +kernel
theorem dUD_taxOf_158 : decode prog_6_method_5_code 158 = .ok (.getfield 24, 3) := by decide +kernel
theorem dUD_taxOf_161 : decode prog_6_method_5_code 161 = .ok (.iload_n 2, 1) := by decide +kernel
theorem dUD_taxOf_162 : decode prog_6_method_5_code 162 = .ok (.iaload, 1) := by decide +kernel
theorem dUD_taxOf_163 : decode prog_6_method_5_code 163 = .ok (.aload_n 0, 1) := by decide +kernel
theorem dUD_taxOf_164 : decode prog_6_method_5_code 164 = .ok (.getfield 16, 3) := by decide +kernel
theorem dUD_taxOf_167 : decode prog_6_method_5_code 167 = .ok (.getfield 70, 3) := by decide +kernel
theorem dUD_taxOf_170 : decode prog_6_method_5_code 170 = .ok (.iload_n 2, 1) := by decide +kernel
theorem dUD_taxOf_171 : decode prog_6_method_5_code 171 = .ok (.iaload, 1) := by decide +kernel
theorem dUD_taxOf_172 : decode prog_6_method_5_code 172 = .ok (.bipush 10, 2) := by decide +kernel
theorem dUD_taxOf_174 : decode prog_6_method_5_code 174 = .ok (.invokevirtual 73, 3) := by decide +kernel
theorem dUD_taxOf_177 : decode prog_6_method_5_code 177 = .ok (.i2l, 1) := by decide +kernel
theorem dUD_taxOf_178 : decode prog_6_method_5_code 178 = .ok (.lmul, 1) := by decide +kernel
theorem dUD_taxOf_179 : decode prog_6_method_5_code 179 = .ok (.ldc2_w 58, 3) := by decide +kernel
theorem dUD_taxOf_182 : decode prog_6_method_5_code 182 = .ok (.ldiv, 1) := by decide +kernel
theorem dUD_taxOf_183 : decode prog_6_method_5_code 183 = .ok (.lreturn, 1) := by decide +kernel
theorem dUD_taxOf_184 : decode prog_6_method_5_code 184 = .ok (.lload 4, 2) := by decide +kernel
theorem dUD_taxOf_186 : decode prog_6_method_5_code 186 = .ok (.lload 10, 2) := by decide +kernel
theorem dUD_taxOf_188 : decode prog_6_method_5_code 188 = .ok (.lsub, 1) := by decide +kernel
theorem dUD_taxOf_189 : decode prog_6_method_5_code 189 = .ok (.lstore 4, 2) := by decide +kernel
theorem dUD_taxOf_191 : decode prog_6_method_5_code 191 = .ok (.lload 6, 2) := by decide +kernel
theorem dUD_taxOf_193 : decode prog_6_method_5_code 193 = .ok (.aload_n 0, 1) := by decide +kernel
theorem dUD_taxOf_194 : decode prog_6_method_5_code 194 = .ok (.getfield 30, 3) := by decide +kernel
theorem dUD_taxOf_197 : decode prog_6_method_5_code 197 = .ok (.iload 9, 2) := by decide +kernel
theorem dUD_taxOf_199 : decode prog_6_method_5_code 199 = .ok (.iaload, 1) := by decide +kernel
theorem dUD_taxOf_200 : decode prog_6_method_5_code 200 = .ok (.i2l, 1) := by decide +kernel
theorem dUD_taxOf_201 : decode prog_6_method_5_code 201 = .ok (.ladd, 1) := by decide +kernel
theorem dUD_taxOf_202 : decode prog_6_method_5_code 202 = .ok (.lstore 6, 2) := by decide +kernel
theorem dUD_taxOf_204 : decode prog_6_method_5_code 204 = .ok (.iinc 8 1, 3) := by decide +kernel
theorem dUD_taxOf_207 : decode prog_6_method_5_code 207 = .ok (.goto (-187), 3) := by decide +kernel
theorem dUD_taxOf_210 : decode prog_6_method_5_code 210 = .ok (.lconst 0, 1) := by decide +kernel
theorem dUD_taxOf_211 : decode prog_6_method_5_code 211 = .ok (.lreturn, 1) := by decide +kernel
theorem dUG_arrange_0 : decode prog_8_method_2_code 0 = .ok (.aload_n 0, 1) := by decide +kernel
theorem dUG_arrange_1 : decode prog_8_method_2_code 1 = .ok (.iconst 0, 1) := by decide +kernel
theorem dUG_arrange_2 : decode prog_8_method_2_code 2 = .ok (.putfield 34, 3) := by decide +kernel
theorem dUG_arrange_5 : decode prog_8_method_2_code 5 = .ok (.aload_n 0, 1) := by decide +kernel
theorem dUG_arrange_6 : decode prog_8_method_2_code 6 = .ok (.aload_n 1, 1) := by decide +kernel
theorem dUG_arrange_7 : decode prog_8_method_2_code 7 = .ok (.invokevirtual 38, 3) := by decide +kernel
theorem dUG_arrange_10 : decode prog_8_method_2_code 10 = .ok (.ifCond .ne 5, 3) := by decide +kernel
theorem dUG_arrange_13 : decode prog_8_method_2_code 13 = .ok (.iconst 0, 1) := by decide +kernel
theorem dUG_arrange_14 : decode prog_8_method_2_code 14 = .ok (.ireturn, 1) := by decide +kernel
theorem dUG_arrange_15 : decode prog_8_method_2_code 15 = .ok (.aload_n 0, 1) := by decide +kernel
theorem dUG_arrange_16 : decode prog_8_method_2_code 16 = .ok (.invokevirtual 42, 3) := by decide +kernel
theorem dUG_arrange_19 : decode prog_8_method_2_code 19 = .ok (.iconst 1, 1) := by decide +kernel
theorem dUG_arrange_20 : decode prog_8_method_2_code 20 = .ok (.aload_n 0, 1) := by decide +kernel
theorem dUG_arrange_21 : decode prog_8_method_2_code 21 = .ok (.getfield 45, 3) := by decide +kernel
theorem dUG_arrange_24 : decode prog_8_method_2_code 24 = .ok (.ishl, 1) := by decide +kernel
theorem dUG_arrange_25 : decode prog_8_method_2_code 25 = .ok (.iconst 1, 1) := by decide +kernel
theorem dUG_arrange_26 : decode prog_8_method_2_code 26 = .ok (.isub, 1) := by decide +kernel
theorem dUG_arrange_27 : decode prog_8_method_2_code 27 = .ok (.istore_n 2, 1) := by decide +kernel
theorem dUG_arrange_28 : decode prog_8_method_2_code 28 = .ok (.iconst 0, 1) := by decide +kernel
theorem dUG_arrange_29 : decode prog_8_method_2_code 29 = .ok (.istore_n 3, 1) := by decide +kernel
theorem dUG_arrange_30 : decode prog_8_method_2_code 30 = .ok (.iload_n 3, 1) := by decide +kernel
theorem dUG_arrange_31 : decode prog_8_method_2_code 31 = .ok (.bipush 10, 2) := by decide +kernel
theorem dUG_arrange_33 : decode prog_8_method_2_code 33 = .ok (.if_icmp .ge 33, 3) := by decide +kernel
theorem dUG_arrange_36 : decode prog_8_method_2_code 36 = .ok (.iload_n 2, 1) := by decide +kernel
theorem dUG_arrange_37 : decode prog_8_method_2_code 37 = .ok (.ifCond .eq 29, 3) := by decide +kernel
theorem dUG_arrange_40 : decode prog_8_method_2_code 40 = .ok (.aload_n 0, 1) := by decide +kernel
theorem dUG_arrange_41 : decode prog_8_method_2_code 41 = .ok (.iload_n 2, 1) := by decide +kernel
theorem dUG_arrange_42 : decode prog_8_method_2_code 42 = .ok (.invokevirtual 48, 3) := by decide +kernel
theorem dUG_arrange_45 : decode prog_8_method_2_code 45 = .ok (.istore 4, 2) := by decide +kernel
theorem dUG_arrange_47 : decode prog_8_method_2_code 47 = .ok (.aload_n 0, 1) := by decide +kernel
theorem dUG_arrange_48 : decode prog_8_method_2_code 48 = .ok (.iload 4, 2) := by decide +kernel
theorem dUG_arrange_50 : decode prog_8_method_2_code 50 = .ok (.invokevirtual 52, 3) := by decide +kernel
theorem dUG_arrange_53 : decode prog_8_method_2_code 53 = .ok (.iload_n 2, 1) := by decide +kernel
theorem dUG_arrange_54 : decode prog_8_method_2_code 54 = .ok (.iload 4, 2) := by decide +kernel
theorem dUG_arrange_56 : decode prog_8_method_2_code 56 = .ok (.iconst (-1), 1) := by decide +kernel
theorem dUG_arrange_57 : decode prog_8_method_2_code 57 = .ok (.ixor, 1) := by decide +kernel
theorem dUG_arrange_58 : decode prog_8_method_2_code 58 = .ok (.iand, 1) := by decide +kernel
theorem dUG_arrange_59 : decode prog_8_method_2_code 59 = .ok (.istore_n 2, 1) := by decide +kernel
theorem dUG_arrange_60 : decode prog_8_method_2_code 60 = .ok (.iinc 3 1, 3) := by decide +kernel
theorem dUG_arrange_63 : decode prog_8_method_2_code 63 = .ok (.goto (-33), 3) := by decide +kernel
theorem dUG_arrange_66 : decode prog_8_method_2_code 66 = .ok (.iconst 1, 1) := by decide +kernel
theorem dUG_arrange_67 : decode prog_8_method_2_code 67 = .ok (.ireturn, 1) := by decide +kernel
theorem dUG_countHeaps_0 : decode prog_8_method_4_code 0 = .ok (.aload_n 0, 1) := by decide +kernel
theorem dUG_countHeaps_1 : decode prog_8_method_4_code 1 = .ok (.getfield 28, 3) := by decide +kernel
theorem dUG_countHeaps_4 : decode prog_8_method_4_code 4 = .ok (.iconst 0, 1) := by decide +kernel
theorem dUG_countHeaps_5 : decode prog_8_method_4_code 5 = .ok (.lconst 0, 1) := by decide +kernel
theorem dUG_countHeaps_6 : decode prog_8_method_4_code 6 = .ok (.lastore, 1) := by decide +kernel
theorem dUG_countHeaps_7 : decode prog_8_method_4_code 7 = .ok (.aload_n 0, 1) := by decide +kernel
theorem dUG_countHeaps_8 : decode prog_8_method_4_code 8 = .ok (.getfield 31, 3) := by decide +kernel
theorem dUG_countHeaps_11 : decode prog_8_method_4_code 11 = .ok (.iconst 0, 1) := by decide +kernel
theorem dUG_countHeaps_12 : decode prog_8_method_4_code 12 = .ok (.iconst 0, 1) := by decide +kernel
theorem dUG_countHeaps_13 : decode prog_8_method_4_code 13 = .ok (.iastore, 1) := by decide +kernel
theorem dUG_countHeaps_14 : decode prog_8_method_4_code 14 = .ok (.iconst 1, 1) := by decide +kernel
theorem dUG_countHeaps_15 : decode prog_8_method_4_code 15 = .ok (.istore_n 1, 1) := by decide +kernel
theorem dUG_countHeaps_16 : decode prog_8_method_4_code 16 = .ok (.iload_n 1, 1) := by decide +kernel
theorem dUG_countHeaps_17 : decode prog_8_method_4_code 17 = .ok (.iconst 1, 1) := by decide +kernel
theorem dUG_countHeaps_18 : decode prog_8_method_4_code 18 = .ok (.aload_n 0, 1) := by decide +kernel
theorem dUG_countHeaps_19 : decode prog_8_method_4_code 19 = .ok (.getfield 45, 3) := by decide +kernel
theorem dUG_countHeaps_22 : decode prog_8_method_4_code 22 = .ok (.ishl, 1) := by decide +kernel
theorem dUG_countHeaps_23 : decode prog_8_method_4_code 23 = .ok (.if_icmp .ge 97, 3) := by decide +kernel
theorem dUG_countHeaps_26 : decode prog_8_method_4_code 26 = .ok (.iconst 0, 1) := by decide +kernel
theorem dUG_countHeaps_27 : decode prog_8_method_4_code 27 = .ok (.istore_n 2, 1) := by decide +kernel
theorem dUG_countHeaps_28 : decode prog_8_method_4_code 28 = .ok (.iconst 0, 1) := by decide +kernel
theorem dUG_countHeaps_29 : decode prog_8_method_4_code 29 = .ok (.istore_n 3, 1) := by decide +kernel
theorem dUG_countHeaps_30 : decode prog_8_method_4_code 30 = .ok (.iload_n 3, 1) := by decide +kernel
theorem dUG_countHeaps_31 : decode prog_8_method_4_code 31 = .ok (.aload_n 0, 1) := by decide +kernel
theorem dUG_countHeaps_32 : decode prog_8_method_4_code 32 = .ok (.getfield 45, 3) := by decide +kernel
theorem dUG_countHeaps_35 : decode prog_8_method_4_code 35 = .ok (.if_icmp .ge 55, 3) := by decide +kernel
theorem dUG_countHeaps_38 : decode prog_8_method_4_code 38 = .ok (.iload_n 1, 1) := by decide +kernel
theorem dUG_countHeaps_39 : decode prog_8_method_4_code 39 = .ok (.iload_n 3, 1) := by decide +kernel
theorem dUG_countHeaps_40 : decode prog_8_method_4_code 40 = .ok (.ishr, 1) := by decide +kernel
theorem dUG_countHeaps_41 : decode prog_8_method_4_code 41 = .ok (.iconst 1, 1) := by decide +kernel
theorem dUG_countHeaps_42 : decode prog_8_method_4_code 42 = .ok (.iand, 1) := by decide +kernel
theorem dUG_countHeaps_43 : decode prog_8_method_4_code 43 = .ok (.ifCond .eq 41, 3) := by decide +kernel
theorem dUG_countHeaps_46 : decode prog_8_method_4_code 46 = .ok (.iload_n 2, 1) := by decide +kernel
theorem dUG_countHeaps_47 : decode prog_8_method_4_code 47 = .ok (.aload_n 0, 1) := by decide +kernel
theorem dUG_countHeaps_48 : decode prog_8_method_4_code 48 = .ok (.getfield 31, 3) := by decide +kernel
theorem dUG_countHeaps_51 : decode prog_8_method_4_code 51 = .ok (.iload_n 1, 1) := by decide +kernel
theorem dUG_countHeaps_52 : decode prog_8_method_4_code 52 = .ok (.iconst 1, 1) := by decide +kernel
theorem dUG_countHeaps_53 : decode prog_8_method_4_code 53 = .ok (.iload_n 3, 1) := by decide +kernel
theorem dUG_countHeaps_54 : decode prog_8_method_4_code 54 = .ok (.ishl, 1) := by decide +kernel
theorem dUG_countHeaps_55 : decode prog_8_method_4_code 55 = .ok (.ixor, 1) := by decide +kernel
theorem dUG_countHeaps_56 : decode prog_8_method_4_code 56 = .ok (.iaload, 1) := by decide +kernel
theorem dUG_countHeaps_57 : decode prog_8_method_4_code 57 = .ok (.invokestatic 56, 3) := by decide +kernel
theorem dUG_countHeaps_60 : decode prog_8_method_4_code 60 = .ok (.istore_n 2, 1) := by decide +kernel
theorem dUG_countHeaps_61 : decode prog_8_method_4_code 61 = .ok (.aload_n 0, 1) := by decide +kernel
theorem dUG_countHeaps_62 : decode prog_8_method_4_code 62 = .ok (.getfield 28, 3) := by decide +kernel
theorem dUG_countHeaps_65 : decode prog_8_method_4_code 65 = .ok (.iload_n 1, 1) := by decide +kernel
theorem dUG_countHeaps_66 : decode prog_8_method_4_code 66 = .ok (.aload_n 0, 1) := by decide +kernel
theorem dUG_countHeaps_67 : decode prog_8_method_4_code 67 = .ok (.getfield 28, 3) := by decide +kernel
theorem dUG_countHeaps_70 : decode prog_8_method_4_code 70 = .ok (.iload_n 1, 1) := by decide +kernel
theorem dUG_countHeaps_71 : decode prog_8_method_4_code 71 = .ok (.iconst 1, 1) := by decide +kernel
theorem dUG_countHeaps_72 : decode prog_8_method_4_code 72 = .ok (.iload_n 3, 1) := by decide +kernel
theorem dUG_countHeaps_73 : decode prog_8_method_4_code 73 = .ok (.ishl, 1) := by decide +kernel
theorem dUG_countHeaps_74 : decode prog_8_method_4_code 74 = .ok (.ixor, 1) := by decide +kernel
theorem dUG_countHeaps_75 : decode prog_8_method_4_code 75 = .ok (.laload, 1) := by decide +kernel
theorem dUG_countHeaps_76 : decode prog_8_method_4_code 76 = .ok (.aload_n 0, 1) := by decide +kernel
theorem dUG_countHeaps_77 : decode prog_8_method_4_code 77 = .ok (.getfield 25, 3) := by decide +kernel
theorem dUG_countHeaps_80 : decode prog_8_method_4_code 80 = .ok (.iload_n 3, 1) := by decide +kernel
theorem dUG_countHeaps_81 : decode prog_8_method_4_code 81 = .ok (.laload, 1) := by decide +kernel
theorem dUG_countHeaps_82 : decode prog_8_method_4_code 82 = .ok (.ladd, 1) := by decide +kernel
theorem dUG_countHeaps_83 : decode prog_8_method_4_code 83 = .ok (.lastore, 1) := by decide +kernel
theorem dUG_countHeaps_84 : decode prog_8_method_4_code 84 = .ok (.iinc 3 1, 3) := by decide +kernel
theorem dUG_countHeaps_87 : decode prog_8_method_4_code 87 = .ok (.goto (-57), 3) := by decide +kernel
theorem dUG_countHeaps_90 : decode prog_8_method_4_code 90 = .ok (.aload_n 0, 1) := by decide +kernel
theorem dUG_countHeaps_91 : decode prog_8_method_4_code 91 = .ok (.getfield 31, 3) := by decide +kernel
theorem dUG_countHeaps_94 : decode prog_8_method_4_code 94 = .ok (.iload_n 1, 1) := by decide +kernel
theorem dUG_countHeaps_95 : decode prog_8_method_4_code 95 = .ok (.aload_n 0, 1) := by decide +kernel
theorem dUG_countHeaps_96 : decode prog_8_method_4_code 96 = .ok (.getfield 28, 3) := by decide +kernel
theorem dUG_countHeaps_99 : decode prog_8_method_4_code 99 = .ok (.iload_n 1, 1) := by decide +kernel
theorem dUG_countHeaps_100 : decode prog_8_method_4_code 100 = .ok (.laload, 1) := by decide +kernel
theorem dUG_countHeaps_101 : decode prog_8_method_4_code 101 = .ok (.lconst 0, 1) := by decide +kernel
theorem dUG_countHeaps_102 : decode prog_8_method_4_code 102 = .ok (.lcmp, 1) := by decide +kernel
theorem dUG_countHeaps_103 : decode prog_8_method_4_code 103 = .ok (.ifCond .ne 9, 3) := by decide +kernel
theorem dUG_countHeaps_106 : decode prog_8_method_4_code 106 = .ok (.iload_n 2, 1) := by decide +kernel
theorem dUG_countHeaps_107 : decode prog_8_method_4_code 107 = .ok (.iconst 1, 1) := by decide +kernel
theorem dUG_countHeaps_108 : decode prog_8_method_4_code 108 = .ok (.iadd, 1) := by decide +kernel
theorem dUG_countHeaps_109 : decode prog_8_method_4_code 109 = .ok (.goto 4, 3) := by decide +kernel
theorem dUG_countHeaps_112 : decode prog_8_method_4_code 112 = .ok (.iload_n 2, 1) := by decide +kernel
theorem dUG_countHeaps_113 : decode prog_8_method_4_code 113 = .ok (.iastore, 1) := by decide +kernel
theorem dUG_countHeaps_114 : decode prog_8_method_4_code 114 = .ok (.iinc 1 1, 3) := by decide +kernel
theorem dUG_countHeaps_117 : decode prog_8_method_4_code 117 = .ok (.goto (-101), 3) := by decide +kernel
theorem dUG_countHeaps_120 : decode prog_8_method_4_code 120 = .ok (.return_, 1) := by decide +kernel
theorem dUG_findParties_0 : decode prog_8_method_3_code 0 = .ok (.aload_n 0, 1) := by decide +kernel
theorem dUG_findParties_1 : decode prog_8_method_3_code 1 = .ok (.iconst 0, 1) := by decide +kernel
theorem dUG_findParties_2 : decode prog_8_method_3_code 2 = .ok (.putfield 45, 3) := by decide +kernel
theorem dUG_findParties_5 : decode prog_8_method_3_code 5 = .ok (.iconst 0, 1) := by decide +kernel
theorem dUG_findParties_6 : decode prog_8_method_3_code 6 = .ok (.istore_n 2, 1) := by decide +kernel
theorem dUG_findParties_7 : decode prog_8_method_3_code 7 = .ok (.iload_n 2, 1) := by decide +kernel
theorem dUG_findParties_8 : decode prog_8_method_3_code 8 = .ok (.aload_n 1, 1) := by decide +kernel
theorem dUG_findParties_9 : decode prog_8_method_3_code 9 = .ok (.arraylength, 1) := by decide +kernel
theorem dUG_findParties_10 : decode prog_8_method_3_code 10 = .ok (.if_icmp .ge 63, 3) := by decide +kernel
theorem dUG_findParties_13 : decode prog_8_method_3_code 13 = .ok (.aload_n 1, 1) := by decide +kernel
theorem dUG_findParties_14 : decode prog_8_method_3_code 14 = .ok (.iload_n 2, 1) := by decide +kernel
theorem dUG_findParties_15 : decode prog_8_method_3_code 15 = .ok (.laload, 1) := by decide +kernel
theorem dUG_findParties_16 : decode prog_8_method_3_code 16 = .ok (.lconst 0, 1) := by decide +kernel
theorem dUG_findParties_17 : decode prog_8_method_3_code 17 = .ok (.lcmp, 1) := by decide +kernel
theorem dUG_findParties_18 : decode prog_8_method_3_code 18 = .ok (.ifCond .ne 6, 3) := by decide +kernel
theorem dUG_findParties_21 : decode prog_8_method_3_code 21 = .ok (.goto 46, 3) := by decide +kernel
theorem dUG_findParties_24 : decode prog_8_method_3_code 24 = .ok (.aload_n 0, 1) := by decide +kernel
theorem dUG_findParties_25 : decode prog_8_method_3_code 25 = .ok (.getfield 45, 3) := by decide +kernel
theorem dUG_findParties_28 : decode prog_8_method_3_code 28 = .ok (.bipush 10, 2) := by decide +kernel
theorem dUG_findParties_30 : decode prog_8_method_3_code 30 = .ok (.if_icmp .lt 5, 3) := by decide +kernel
theorem dUG_findParties_33 : decode prog_8_method_3_code 33 = .ok (.iconst 0, 1) := by decide +kernel
theorem dUG_findParties_34 : decode prog_8_method_3_code 34 = .ok (.ireturn, 1) := by decide +kernel
theorem dUG_findParties_35 : decode prog_8_method_3_code 35 = .ok (.aload_n 0, 1) := by decide +kernel
theorem dUG_findParties_36 : decode prog_8_method_3_code 36 = .ok (.getfield 22, 3) := by decide +kernel
theorem dUG_findParties_39 : decode prog_8_method_3_code 39 = .ok (.aload_n 0, 1) := by decide +kernel
theorem dUG_findParties_40 : decode prog_8_method_3_code 40 = .ok (.getfield 45, 3) := by decide +kernel
theorem dUG_findParties_43 : decode prog_8_method_3_code 43 = .ok (.iload_n 2, 1) := by decide +kernel
theorem dUG_findParties_44 : decode prog_8_method_3_code 44 = .ok (.iastore, 1) := by decide +kernel
theorem dUG_findParties_45 : decode prog_8_method_3_code 45 = .ok (.aload_n 0, 1) := by decide +kernel
theorem dUG_findParties_46 : decode prog_8_method_3_code 46 = .ok (.getfield 25, 3) := by decide +kernel
theorem dUG_findParties_49 : decode prog_8_method_3_code 49 = .ok (.aload_n 0, 1) := by decide +kernel
theorem dUG_findParties_50 : decode prog_8_method_3_code 50 = .ok (.getfield 45, 3) := by decide +kernel
theorem dUG_findParties_53 : decode prog_8_method_3_code 53 = .ok (.aload_n 1, 1) := by decide +kernel
theorem dUG_findParties_54 : decode prog_8_method_3_code 54 = .ok (.iload_n 2, 1) := by decide +kernel
theorem dUG_findParties_55 : decode prog_8_method_3_code 55 = .ok (.laload, 1) := by decide +kernel
theorem dUG_findParties_56 : decode prog_8_method_3_code 56 = .ok (.lastore, 1) := by decide +kernel
theorem dUG_findParties_57 : decode prog_8_method_3_code 57 = .ok (.aload_n 0, 1) := by decide +kernel
theorem dUG_findParties_58 : decode prog_8_method_3_code 58 = .ok (.dup, 1) := by decide +kernel
theorem dUG_findParties_59 : decode prog_8_method_3_code 59 = .ok (.getfield 45, 3) := by decide +kernel
theorem dUG_findParties_62 : decode prog_8_method_3_code 62 = .ok (.iconst 1, 1) := by decide +kernel
theorem dUG_findParties_63 : decode prog_8_method_3_code 63 = .ok (.iadd, 1) := by decide +kernel
theorem dUG_findParties_64 : decode prog_8_method_3_code 64 = .ok (.putfield 45, 3) := by decide +kernel
theorem dUG_findParties_67 : decode prog_8_method_3_code 67 = .ok (.iinc 2 1, 3) := by decide +kernel
theorem dUG_findParties_70 : decode prog_8_method_3_code 70 = .ok (.goto (-63), 3) := by decide +kernel
theorem dUG_findParties_73 : decode prog_8_method_3_code 73 = .ok (.iconst 1, 1) := by decide +kernel
theorem dUG_findParties_74 : decode prog_8_method_3_code 74 = .ok (.ireturn, 1) := by decide +kernel
theorem dUG_firstHeap_0 : decode prog_8_method_5_code 0 = .ok (.iload_n 1, 1) := by decide +kernel
theorem dUG_firstHeap_1 : decode prog_8_method_5_code 1 = .ok (.iload_n 1, 1) := by decide +kernel
theorem dUG_firstHeap_2 : decode prog_8_method_5_code 2 = .ok (.ineg, 1) := by decide +kernel
theorem dUG_firstHeap_3 : decode prog_8_method_5_code 3 = .ok (.iand, 1) := by decide +kernel
theorem dUG_firstHeap_4 : decode prog_8_method_5_code 4 = .ok (.istore_n 2, 1) := by decide +kernel
theorem dUG_firstHeap_5 : decode prog_8_method_5_code 5 = .ok (.iload_n 2, 1) := by decide +kernel
theorem dUG_firstHeap_6 : decode prog_8_method_5_code 6 = .ok (.istore_n 3, 1) := by decide +kernel
theorem dUG_firstHeap_7 : decode prog_8_method_5_code 7 = .ok (.iload_n 3, 1) := by decide +kernel
theorem dUG_firstHeap_8 : decode prog_8_method_5_code 8 = .ok (.iload_n 1, 1) := by decide +kernel
theorem dUG_firstHeap_9 : decode prog_8_method_5_code 9 = .ok (.if_icmp .ge 67, 3) := by decide +kernel
theorem dUG_firstHeap_12 : decode prog_8_method_5_code 12 = .ok (.iload_n 3, 1) := by decide +kernel
theorem dUG_firstHeap_13 : decode prog_8_method_5_code 13 = .ok (.iload_n 2, 1) := by decide +kernel
theorem dUG_firstHeap_14 : decode prog_8_method_5_code 14 = .ok (.iand, 1) := by decide +kernel
theorem dUG_firstHeap_15 : decode prog_8_method_5_code 15 = .ok (.ifCond .eq 15, 3) := by decide +kernel
theorem dUG_firstHeap_18 : decode prog_8_method_5_code 18 = .ok (.iload_n 3, 1) := by decide +kernel
theorem dUG_firstHeap_19 : decode prog_8_method_5_code 19 = .ok (.iload_n 1, 1) := by decide +kernel
theorem dUG_firstHeap_20 : decode prog_8_method_5_code 20 = .ok (.iconst (-1), 1) := by decide +kernel
theorem dUG_firstHeap_21 : decode prog_8_method_5_code 21 = .ok (.ixor, 1) := by decide +kernel
theorem dUG_firstHeap_22 : decode prog_8_method_5_code 22 = .ok (.iand, 1) := by decide +kernel
theorem dUG_firstHeap_23 : decode prog_8_method_5_code 23 = .ok (.ifCond .ne 7, 3) := by decide +kernel
theorem dUG_firstHeap_26 : decode prog_8_method_5_code 26 = .ok (.iconst 1, 1) := by decide +kernel
theorem dUG_firstHeap_27 : decode prog_8_method_5_code 27 = .ok (.goto 4, 3) := by decide +kernel
theorem dUG_firstHeap_30 : decode prog_8_method_5_code 30 = .ok (.iconst 0, 1) := by decide +kernel
theorem dUG_firstHeap_31 : decode prog_8_method_5_code 31 = .ok (.istore 4, 2) := by decide +kernel
theorem dUG_firstHeap_33 : decode prog_8_method_5_code 33 = .ok (.iload 4, 2) := by decide +kernel
theorem dUG_firstHeap_35 : decode prog_8_method_5_code 35 = .ok (.ifCond .eq 35, 3) := by decide +kernel
theorem dUG_firstHeap_38 : decode prog_8_method_5_code 38 = .ok (.aload_n 0, 1) := by decide +kernel
theorem dUG_firstHeap_39 : decode prog_8_method_5_code 39 = .ok (.getfield 28, 3) := by decide +kernel
theorem dUG_firstHeap_42 : decode prog_8_method_5_code 42 = .ok (.iload_n 3, 1) := by decide +kernel
theorem dUG_firstHeap_43 : decode prog_8_method_5_code 43 = .ok (.laload, 1) := by decide +kernel
theorem dUG_firstHeap_44 : decode prog_8_method_5_code 44 = .ok (.lconst 0, 1) := by decide +kernel
theorem dUG_firstHeap_45 : decode prog_8_method_5_code 45 = .ok (.lcmp, 1) := by decide +kernel
theorem dUG_firstHeap_46 : decode prog_8_method_5_code 46 = .ok (.ifCond .ne 24, 3) := by decide +kernel
theorem dUG_firstHeap_49 : decode prog_8_method_5_code 49 = .ok (.aload_n 0, 1) := by decide +kernel
theorem dUG_firstHeap_50 : decode prog_8_method_5_code 50 = .ok (.getfield 31, 3) := by decide +kernel
theorem dUG_firstHeap_53 : decode prog_8_method_5_code 53 = .ok (.iload_n 1, 1) := by decide +kernel
theorem dUG_firstHeap_54 : decode prog_8_method_5_code 54 = .ok (.iload_n 3, 1) := by decide +kernel
theorem dUG_firstHeap_55 : decode prog_8_method_5_code 55 = .ok (.ixor, 1) := by decide +kernel
theorem dUG_firstHeap_56 : decode prog_8_method_5_code 56 = .ok (.iaload, 1) := by decide +kernel
theorem dUG_firstHeap_57 : decode prog_8_method_5_code 57 = .ok (.iconst 1, 1) := by decide +kernel
theorem dUG_firstHeap_58 : decode prog_8_method_5_code 58 = .ok (.iadd, 1) := by decide +kernel
theorem dUG_firstHeap_59 : decode prog_8_method_5_code 59 = .ok (.aload_n 0, 1) := by decide +kernel
theorem dUG_firstHeap_60 : decode prog_8_method_5_code 60 = .ok (.getfield 31, 3) := by decide +kernel
theorem dUG_firstHeap_63 : decode prog_8_method_5_code 63 = .ok (.iload_n 1, 1) := by decide +kernel
theorem dUG_firstHeap_64 : decode prog_8_method_5_code 64 = .ok (.iaload, 1) := by decide +kernel
theorem dUG_firstHeap_65 : decode prog_8_method_5_code 65 = .ok (.if_icmp .ne 5, 3) := by decide +kernel
theorem dUG_firstHeap_68 : decode prog_8_method_5_code 68 = .ok (.iload_n 3, 1) := by decide +kernel
theorem dUG_firstHeap_69 : decode prog_8_method_5_code 69 = .ok (.ireturn, 1) := by decide +kernel
theorem dUG_firstHeap_70 : decode prog_8_method_5_code 70 = .ok (.iinc 3 1, 3) := by decide +kernel
theorem dUG_firstHeap_73 : decode prog_8_method_5_code 73 = .ok (.goto (-66), 3) := by decide +kernel
theorem dUG_firstHeap_76 : decode prog_8_method_5_code 76 = .ok (.iload_n 1, 1) := by decide +kernel
theorem dUG_firstHeap_77 : decode prog_8_method_5_code 77 = .ok (.ireturn, 1) := by decide +kernel
theorem dUG_payWithin_0 : decode prog_8_method_6_code 0 = .ok (.lconst 0, 1) := by decide +kernel
theorem dUG_payWithin_1 : decode prog_8_method_6_code 1 = .ok (.lstore_n 2, 1) := by decide +kernel
theorem dUG_payWithin_2 : decode prog_8_method_6_code 2 = .ok (.iconst (-1), 1) := by decide +kernel
theorem dUG_payWithin_3 : decode prog_8_method_6_code 3 = .ok (.istore 4, 2) := by decide +kernel
theorem dUG_payWithin_5 : decode prog_8_method_6_code 5 = .ok (.iconst 0, 1) := by decide +kernel
theorem dUG_payWithin_6 : decode prog_8_method_6_code 6 = .ok (.istore 5, 2) := by decide +kernel
theorem dUG_payWithin_8 : decode prog_8_method_6_code 8 = .ok (.iload 5, 2) := by decide +kernel
theorem dUG_payWithin_10 : decode prog_8_method_6_code 10 = .ok (.aload_n 0, 1) := by decide +kernel
theorem dUG_payWithin_11 : decode prog_8_method_6_code 11 = .ok (.getfield 45, 3) := by decide +kernel
theorem dUG_payWithin_14 : decode prog_8_method_6_code 14 = .ok (.if_icmp .ge 137, 3) := by decide +kernel
theorem dUG_payWithin_17 : decode prog_8_method_6_code 17 = .ok (.iload_n 1, 1) := by decide +kernel
theorem dUG_payWithin_18 : decode prog_8_method_6_code 18 = .ok (.iload 5, 2) := by decide +kernel
theorem dUG_payWithin_20 : decode prog_8_method_6_code 20 = .ok (.ishr, 1) := by decide +kernel
theorem dUG_payWithin_21 : decode prog_8_method_6_code 21 = .ok (.iconst 1, 1) := by decide +kernel
theorem dUG_payWithin_22 : decode prog_8_method_6_code 22 = .ok (.iand, 1) := by decide +kernel
theorem dUG_payWithin_23 : decode prog_8_method_6_code 23 = .ok (.ifCond .ne 6, 3) := by decide +kernel
theorem dUG_payWithin_26 : decode prog_8_method_6_code 26 = .ok (.goto 119, 3) := by decide +kernel
theorem dUG_payWithin_29 : decode prog_8_method_6_code 29 = .ok (.iload 4, 2) := by decide +kernel
theorem dUG_payWithin_31 : decode prog_8_method_6_code 31 = .ok (.iconst (-1), 1) := by decide +kernel
theorem dUG_payWithin_32 : decode prog_8_method_6_code 32 = .ok (.if_icmp .eq 99, 3) := by decide +kernel
theorem dUG_payWithin_35 : decode prog_8_method_6_code 35 = .ok (.aload_n 0, 1) := by decide +kernel
theorem dUG_payWithin_36 : decode prog_8_method_6_code 36 = .ok (.getfield 34, 3) := by decide +kernel
theorem dUG_payWithin_39 : decode prog_8_method_6_code 39 = .ok (.bipush 10, 2) := by decide +kernel
theorem dUG_payWithin_41 : decode prog_8_method_6_code 41 = .ok (.if_icmp .ge 90, 3) := by decide +kernel
theorem dUG_payWithin_44 : decode prog_8_method_6_code 44 = .ok (.aload_n 0, 1) := by decide +kernel
theorem dUG_payWithin_45 : decode prog_8_method_6_code 45 = .ok (.getfield 11, 3) := by decide +kernel
theorem dUG_payWithin_48 : decode prog_8_method_6_code 48 = .ok (.aload_n 0, 1) := by decide +kernel
theorem dUG_payWithin_49 : decode prog_8_method_6_code 49 = .ok (.getfield 34, 3) := by decide +kernel
theorem dUG_payWithin_52 : decode prog_8_method_6_code 52 = .ok (.lload_n 2, 1) := by decide +kernel
theorem dUG_payWithin_53 : decode prog_8_method_6_code 53 = .ok (.lconst 0, 1) := by decide +kernel
theorem dUG_payWithin_54 : decode prog_8_method_6_code 54 = .ok (.lcmp, 1) := by decide +kernel
theorem dUG_payWithin_55 : decode prog_8_method_6_code 55 = .ok (.ifCond .le 13, 3) := by decide +kernel
theorem dUG_payWithin_58 : decode prog_8_method_6_code 58 = .ok (.aload_n 0, 1) := by decide +kernel
theorem dUG_payWithin_59 : decode prog_8_method_6_code 59 = .ok (.getfield 22, 3) := by decide +kernel
theorem dUG_payWithin_62 : decode prog_8_method_6_code 62 = .ok (.iload 4, 2) := by decide +kernel
theorem dUG_payWithin_64 : decode prog_8_method_6_code 64 = .ok (.iaload, 1) := by decide +kernel
theorem dUG_payWithin_65 : decode prog_8_method_6_code 65 = .ok (.goto 10, 3) := by decide +kernel
theorem dUG_payWithin_68 : decode prog_8_method_6_code 68 = .ok (.aload_n 0, 1) := by decide +kernel
theorem dUG_payWithin_69 : decode prog_8_method_6_code 69 = .ok (.getfield 22, 3) := by decide +kernel
theorem dUG_payWithin_72 : decode prog_8_method_6_code 72 = .ok (.iload 5, 2) := by decide +kernel
theorem dUG_payWithin_74 : decode prog_8_method_6_code 74 = .ok (.iaload, 1) := by decide +kernel
theorem dUG_payWithin_75 : decode prog_8_method_6_code 75 = .ok (.iastore, 1) := by decide +kernel
theorem dUG_payWithin_76 : decode prog_8_method_6_code 76 = .ok (.aload_n 0, 1) := by decide +kernel
theorem dUG_payWithin_77 : decode prog_8_method_6_code 77 = .ok (.getfield 15, 3) := by decide +kernel
theorem dUG_payWithin_80 : decode prog_8_method_6_code 80 = .ok (.aload_n 0, 1) := by decide +kernel
theorem dUG_payWithin_81 : decode prog_8_method_6_code 81 = .ok (.getfield 34, 3) := by decide +kernel
theorem dUG_payWithin_84 : decode prog_8_method_6_code 84 = .ok (.lload_n 2, 1) := by decide +kernel
theorem dUG_payWithin_85 : decode prog_8_method_6_code 85 = .ok (.lconst 0, 1) := by decide +kernel
theorem dUG_payWithin_86 : decode prog_8_method_6_code 86 = .ok (.lcmp, 1) := by decide +kernel
theorem dUG_payWithin_87 : decode prog_8_method_6_code 87 = .ok (.ifCond .le 13, 3) := by decide +kernel
theorem dUG_payWithin_90 : decode prog_8_method_6_code 90 = .ok (.aload_n 0, 1) := by decide +kernel
theorem dUG_payWithin_91 : decode prog_8_method_6_code 91 = .ok (.getfield 22, 3) := by decide +kernel
theorem dUG_payWithin_94 : decode prog_8_method_6_code 94 = .ok (.iload 5, 2) := by decide +kernel
theorem dUG_payWithin_96 : decode prog_8_method_6_code 96 = .ok (.iaload, 1) := by decide +kernel
theorem dUG_payWithin_97 : decode prog_8_method_6_code 97 = .ok (.goto 10, 3) := by decide +kernel
theorem dUG_payWithin_100 : decode prog_8_method_6_code 100 = .ok (.aload_n 0, 1) := by decide +kernel
theorem dUG_payWithin_101 : decode prog_8_method_6_code 101 = .ok (.getfield 22, 3) := by decide +kernel
theorem dUG_payWithin_104 : decode prog_8_method_6_code 104 = .ok (.iload 4, 2) := by decide +kernel
theorem dUG_payWithin_106 : decode prog_8_method_6_code 106 = .ok (.iaload, 1) := by decide +kernel
theorem dUG_payWithin_107 : decode prog_8_method_6_code 107 = .ok (.iastore, 1) := by decide +kernel
theorem dUG_payWithin_108 : decode prog_8_method_6_code 108 = .ok (.aload_n 0, 1) := by decide +kernel
theorem dUG_payWithin_109 : decode prog_8_method_6_code 109 = .ok (.getfield 18, 3) := by decide +kernel
theorem dUG_payWithin_112 : decode prog_8_method_6_code 112 = .ok (.aload_n 0, 1) := by decide +kernel
theorem dUG_payWithin_113 : decode prog_8_method_6_code 113 = .ok (.getfield 34, 3) := by decide +kernel
theorem dUG_payWithin_116 : decode prog_8_method_6_code 116 = .ok (.lload_n 2, 1) := by decide +kernel
theorem dUG_payWithin_117 : decode prog_8_method_6_code 117 = .ok (.invokestatic 62, 3) := by decide +kernel
theorem dUG_payWithin_120 : decode prog_8_method_6_code 120 = .ok (.lastore, 1) := by decide +kernel
theorem dUG_payWithin_121 : decode prog_8_method_6_code 121 = .ok (.aload_n 0, 1) := by decide +kernel
theorem dUG_payWithin_122 : decode prog_8_method_6_code 122 = .ok (.dup, 1) := by decide +kernel
theorem dUG_payWithin_123 : decode prog_8_method_6_code 123 = .ok (.getfield 34, 3) := by decide +kernel
theorem dUG_payWithin_126 : decode prog_8_method_6_code 126 = .ok (.iconst 1, 1) := by decide +kernel
theorem dUG_payWithin_127 : decode prog_8_method_6_code 127 = .ok (.iadd, 1) := by decide +kernel
theorem dUG_payWithin_128 : decode prog_8_method_6_code 128 = .ok (.putfield 34, 3) := by decide +kernel
theorem dUG_payWithin_131 : decode prog_8_method_6_code 131 = .ok (.lload_n 2, 1) := by decide +kernel
theorem dUG_payWithin_132 : decode prog_8_method_6_code 132 = .ok (.aload_n 0, 1) := by decide +kernel
theorem dUG_payWithin_133 : decode prog_8_method_6_code 133 = .ok (.getfield 25, 3) := by decide +kernel
theorem dUG_payWithin_136 : decode prog_8_method_6_code 136 = .ok (.iload 5, 2) := by decide +kernel
theorem dUG_payWithin_138 : decode prog_8_method_6_code 138 = .ok (.laload, 1) := by decide +kernel
theorem dUG_payWithin_139 : decode prog_8_method_6_code 139 = .ok (.lsub, 1) := by decide +kernel
theorem dUG_payWithin_140 : decode prog_8_method_6_code 140 = .ok (.lstore_n 2, 1) := by decide +kernel
theorem dUG_payWithin_141 : decode prog_8_method_6_code 141 = .ok (.iload 5, 2) := by decide +kernel
theorem dUG_payWithin_143 : decode prog_8_method_6_code 143 = .ok (.istore 4, 2) := by decide +kernel
theorem dUG_payWithin_145 : decode prog_8_method_6_code 145 = .ok (.iinc 5 1, 3) := by decide +kernel
theorem dUG_payWithin_148 : decode prog_8_method_6_code 148 = .ok (.goto (-140), 3) := by decide +kernel
theorem dUG_payWithin_151 : decode prog_8_method_6_code 151 = .ok (.return_, 1) := by decide +kernel
theorem dUL_add_0 : decode prog_7_method_2_code 0 = .ok (.aload_n 0, 1) := by decide +kernel
theorem dUL_add_1 : decode prog_7_method_2_code 1 = .ok (.getfield 18, 3) := by decide +kernel
theorem dUL_add_4 : decode prog_7_method_2_code 4 = .ok (.bipush 6, 2) := by decide +kernel
theorem dUL_add_6 : decode prog_7_method_2_code 6 = .ok (.if_icmp .lt 5, 3) := by decide +kernel
theorem dUL_add_9 : decode prog_7_method_2_code 9 = .ok (.iconst (-1), 1) := by decide +kernel
theorem dUL_add_10 : decode prog_7_method_2_code 10 = .ok (.ireturn, 1) := by decide +kernel
theorem dUL_add_11 : decode prog_7_method_2_code 11 = .ok (.aload_n 0, 1) := by decide +kernel
theorem dUL_add_12 : decode prog_7_method_2_code 12 = .ok (.getfield 18, 3) := by decide +kernel
theorem dUL_add_15 : decode prog_7_method_2_code 15 = .ok (.istore_n 3, 1) := by decide +kernel
theorem dUL_add_16 : decode prog_7_method_2_code 16 = .ok (.iconst 0, 1) := by decide +kernel
theorem dUL_add_17 : decode prog_7_method_2_code 17 = .ok (.istore 4, 2) := by decide +kernel
theorem dUL_add_19 : decode prog_7_method_2_code 19 = .ok (.iload 4, 2) := by decide +kernel
theorem dUL_add_21 : decode prog_7_method_2_code 21 = .ok (.iconst 4, 1) := by decide +kernel
theorem dUL_add_22 : decode prog_7_method_2_code 22 = .ok (.if_icmp .ge 87, 3) := by decide +kernel
theorem dUL_add_25 : decode prog_7_method_2_code 25 = .ok (.iconst 0, 1) := by decide +kernel
theorem dUL_add_26 : decode prog_7_method_2_code 26 = .ok (.istore 5, 2) := by decide +kernel
theorem dUL_add_28 : decode prog_7_method_2_code 28 = .ok (.iload 5, 2) := by decide +kernel
theorem dUL_add_30 : decode prog_7_method_2_code 30 = .ok (.bipush 12, 2) := by decide +kernel
theorem dUL_add_32 : decode prog_7_method_2_code 32 = .ok (.if_icmp .ge 71, 3) := by decide +kernel
theorem dUL_add_35 : decode prog_7_method_2_code 35 = .ok (.aload_n 1, 1) := by decide +kernel
theorem dUL_add_36 : decode prog_7_method_2_code 36 = .ok (.iload 4, 2) := by decide +kernel
theorem dUL_add_38 : decode prog_7_method_2_code 38 = .ok (.bipush 12, 2) := by decide +kernel
theorem dUL_add_40 : decode prog_7_method_2_code 40 = .ok (.imul, 1) := by decide +kernel
theorem dUL_add_41 : decode prog_7_method_2_code 41 = .ok (.iload 5, 2) := by decide +kernel
theorem dUL_add_43 : decode prog_7_method_2_code 43 = .ok (.iadd, 1) := by decide +kernel
theorem dUL_add_44 : decode prog_7_method_2_code 44 = .ok (.iaload, 1) := by decide +kernel
theorem dUL_add_45 : decode prog_7_method_2_code 45 = .ok (.istore 6, 2) := by decide +kernel
theorem dUL_add_47 : decode prog_7_method_2_code 47 = .ok (.iload 6, 2) := by decide +kernel
theorem dUL_add_49 : decode prog_7_method_2_code 49 = .ok (.ldc 22, 2) := by decide +kernel
theorem dUL_add_51 : decode prog_7_method_2_code 51 = .ok (.if_icmp .ne 12, 3) := by decide +kernel
theorem dUL_add_54 : decode prog_7_method_2_code 54 = .ok (.aload_n 1, 1) := by decide +kernel
theorem dUL_add_55 : decode prog_7_method_2_code 55 = .ok (.bipush 48, 2) := by decide +kernel
theorem dUL_add_57 : decode prog_7_method_2_code 57 = .ok (.iload 5, 2) := by decide +kernel
theorem dUL_add_59 : decode prog_7_method_2_code 59 = .ok (.iadd, 1) := by decide +kernel
theorem dUL_add_60 : decode prog_7_method_2_code 60 = .ok (.iaload, 1) := by decide +kernel
theorem dUL_add_61 : decode prog_7_method_2_code 61 = .ok (.istore 6, 2) := by decide +kernel
theorem dUL_add_63 : decode prog_7_method_2_code 63 = .ok (.iload 6, 2) := by decide +kernel
theorem dUL_add_65 : decode prog_7_method_2_code 65 = .ok (.ldc 22, 2) := by decide +kernel
theorem dUL_add_67 : decode prog_7_method_2_code 67 = .ok (.if_icmp .ne 11, 3) := by decide +kernel
theorem dUL_add_70 : decode prog_7_method_2_code 70 = .ok (.getstatic 23, 3) := by decide +kernel
theorem dUL_add_73 : decode prog_7_method_2_code 73 = .ok (.iload 5, 2) := by decide +kernel
theorem dUL_add_75 : decode prog_7_method_2_code 75 = .ok (.iaload, 1) := by decide +kernel
theorem dUL_add_76 : decode prog_7_method_2_code 76 = .ok (.istore 6, 2) := by decide +kernel
theorem dUL_add_78 : decode prog_7_method_2_code 78 = .ok (.aload_n 0, 1) := by decide +kernel
theorem dUL_add_79 : decode prog_7_method_2_code 79 = .ok (.getfield 15, 3) := by decide +kernel
theorem dUL_add_82 : decode prog_7_method_2_code 82 = .ok (.iload_n 3, 1) := by decide +kernel
theorem dUL_add_83 : decode prog_7_method_2_code 83 = .ok (.iconst 4, 1) := by decide +kernel
theorem dUL_add_84 : decode prog_7_method_2_code 84 = .ok (.imul, 1) := by decide +kernel
theorem dUL_add_85 : decode prog_7_method_2_code 85 = .ok (.iload 4, 2) := by decide +kernel
theorem dUL_add_87 : decode prog_7_method_2_code 87 = .ok (.iadd, 1) := by decide +kernel
theorem dUL_add_88 : decode prog_7_method_2_code 88 = .ok (.bipush 12, 2) := by decide +kernel
theorem dUL_add_90 : decode prog_7_method_2_code 90 = .ok (.imul, 1) := by decide +kernel
theorem dUL_add_91 : decode prog_7_method_2_code 91 = .ok (.iload 5, 2) := by decide +kernel
theorem dUL_add_93 : decode prog_7_method_2_code 93 = .ok (.iadd, 1) := by decide +kernel
theorem dUL_add_94 : decode prog_7_method_2_code 94 = .ok (.iload 6, 2) := by decide +kernel
theorem dUL_add_96 : decode prog_7_method_2_code 96 = .ok (.iastore, 1) := by decide +kernel
theorem dUL_add_97 : decode prog_7_method_2_code 97 = .ok (.iinc 5 1, 3) := by decide +kernel
theorem dUL_add_100 : decode prog_7_method_2_code 100 = .ok (.goto (-72), 3) := by decide +kernel
theorem dUL_add_103 : decode prog_7_method_2_code 103 = .ok (.iinc 4 1, 3) := by decide +kernel
theorem dUL_add_106 : decode prog_7_method_2_code 106 = .ok (.goto (-87), 3) := by decide +kernel
theorem dUL_add_109 : decode prog_7_method_2_code 109 = .ok (.aload_n 0, 1) := by decide +kernel
theorem dUL_add_110 : decode prog_7_method_2_code 110 = .ok (.getfield 11, 3) := by decide +kernel
theorem dUL_add_113 : decode prog_7_method_2_code 113 = .ok (.iload_n 3, 1) := by decide +kernel
theorem dUL_add_114 : decode prog_7_method_2_code 114 = .ok (.iload_n 2, 1) := by decide +kernel
theorem dUL_add_115 : decode prog_7_method_2_code 115 = .ok (.iastore, 1) := by decide +kernel
theorem dUL_add_116 : decode prog_7_method_2_code 116 = .ok (.aload_n 0, 1) := by decide +kernel
theorem dUL_add_117 : decode prog_7_method_2_code 117 = .ok (.iload_n 3, 1) := by decide +kernel
theorem dUL_add_118 : decode prog_7_method_2_code 118 = .ok (.iconst 1, 1) := by decide +kernel
theorem dUL_add_119 : decode prog_7_method_2_code 119 = .ok (.iadd, 1) := by decide +kernel
theorem dUL_add_120 : decode prog_7_method_2_code 120 = .ok (.putfield 18, 3) := by decide +kernel
theorem dUL_add_123 : decode prog_7_method_2_code 123 = .ok (.iload_n 3, 1) := by decide +kernel
theorem dUL_add_124 : decode prog_7_method_2_code 124 = .ok (.ireturn, 1) := by decide +kernel
theorem dUL_value_0 : decode prog_7_method_3_code 0 = .ok (.aload_n 0, 1) := by decide +kernel
theorem dUL_value_1 : decode prog_7_method_3_code 1 = .ok (.getfield 18, 3) := by decide +kernel
theorem dUL_value_4 : decode prog_7_method_3_code 4 = .ok (.iconst 1, 1) := by decide +kernel
theorem dUL_value_5 : decode prog_7_method_3_code 5 = .ok (.isub, 1) := by decide +kernel
theorem dUL_value_6 : decode prog_7_method_3_code 6 = .ok (.istore 4, 2) := by decide +kernel
theorem dUL_value_8 : decode prog_7_method_3_code 8 = .ok (.iload 4, 2) := by decide +kernel
theorem dUL_value_10 : decode prog_7_method_3_code 10 = .ok (.ifCond .lt 20, 3) := by decide +kernel
theorem dUL_value_13 : decode prog_7_method_3_code 13 = .ok (.aload_n 0, 1) := by decide +kernel
theorem dUL_value_14 : decode prog_7_method_3_code 14 = .ok (.getfield 11, 3) := by decide +kernel
theorem dUL_value_17 : decode prog_7_method_3_code 17 = .ok (.iload 4, 2) := by decide +kernel
theorem dUL_value_19 : decode prog_7_method_3_code 19 = .ok (.iaload, 1) := by decide +kernel
theorem dUL_value_20 : decode prog_7_method_3_code 20 = .ok (.iload_n 2, 1) := by decide +kernel
theorem dUL_value_21 : decode prog_7_method_3_code 21 = .ok (.if_icmp .le 9, 3) := by decide +kernel
theorem dUL_value_24 : decode prog_7_method_3_code 24 = .ok (.iinc 4 (-1), 3) := by decide +kernel
theorem dUL_value_27 : decode prog_7_method_3_code 27 = .ok (.goto (-19), 3) := by decide +kernel
theorem dUL_value_30 : decode prog_7_method_3_code 30 = .ok (.iload 4, 2) := by decide +kernel
theorem dUL_value_32 : decode prog_7_method_3_code 32 = .ok (.ifCond .ge 11, 3) := by decide +kernel
theorem dUL_value_35 : decode prog_7_method_3_code 35 = .ok (.getstatic 23, 3) := by decide +kernel
theorem dUL_value_38 : decode prog_7_method_3_code 38 = .ok (.iload_n 3, 1) := by decide +kernel
theorem dUL_value_39 : decode prog_7_method_3_code 39 = .ok (.iaload, 1) := by decide +kernel
theorem dUL_value_40 : decode prog_7_method_3_code 40 = .ok (.goto 19, 3) := by decide +kernel
theorem dUL_value_43 : decode prog_7_method_3_code 43 = .ok (.aload_n 0, 1) := by decide +kernel
theorem dUL_value_44 : decode prog_7_method_3_code 44 = .ok (.getfield 15, 3) := by decide +kernel
theorem dUL_value_47 : decode prog_7_method_3_code 47 = .ok (.iload 4, 2) := by decide +kernel
theorem dUL_value_49 : decode prog_7_method_3_code 49 = .ok (.iconst 4, 1) := by decide +kernel
theorem dUL_value_50 : decode prog_7_method_3_code 50 = .ok (.imul, 1) := by decide +kernel
theorem dUL_value_51 : decode prog_7_method_3_code 51 = .ok (.iload_n 1, 1) := by decide +kernel
theorem dUL_value_52 : decode prog_7_method_3_code 52 = .ok (.iadd, 1) := by decide +kernel
theorem dUL_value_53 : decode prog_7_method_3_code 53 = .ok (.bipush 12, 2) := by decide +kernel
theorem dUL_value_55 : decode prog_7_method_3_code 55 = .ok (.imul, 1) := by decide +kernel
theorem dUL_value_56 : decode prog_7_method_3_code 56 = .ok (.iload_n 3, 1) := by decide +kernel
theorem dUL_value_57 : decode prog_7_method_3_code 57 = .ok (.iadd, 1) := by decide +kernel
theorem dUL_value_58 : decode prog_7_method_3_code 58 = .ok (.iaload, 1) := by decide +kernel
theorem dUL_value_59 : decode prog_7_method_3_code 59 = .ok (.ireturn, 1) := by decide +kernel
theorem dUQ_addDeal_0 : decode prog_4_method_4_code 0 = .ok (.aload_n 1, 1) := by decide +kernel
theorem dUQ_addDeal_1 : decode prog_4_method_4_code 1 = .ok (.getfield 92, 3) := by decide +kernel
theorem dUQ_addDeal_4 : decode prog_4_method_4_code 4 = .ok (.iload_n 2, 1) := by decide +kernel
theorem dUQ_addDeal_5 : decode prog_4_method_4_code 5 = .ok (.laload, 1) := by decide +kernel
theorem dUQ_addDeal_6 : decode prog_4_method_4_code 6 = .ok (.aload_n 1, 1) := by decide +kernel
theorem dUQ_addDeal_7 : decode prog_4_method_4_code 7 = .ok (.getfield 95, 3) := by decide +kernel
theorem dUQ_addDeal_10 : decode prog_4_method_4_code 10 = .ok (.iload_n 2, 1) := by decide +kernel
theorem dUQ_addDeal_11 : decode prog_4_method_4_code 11 = .ok (.laload, 1) := by decide +kernel
theorem dUQ_addDeal_12 : decode prog_4_method_4_code 12 = .ok (.lsub, 1) := by decide +kernel
theorem dUQ_addDeal_13 : decode prog_4_method_4_code 13 = .ok (.lstore_n 3, 1) := by decide +kernel
theorem dUQ_addDeal_14 : decode prog_4_method_4_code 14 = .ok (.aload_n 1, 1) := by decide +kernel
theorem dUQ_addDeal_15 : decode prog_4_method_4_code 15 = .ok (.getfield 75, 3) := by decide +kernel
theorem dUQ_addDeal_18 : decode prog_4_method_4_code 18 = .ok (.iload_n 2, 1) := by decide +kernel
theorem dUQ_addDeal_19 : decode prog_4_method_4_code 19 = .ok (.iaload, 1) := by decide +kernel
theorem dUQ_addDeal_20 : decode prog_4_method_4_code 20 = .ok (.ifCond .le 7, 3) := by decide +kernel
theorem dUQ_addDeal_23 : decode prog_4_method_4_code 23 = .ok (.lload_n 3, 1) := by decide +kernel
theorem dUQ_addDeal_24 : decode prog_4_method_4_code 24 = .ok (.goto 5, 3) := by decide +kernel
theorem dUQ_addDeal_27 : decode prog_4_method_4_code 27 = .ok (.lload_n 3, 1) := by decide +kernel
theorem dUQ_addDeal_28 : decode prog_4_method_4_code 28 = .ok (.lneg, 1) := by decide +kernel
theorem dUQ_addDeal_29 : decode prog_4_method_4_code 29 = .ok (.lstore 5, 2) := by decide +kernel
theorem dUQ_addDeal_31 : decode prog_4_method_4_code 31 = .ok (.aload_n 0, 1) := by decide +kernel
theorem dUQ_addDeal_32 : decode prog_4_method_4_code 32 = .ok (.getfield 9, 3) := by decide +kernel
theorem dUQ_addDeal_35 : decode prog_4_method_4_code 35 = .ok (.aload_n 1, 1) := by decide +kernel
theorem dUQ_addDeal_36 : decode prog_4_method_4_code 36 = .ok (.getfield 98, 3) := by decide +kernel
theorem dUQ_addDeal_39 : decode prog_4_method_4_code 39 = .ok (.iload_n 2, 1) := by decide +kernel
theorem dUQ_addDeal_40 : decode prog_4_method_4_code 40 = .ok (.iaload, 1) := by decide +kernel
theorem dUQ_addDeal_41 : decode prog_4_method_4_code 41 = .ok (.dup2, 1) := by decide +kernel
theorem dUQ_addDeal_42 : decode prog_4_method_4_code 42 = .ok (.laload, 1) := by decide +kernel
theorem dUQ_addDeal_43 : decode prog_4_method_4_code 43 = .ok (.lconst 0, 1) := by decide +kernel
theorem dUQ_addDeal_44 : decode prog_4_method_4_code 44 = .ok (.lload 5, 2) := by decide +kernel
theorem dUQ_addDeal_46 : decode prog_4_method_4_code 46 = .ok (.invokestatic 101, 3) := by decide +kernel
theorem dUQ_addDeal_49 : decode prog_4_method_4_code 49 = .ok (.ladd, 1) := by decide +kernel
theorem dUQ_addDeal_50 : decode prog_4_method_4_code 50 = .ok (.lastore, 1) := by decide +kernel
theorem dUQ_addDeal_51 : decode prog_4_method_4_code 51 = .ok (.aload_n 0, 1) := by decide +kernel
theorem dUQ_addDeal_52 : decode prog_4_method_4_code 52 = .ok (.getfield 15, 3) := by decide +kernel
theorem dUQ_addDeal_55 : decode prog_4_method_4_code 55 = .ok (.aload_n 1, 1) := by decide +kernel
theorem dUQ_addDeal_56 : decode prog_4_method_4_code 56 = .ok (.getfield 98, 3) := by decide +kernel
theorem dUQ_addDeal_59 : decode prog_4_method_4_code 59 = .ok (.iload_n 2, 1) := by decide +kernel
theorem dUQ_addDeal_60 : decode prog_4_method_4_code 60 = .ok (.iaload, 1) := by decide +kernel
theorem dUQ_addDeal_61 : decode prog_4_method_4_code 61 = .ok (.dup2, 1) := by decide +kernel
theorem dUQ_addDeal_62 : decode prog_4_method_4_code 62 = .ok (.laload, 1) := by decide +kernel
theorem dUQ_addDeal_63 : decode prog_4_method_4_code 63 = .ok (.lconst 0, 1) := by decide +kernel
theorem dUQ_addDeal_64 : decode prog_4_method_4_code 64 = .ok (.lload 5, 2) := by decide +kernel
theorem dUQ_addDeal_66 : decode prog_4_method_4_code 66 = .ok (.lneg, 1) := by decide +kernel
theorem dUQ_addDeal_67 : decode prog_4_method_4_code 67 = .ok (.invokestatic 101, 3) := by decide +kernel
theorem dUQ_addDeal_70 : decode prog_4_method_4_code 70 = .ok (.ladd, 1) := by decide +kernel
theorem dUQ_addDeal_71 : decode prog_4_method_4_code 71 = .ok (.lastore, 1) := by decide +kernel
theorem dUQ_addDeal_72 : decode prog_4_method_4_code 72 = .ok (.return_, 1) := by decide +kernel
theorem dUQ_gather_0 : decode prog_4_method_2_code 0 = .ok (.aload_n 0, 1) := by decide +kernel
theorem dUQ_gather_1 : decode prog_4_method_2_code 1 = .ok (.aload_n 1, 1) := by decide +kernel
theorem dUQ_gather_2 : decode prog_4_method_2_code 2 = .ok (.aload_n 2, 1) := by decide +kernel
theorem dUQ_gather_3 : decode prog_4_method_2_code 3 = .ok (.iload_n 3, 1) := by decide +kernel
theorem dUQ_gather_4 : decode prog_4_method_2_code 4 = .ok (.iload 4, 2) := by decide +kernel
theorem dUQ_gather_6 : decode prog_4_method_2_code 6 = .ok (.aload_n 1, 1) := by decide +kernel
theorem dUQ_gather_7 : decode prog_4_method_2_code 7 = .ok (.getfield 21, 3) := by decide +kernel
theorem dUQ_gather_10 : decode prog_4_method_2_code 10 = .ok (.iload_n 3, 1) := by decide +kernel
theorem dUQ_gather_11 : decode prog_4_method_2_code 11 = .ok (.iload 4, 2) := by decide +kernel
theorem dUQ_gather_13 : decode prog_4_method_2_code 13 = .ok (.iconst 4, 1) := by decide +kernel
theorem dUQ_gather_14 : decode prog_4_method_2_code 14 = .ok (.invokevirtual 27, 3) := by decide +kernel
theorem dUQ_gather_17 : decode prog_4_method_2_code 17 = .ok (.invokevirtual 33, 3) := by decide +kernel
theorem dUQ_gather_20 : decode prog_4_method_2_code 20 = .ok (.return_, 1) := by decide +kernel
theorem dUQ_gatherBeyond_0 : decode prog_4_method_3_code 0 = .ok (.aload_n 0, 1) := by decide +kernel
theorem dUQ_gatherBeyond_1 : decode prog_4_method_3_code 1 = .ok (.iload_n 3, 1) := by decide +kernel
theorem dUQ_gatherBeyond_2 : decode prog_4_method_3_code 2 = .ok (.putfield 37, 3) := by decide +kernel
theorem dUQ_gatherBeyond_5 : decode prog_4_method_3_code 5 = .ok (.aload_n 0, 1) := by decide +kernel
theorem dUQ_gatherBeyond_6 : decode prog_4_method_3_code 6 = .ok (.iload 4, 2) := by decide +kernel
theorem dUQ_gatherBeyond_8 : decode prog_4_method_3_code 8 = .ok (.putfield 41, 3) := by decide +kernel
theorem dUQ_gatherBeyond_11 : decode prog_4_method_3_code 11 = .ok (.aload_n 0, 1) := by decide +kernel
theorem dUQ_gatherBeyond_12 : decode prog_4_method_3_code 12 = .ok (.getfield 9, 3) := by decide +kernel
theorem dUQ_gatherBeyond_15 : decode prog_4_method_3_code 15 = .ok (.lconst 0, 1) := by decide +kernel
theorem dUQ_gatherBeyond_16 : decode prog_4_method_3_code 16 = .ok (.invokestatic 44, 3) := by decide +kernel
theorem dUQ_gatherBeyond_19 : decode prog_4_method_3_code 19 = .ok (.aload_n 0, 1) := by decide +kernel
theorem dUQ_gatherBeyond_20 : decode prog_4_method_3_code 20 = .ok (.getfield 15, 3) := by decide +kernel
theorem dUQ_gatherBeyond_23 : decode prog_4_method_3_code 23 = .ok (.lconst 0, 1) := by decide +kernel
theorem dUQ_gatherBeyond_24 : decode prog_4_method_3_code 24 = .ok (.invokestatic 44, 3) := by decide +kernel
theorem dUQ_gatherBeyond_27 : decode prog_4_method_3_code 27 = .ok (.aload_n 1, 1) := by decide +kernel
theorem dUQ_gatherBeyond_28 : decode prog_4_method_3_code 28 = .ok (.getfield 50, 3) := by decide +kernel
theorem dUQ_gatherBeyond_31 : decode prog_4_method_3_code 31 = .ok (.astore 6, 2) := by decide +kernel
theorem dUQ_gatherBeyond_33 : decode prog_4_method_3_code 33 = .ok (.aload_n 1, 1) := by decide +kernel
theorem dUQ_gatherBeyond_34 : decode prog_4_method_3_code 34 = .ok (.iload 4, 2) := by decide +kernel
theorem dUQ_gatherBeyond_36 : decode prog_4_method_3_code 36 = .ok (.invokevirtual 54, 3) := by decide +kernel
theorem dUQ_gatherBeyond_39 : decode prog_4_method_3_code 39 = .ok (.istore 7, 2) := by decide +kernel
theorem dUQ_gatherBeyond_41 : decode prog_4_method_3_code 41 = .ok (.iconst 0, 1) := by decide +kernel
theorem dUQ_gatherBeyond_42 : decode prog_4_method_3_code 42 = .ok (.istore 8, 2) := by decide +kernel
theorem dUQ_gatherBeyond_44 : decode prog_4_method_3_code 44 = .ok (.iload 8, 2) := by decide +kernel
theorem dUQ_gatherBeyond_46 : decode prog_4_method_3_code 46 = .ok (.aload 6, 2) := by decide +kernel
theorem dUQ_gatherBeyond_48 : decode prog_4_method_3_code 48 = .ok (.getfield 58, 3) := by decide +kernel
theorem dUQ_gatherBeyond_51 : decode prog_4_method_3_code 51 = .ok (.getfield 64, 3) := by decide +kernel
theorem dUQ_gatherBeyond_54 : decode prog_4_method_3_code 54 = .ok (.if_icmp .ge 94, 3) := by decide +kernel
theorem dUQ_gatherBeyond_57 : decode prog_4_method_3_code 57 = .ok (.aload 6, 2) := by decide +kernel
theorem dUQ_gatherBeyond_59 : decode prog_4_method_3_code 59 = .ok (.getfield 58, 3) := by decide +kernel
theorem dUQ_gatherBeyond_62 : decode prog_4_method_3_code 62 = .ok (.getfield 69, 3) := by decide +kernel
theorem dUQ_gatherBeyond_65 : decode prog_4_method_3_code 65 = .ok (.iload 8, 2) := by decide +kernel
theorem dUQ_gatherBeyond_67 : decode prog_4_method_3_code 67 = .ok (.iaload, 1) := by decide +kernel
theorem dUQ_gatherBeyond_68 : decode prog_4_method_3_code 68 = .ok (.istore 9, 2) := by decide +kernel
theorem dUQ_gatherBeyond_70 : decode prog_4_method_3_code 70 = .ok (.aload 6, 2) := by decide +kernel
theorem dUQ_gatherBeyond_72 : decode prog_4_method_3_code 72 = .ok (.getfield 73, 3) := by decide +kernel
theorem dUQ_gatherBeyond_75 : decode prog_4_method_3_code 75 = .ok (.iload 8, 2) := by decide +kernel
theorem dUQ_gatherBeyond_77 : decode prog_4_method_3_code 77 = .ok (.iaload, 1) := by decide +kernel
theorem dUQ_gatherBeyond_78 : decode prog_4_method_3_code 78 = .ok (.aload_n 0, 1) := by decide +kernel
theorem dUQ_gatherBeyond_79 : decode prog_4_method_3_code 79 = .ok (.getfield 37, 3) := by decide +kernel
theorem dUQ_gatherBeyond_82 : decode prog_4_method_3_code 82 = .ok (.if_icmp .ne 25, 3) := by decide +kernel
theorem dUQ_gatherBeyond_85 : decode prog_4_method_3_code 85 = .ok (.iload 9, 2) := by decide +kernel
theorem dUQ_gatherBeyond_87 : decode prog_4_method_3_code 87 = .ok (.iload 7, 2) := by decide +kernel
theorem dUQ_gatherBeyond_89 : decode prog_4_method_3_code 89 = .ok (.if_icmp .gt 18, 3) := by decide +kernel
theorem dUQ_gatherBeyond_92 : decode prog_4_method_3_code 92 = .ok (.aload 6, 2) := by decide +kernel
theorem dUQ_gatherBeyond_94 : decode prog_4_method_3_code 94 = .ok (.getfield 75, 3) := by decide +kernel
theorem dUQ_gatherBeyond_97 : decode prog_4_method_3_code 97 = .ok (.iload 8, 2) := by decide +kernel
theorem dUQ_gatherBeyond_99 : decode prog_4_method_3_code 99 = .ok (.iaload, 1) := by decide +kernel
theorem dUQ_gatherBeyond_100 : decode prog_4_method_3_code 100 = .ok (.ifCond .eq 7, 3) := by decide +kernel
theorem dUQ_gatherBeyond_103 : decode prog_4_method_3_code 103 = .ok (.iconst 1, 1) := by decide +kernel
theorem dUQ_gatherBeyond_104 : decode prog_4_method_3_code 104 = .ok (.goto 4, 3) := by decide +kernel
theorem dUQ_gatherBeyond_107 : decode prog_4_method_3_code 107 = .ok (.iconst 0, 1) := by decide +kernel
theorem dUQ_gatherBeyond_108 : decode prog_4_method_3_code 108 = .ok (.istore 10, 2) := by decide +kernel
theorem dUQ_gatherBeyond_110 : decode prog_4_method_3_code 110 = .ok (.iload 10, 2) := by decide +kernel
theorem dUQ_gatherBeyond_112 : decode prog_4_method_3_code 112 = .ok (.ifCond .eq 30, 3) := by decide +kernel
theorem dUQ_gatherBeyond_115 : decode prog_4_method_3_code 115 = .ok (.aload_n 2, 1) := by decide +kernel
theorem dUQ_gatherBeyond_116 : decode prog_4_method_3_code 116 = .ok (.aload_n 1, 1) := by decide +kernel
theorem dUQ_gatherBeyond_117 : decode prog_4_method_3_code 117 = .ok (.aload_n 0, 1) := by decide +kernel
theorem dUQ_gatherBeyond_118 : decode prog_4_method_3_code 118 = .ok (.getfield 37, 3) := by decide +kernel
theorem dUQ_gatherBeyond_121 : decode prog_4_method_3_code 121 = .ok (.iload 9, 2) := by decide +kernel
theorem dUQ_gatherBeyond_123 : decode prog_4_method_3_code 123 = .ok (.invokestatic 78, 3) := by decide +kernel
theorem dUQ_gatherBeyond_126 : decode prog_4_method_3_code 126 = .ok (.iload 5, 2) := by decide +kernel
theorem dUQ_gatherBeyond_128 : decode prog_4_method_3_code 128 = .ok (.invokevirtual 82, 3) := by decide +kernel
theorem dUQ_gatherBeyond_131 : decode prog_4_method_3_code 131 = .ok (.ifCond .eq 11, 3) := by decide +kernel
theorem dUQ_gatherBeyond_134 : decode prog_4_method_3_code 134 = .ok (.aload_n 0, 1) := by decide +kernel
theorem dUQ_gatherBeyond_135 : decode prog_4_method_3_code 135 = .ok (.aload 6, 2) := by decide +kernel
theorem dUQ_gatherBeyond_137 : decode prog_4_method_3_code 137 = .ok (.iload 8, 2) := by decide +kernel
theorem dUQ_gatherBeyond_139 : decode prog_4_method_3_code 139 = .ok (.invokevirtual 88, 3) := by decide +kernel
theorem dUQ_gatherBeyond_142 : decode prog_4_method_3_code 142 = .ok (.iinc 8 1, 3) := by decide +kernel
theorem dUQ_gatherBeyond_145 : decode prog_4_method_3_code 145 = .ok (.goto (-101), 3) := by decide +kernel
theorem dUQ_gatherBeyond_148 : decode prog_4_method_3_code 148 = .ok (.return_, 1) := by decide +kernel
theorem dUQ_getterOf_0 : decode prog_4_method_7_code 0 = .ok (.bipush 20, 2) := by decide +kernel
theorem dUQ_getterOf_2 : decode prog_4_method_7_code 2 = .ok (.aload_n 0, 1) := by decide +kernel
theorem dUQ_getterOf_3 : decode prog_4_method_7_code 3 = .ok (.getfield 37, 3) := by decide +kernel
theorem dUQ_getterOf_6 : decode prog_4_method_7_code 6 = .ok (.iadd, 1) := by decide +kernel
theorem dUQ_getterOf_7 : decode prog_4_method_7_code 7 = .ok (.istore 4, 2) := by decide +kernel
theorem dUQ_getterOf_9 : decode prog_4_method_7_code 9 = .ok (.iload_n 3, 1) := by decide +kernel
theorem dUQ_getterOf_10 : decode prog_4_method_7_code 10 = .ok (.ifCond .ne 5, 3) := by decide +kernel
theorem dUQ_getterOf_13 : decode prog_4_method_7_code 13 = .ok (.iload_n 2, 1) := by decide +kernel
theorem dUQ_getterOf_14 : decode prog_4_method_7_code 14 = .ok (.ireturn, 1) := by decide +kernel
theorem dUQ_getterOf_15 : decode prog_4_method_7_code 15 = .ok (.iload_n 3, 1) := by decide +kernel
theorem dUQ_getterOf_16 : decode prog_4_method_7_code 16 = .ok (.iconst 2, 1) := by decide +kernel
theorem dUQ_getterOf_17 : decode prog_4_method_7_code 17 = .ok (.if_icmp .ne 6, 3) := by decide +kernel
theorem dUQ_getterOf_20 : decode prog_4_method_7_code 20 = .ok (.iload 4, 2) := by decide +kernel
theorem dUQ_getterOf_22 : decode prog_4_method_7_code 22 = .ok (.ireturn, 1) := by decide +kernel
theorem dUQ_getterOf_23 : decode prog_4_method_7_code 23 = .ok (.aload_n 1, 1) := by decide +kernel
theorem dUQ_getterOf_24 : decode prog_4_method_7_code 24 = .ok (.getfield 21, 3) := by decide +kernel
theorem dUQ_getterOf_27 : decode prog_4_method_7_code 27 = .ok (.aload_n 0, 1) := by decide +kernel
theorem dUQ_getterOf_28 : decode prog_4_method_7_code 28 = .ok (.getfield 37, 3) := by decide +kernel
theorem dUQ_getterOf_31 : decode prog_4_method_7_code 31 = .ok (.aload_n 0, 1) := by decide +kernel
theorem dUQ_getterOf_32 : decode prog_4_method_7_code 32 = .ok (.getfield 41, 3) := by decide +kernel
theorem dUQ_getterOf_35 : decode prog_4_method_7_code 35 = .ok (.iload_n 3, 1) := by decide +kernel
theorem dUQ_getterOf_36 : decode prog_4_method_7_code 36 = .ok (.iconst 1, 1) := by decide +kernel
theorem dUQ_getterOf_37 : decode prog_4_method_7_code 37 = .ok (.if_icmp .ne 8, 3) := by decide +kernel
theorem dUQ_getterOf_40 : decode prog_4_method_7_code 40 = .ok (.bipush 6, 2) := by decide +kernel
theorem dUQ_getterOf_42 : decode prog_4_method_7_code 42 = .ok (.goto 5, 3) := by decide +kernel
theorem dUQ_getterOf_45 : decode prog_4_method_7_code 45 = .ok (.bipush 9, 2) := by decide +kernel
theorem dUQ_getterOf_47 : decode prog_4_method_7_code 47 = .ok (.invokevirtual 27, 3) := by decide +kernel
theorem dUQ_getterOf_50 : decode prog_4_method_7_code 50 = .ok (.istore 5, 2) := by decide +kernel
theorem dUQ_getterOf_52 : decode prog_4_method_7_code 52 = .ok (.iload 5, 2) := by decide +kernel
theorem dUQ_getterOf_54 : decode prog_4_method_7_code 54 = .ok (.iconst 1, 1) := by decide +kernel
theorem dUQ_getterOf_55 : decode prog_4_method_7_code 55 = .ok (.if_icmp .ne 8, 3) := by decide +kernel
theorem dUQ_getterOf_58 : decode prog_4_method_7_code 58 = .ok (.bipush 40, 2) := by decide +kernel
theorem dUQ_getterOf_60 : decode prog_4_method_7_code 60 = .ok (.goto 16, 3) := by decide +kernel
theorem dUQ_getterOf_63 : decode prog_4_method_7_code 63 = .ok (.iload 5, 2) := by decide +kernel
theorem dUQ_getterOf_65 : decode prog_4_method_7_code 65 = .ok (.iconst 2, 1) := by decide +kernel
theorem dUQ_getterOf_66 : decode prog_4_method_7_code 66 = .ok (.if_icmp .ne 8, 3) := by decide +kernel
theorem dUQ_getterOf_69 : decode prog_4_method_7_code 69 = .ok (.bipush 41, 2) := by decide +kernel
theorem dUQ_getterOf_71 : decode prog_4_method_7_code 71 = .ok (.goto 5, 3) := by decide +kernel
theorem dUQ_getterOf_74 : decode prog_4_method_7_code 74 = .ok (.iload 4, 2) := by decide +kernel
theorem dUQ_getterOf_76 : decode prog_4_method_7_code 76 = .ok (.ireturn, 1) := by decide +kernel
theorem dUQ_give_0 : decode prog_4_method_11_code 0 = .ok (.aload_n 0, 1) := by decide +kernel
theorem dUQ_give_1 : decode prog_4_method_11_code 1 = .ok (.aload_n 1, 1) := by decide +kernel
theorem dUQ_give_2 : decode prog_4_method_11_code 2 = .ok (.iload_n 2, 1) := by decide +kernel
theorem dUQ_give_3 : decode prog_4_method_11_code 3 = .ok (.invokevirtual 107, 3) := by decide +kernel
theorem dUQ_give_6 : decode prog_4_method_11_code 6 = .ok (.lstore_n 3, 1) := by decide +kernel
theorem dUQ_give_7 : decode prog_4_method_11_code 7 = .ok (.aload_n 0, 1) := by decide +kernel
theorem dUQ_give_8 : decode prog_4_method_11_code 8 = .ok (.aload_n 1, 1) := by decide +kernel
theorem dUQ_give_9 : decode prog_4_method_11_code 9 = .ok (.iload_n 2, 1) := by decide +kernel
theorem dUQ_give_10 : decode prog_4_method_11_code 10 = .ok (.aload_n 0, 1) := by decide +kernel
theorem dUQ_give_11 : decode prog_4_method_11_code 11 = .ok (.aload_n 1, 1) := by decide +kernel
theorem dUQ_give_12 : decode prog_4_method_11_code 12 = .ok (.iload_n 2, 1) := by decide +kernel
theorem dUQ_give_13 : decode prog_4_method_11_code 13 = .ok (.invokevirtual 124, 3) := by decide +kernel
theorem dUQ_give_16 : decode prog_4_method_11_code 16 = .ok (.invokevirtual 128, 3) := by decide +kernel
theorem dUQ_give_19 : decode prog_4_method_11_code 19 = .ok (.istore 5, 2) := by decide +kernel
theorem dUQ_give_21 : decode prog_4_method_11_code 21 = .ok (.aload_n 0, 1) := by decide +kernel
theorem dUQ_give_22 : decode prog_4_method_11_code 22 = .ok (.getfield 18, 3) := by decide +kernel
theorem dUQ_give_25 : decode prog_4_method_11_code 25 = .ok (.iload 5, 2) := by decide +kernel
theorem dUQ_give_27 : decode prog_4_method_11_code 27 = .ok (.dup2, 1) := by decide +kernel
theorem dUQ_give_28 : decode prog_4_method_11_code 28 = .ok (.laload, 1) := by decide +kernel
theorem dUQ_give_29 : decode prog_4_method_11_code 29 = .ok (.lload_n 3, 1) := by decide +kernel
theorem dUQ_give_30 : decode prog_4_method_11_code 30 = .ok (.ladd, 1) := by decide +kernel
theorem dUQ_give_31 : decode prog_4_method_11_code 31 = .ok (.lastore, 1) := by decide +kernel
theorem dUQ_give_32 : decode prog_4_method_11_code 32 = .ok (.aload_n 0, 1) := by decide +kernel
theorem dUQ_give_33 : decode prog_4_method_11_code 33 = .ok (.getfield 18, 3) := by decide +kernel
theorem dUQ_give_36 : decode prog_4_method_11_code 36 = .ok (.bipush 20, 2) := by decide +kernel
theorem dUQ_give_38 : decode prog_4_method_11_code 38 = .ok (.aload_n 0, 1) := by decide +kernel
theorem dUQ_give_39 : decode prog_4_method_11_code 39 = .ok (.getfield 37, 3) := by decide +kernel
theorem dUQ_give_42 : decode prog_4_method_11_code 42 = .ok (.iadd, 1) := by decide +kernel
theorem dUQ_give_43 : decode prog_4_method_11_code 43 = .ok (.dup2, 1) := by decide +kernel
theorem dUQ_give_44 : decode prog_4_method_11_code 44 = .ok (.laload, 1) := by decide +kernel
theorem dUQ_give_45 : decode prog_4_method_11_code 45 = .ok (.lload_n 3, 1) := by decide +kernel
theorem dUQ_give_46 : decode prog_4_method_11_code 46 = .ok (.lsub, 1) := by decide +kernel
theorem dUQ_give_47 : decode prog_4_method_11_code 47 = .ok (.lastore, 1) := by decide +kernel
theorem dUQ_give_48 : decode prog_4_method_11_code 48 = .ok (.return_, 1) := by decide +kernel
theorem dUQ_lacking_0 : decode prog_4_method_9_code 0 = .ok (.aload_n 2, 1) := by decide +kernel
theorem dUQ_lacking_1 : decode prog_4_method_9_code 1 = .ok (.getfield 118, 3) := by decide +kernel
theorem dUQ_lacking_4 : decode prog_4_method_9_code 4 = .ok (.aload_n 0, 1) := by decide +kernel
theorem dUQ_lacking_5 : decode prog_4_method_9_code 5 = .ok (.getfield 37, 3) := by decide +kernel
theorem dUQ_lacking_8 : decode prog_4_method_9_code 8 = .ok (.laload, 1) := by decide +kernel
theorem dUQ_lacking_9 : decode prog_4_method_9_code 9 = .ok (.aload_n 2, 1) := by decide +kernel
theorem dUQ_lacking_10 : decode prog_4_method_9_code 10 = .ok (.getfield 121, 3) := by decide +kernel
theorem dUQ_lacking_13 : decode prog_4_method_9_code 13 = .ok (.aload_n 0, 1) := by decide +kernel
theorem dUQ_lacking_14 : decode prog_4_method_9_code 14 = .ok (.getfield 37, 3) := by decide +kernel
theorem dUQ_lacking_17 : decode prog_4_method_9_code 17 = .ok (.laload, 1) := by decide +kernel
theorem dUQ_lacking_18 : decode prog_4_method_9_code 18 = .ok (.lsub, 1) := by decide +kernel
theorem dUQ_lacking_19 : decode prog_4_method_9_code 19 = .ok (.lstore_n 3, 1) := by decide +kernel
theorem dUQ_lacking_20 : decode prog_4_method_9_code 20 = .ok (.iconst 0, 1) := by decide +kernel
theorem dUQ_lacking_21 : decode prog_4_method_9_code 21 = .ok (.istore 5, 2) := by decide +kernel
theorem dUQ_lacking_23 : decode prog_4_method_9_code 23 = .ok (.iload 5, 2) := by decide +kernel
theorem dUQ_lacking_25 : decode prog_4_method_9_code 25 = .ok (.bipush 24, 2) := by decide +kernel
theorem dUQ_lacking_27 : decode prog_4_method_9_code 27 = .ok (.if_icmp .ge 69, 3) := by decide +kernel
theorem dUQ_lacking_30 : decode prog_4_method_9_code 30 = .ok (.aload_n 0, 1) := by decide +kernel
theorem dUQ_lacking_31 : decode prog_4_method_9_code 31 = .ok (.aload_n 1, 1) := by decide +kernel
theorem dUQ_lacking_32 : decode prog_4_method_9_code 32 = .ok (.iload 5, 2) := by decide +kernel
theorem dUQ_lacking_34 : decode prog_4_method_9_code 34 = .ok (.invokevirtual 107, 3) := by decide +kernel
theorem dUQ_lacking_37 : decode prog_4_method_9_code 37 = .ok (.lstore 6, 2) := by decide +kernel
theorem dUQ_lacking_39 : decode prog_4_method_9_code 39 = .ok (.aload_n 0, 1) := by decide +kernel
theorem dUQ_lacking_40 : decode prog_4_method_9_code 40 = .ok (.aload_n 1, 1) := by decide +kernel
theorem dUQ_lacking_41 : decode prog_4_method_9_code 41 = .ok (.iload 5, 2) := by decide +kernel
theorem dUQ_lacking_43 : decode prog_4_method_9_code 43 = .ok (.invokevirtual 124, 3) := by decide +kernel
theorem dUQ_lacking_46 : decode prog_4_method_9_code 46 = .ok (.istore 8, 2) := by decide +kernel
theorem dUQ_lacking_48 : decode prog_4_method_9_code 48 = .ok (.iload 8, 2) := by decide +kernel
theorem dUQ_lacking_50 : decode prog_4_method_9_code 50 = .ok (.iconst 2, 1) := by decide +kernel
theorem dUQ_lacking_51 : decode prog_4_method_9_code 51 = .ok (.if_icmp .eq 26, 3) := by decide +kernel
theorem dUQ_lacking_54 : decode prog_4_method_9_code 54 = .ok (.aload_n 0, 1) := by decide +kernel
theorem dUQ_lacking_55 : decode prog_4_method_9_code 55 = .ok (.aload_n 1, 1) := by decide +kernel
theorem dUQ_lacking_56 : decode prog_4_method_9_code 56 = .ok (.iload 5, 2) := by decide +kernel
theorem dUQ_lacking_58 : decode prog_4_method_9_code 58 = .ok (.iload 8, 2) := by decide +kernel
theorem dUQ_lacking_60 : decode prog_4_method_9_code 60 = .ok (.invokevirtual 128, 3) := by decide +kernel
theorem dUQ_lacking_63 : decode prog_4_method_9_code 63 = .ok (.bipush 20, 2) := by decide +kernel
theorem dUQ_lacking_65 : decode prog_4_method_9_code 65 = .ok (.aload_n 0, 1) := by decide +kernel
theorem dUQ_lacking_66 : decode prog_4_method_9_code 66 = .ok (.getfield 37, 3) := by decide +kernel
theorem dUQ_lacking_69 : decode prog_4_method_9_code 69 = .ok (.iadd, 1) := by decide +kernel
theorem dUQ_lacking_70 : decode prog_4_method_9_code 70 = .ok (.if_icmp .ne 7, 3) := by decide +kernel
theorem dUQ_lacking_73 : decode prog_4_method_9_code 73 = .ok (.iconst 1, 1) := by decide +kernel
theorem dUQ_lacking_74 : decode prog_4_method_9_code 74 = .ok (.goto 4, 3) := by decide +kernel
theorem dUQ_lacking_77 : decode prog_4_method_9_code 77 = .ok (.iconst 0, 1) := by decide +kernel
theorem dUQ_lacking_78 : decode prog_4_method_9_code 78 = .ok (.istore 9, 2) := by decide +kernel
theorem dUQ_lacking_80 : decode prog_4_method_9_code 80 = .ok (.iload 9, 2) := by decide +kernel
theorem dUQ_lacking_82 : decode prog_4_method_9_code 82 = .ok (.ifCond .ne 8, 3) := by decide +kernel
theorem dUQ_lacking_85 : decode prog_4_method_9_code 85 = .ok (.lload_n 3, 1) := by decide +kernel
theorem dUQ_lacking_86 : decode prog_4_method_9_code 86 = .ok (.lload 6, 2) := by decide +kernel
theorem dUQ_lacking_88 : decode prog_4_method_9_code 88 = .ok (.ladd, 1) := by decide +kernel
theorem dUQ_lacking_89 : decode prog_4_method_9_code 89 = .ok (.lstore_n 3, 1) := by decide +kernel
theorem dUQ_lacking_90 : decode prog_4_method_9_code 90 = .ok (.iinc 5 1, 3) := by decide +kernel
theorem dUQ_lacking_93 : decode prog_4_method_9_code 93 = .ok (.goto (-70), 3) := by decide +kernel
theorem dUQ_lacking_96 : decode prog_4_method_9_code 96 = .ok (.lload_n 3, 1) := by decide +kernel
theorem dUQ_lacking_97 : decode prog_4_method_9_code 97 = .ok (.lreturn, 1) := by decide +kernel
theorem dUQ_sumAboveZero_0 : decode prog_4_method_8_code 0 = .ok (.lconst 0, 1) := by decide +kernel
theorem dUQ_sumAboveZero_1 : decode prog_4_method_8_code 1 = .ok (.lstore_n 2, 1) := by decide +kernel
theorem dUQ_sumAboveZero_2 : decode prog_4_method_8_code 2 = .ok (.iconst 0, 1) := by decide +kernel
theorem dUQ_sumAboveZero_3 : decode prog_4_method_8_code 3 = .ok (.istore 4, 2) := by decide +kernel
theorem dUQ_sumAboveZero_5 : decode prog_4_method_8_code 5 = .ok (.iload 4, 2) := by decide +kernel
theorem dUQ_sumAboveZero_7 : decode prog_4_method_8_code 7 = .ok (.bipush 24, 2) := by decide +kernel
theorem dUQ_sumAboveZero_9 : decode prog_4_method_8_code 9 = .ok (.if_icmp .ge 23, 3) := by decide +kernel
theorem dUQ_sumAboveZero_12 : decode prog_4_method_8_code 12 = .ok (.lload_n 2, 1) := by decide +kernel
theorem dUQ_sumAboveZero_13 : decode prog_4_method_8_code 13 = .ok (.lconst 0, 1) := by decide +kernel
theorem dUQ_sumAboveZero_14 : decode prog_4_method_8_code 14 = .ok (.aload_n 0, 1) := by decide +kernel
theorem dUQ_sumAboveZero_15 : decode prog_4_method_8_code 15 = .ok (.aload_n 1, 1) := by decide +kernel
theorem dUQ_sumAboveZero_16 : decode prog_4_method_8_code 16 = .ok (.iload 4, 2) := by decide +kernel
theorem dUQ_sumAboveZero_18 : decode prog_4_method_8_code 18 = .ok (.invokevirtual 107, 3) := by decide +kernel
theorem dUQ_sumAboveZero_21 : decode prog_4_method_8_code 21 = .ok (.invokestatic 101, 3) := by decide +kernel
theorem dUQ_sumAboveZero_24 : decode prog_4_method_8_code 24 = .ok (.ladd, 1) := by decide +kernel
theorem dUQ_sumAboveZero_25 : decode prog_4_method_8_code 25 = .ok (.lstore_n 2, 1) := by decide +kernel
theorem dUQ_sumAboveZero_26 : decode prog_4_method_8_code 26 = .ok (.iinc 4 1, 3) := by decide +kernel
theorem dUQ_sumAboveZero_29 : decode prog_4_method_8_code 29 = .ok (.goto (-24), 3) := by decide +kernel
theorem dUQ_sumAboveZero_32 : decode prog_4_method_8_code 32 = .ok (.lload_n 2, 1) := by decide +kernel
theorem dUQ_sumAboveZero_33 : decode prog_4_method_8_code 33 = .ok (.lreturn, 1) := by decide +kernel
theorem dUQ_sumOf_0 : decode prog_4_method_5_code 0 = .ok (.aload_n 1, 1) := by decide +kernel
theorem dUQ_sumOf_1 : decode prog_4_method_5_code 1 = .ok (.getfield 21, 3) := by decide +kernel
theorem dUQ_sumOf_4 : decode prog_4_method_5_code 4 = .ok (.aload_n 0, 1) := by decide +kernel
theorem dUQ_sumOf_5 : decode prog_4_method_5_code 5 = .ok (.getfield 37, 3) := by decide +kernel
theorem dUQ_sumOf_8 : decode prog_4_method_5_code 8 = .ok (.aload_n 0, 1) := by decide +kernel
theorem dUQ_sumOf_9 : decode prog_4_method_5_code 9 = .ok (.getfield 41, 3) := by decide +kernel
theorem dUQ_sumOf_12 : decode prog_4_method_5_code 12 = .ok (.bipush 7, 2) := by decide +kernel
theorem dUQ_sumOf_14 : decode prog_4_method_5_code 14 = .ok (.invokevirtual 27, 3) := by decide +kernel
theorem dUQ_sumOf_17 : decode prog_4_method_5_code 17 = .ok (.istore_n 3, 1) := by decide +kernel
theorem dUQ_sumOf_18 : decode prog_4_method_5_code 18 = .ok (.iload_n 3, 1) := by decide +kernel
theorem dUQ_sumOf_19 : decode prog_4_method_5_code 19 = .ok (.iconst (-1), 1) := by decide +kernel
theorem dUQ_sumOf_20 : decode prog_4_method_5_code 20 = .ok (.if_icmp .ne 10, 3) := by decide +kernel
theorem dUQ_sumOf_23 : decode prog_4_method_5_code 23 = .ok (.aload_n 0, 1) := by decide +kernel
theorem dUQ_sumOf_24 : decode prog_4_method_5_code 24 = .ok (.getfield 9, 3) := by decide +kernel
theorem dUQ_sumOf_27 : decode prog_4_method_5_code 27 = .ok (.iload_n 2, 1) := by decide +kernel
theorem dUQ_sumOf_28 : decode prog_4_method_5_code 28 = .ok (.laload, 1) := by decide +kernel
theorem dUQ_sumOf_29 : decode prog_4_method_5_code 29 = .ok (.lreturn, 1) := by decide +kernel
theorem dUQ_sumOf_30 : decode prog_4_method_5_code 30 = .ok (.aload_n 0, 1) := by decide +kernel
theorem dUQ_sumOf_31 : decode prog_4_method_5_code 31 = .ok (.getfield 9, 3) := by decide +kernel
theorem dUQ_sumOf_34 : decode prog_4_method_5_code 34 = .ok (.iload_n 2, 1) := by decide +kernel
theorem dUQ_sumOf_35 : decode prog_4_method_5_code 35 = .ok (.laload, 1) := by decide +kernel
theorem dUQ_sumOf_36 : decode prog_4_method_5_code 36 = .ok (.aload_n 0, 1) := by decide +kernel
theorem dUQ_sumOf_37 : decode prog_4_method_5_code 37 = .ok (.getfield 15, 3) := by decide +kernel
theorem dUQ_sumOf_40 : decode prog_4_method_5_code 40 = .ok (.iload_n 2, 1) := by decide +kernel
theorem dUQ_sumOf_41 : decode prog_4_method_5_code 41 = .ok (.laload, 1) := by decide +kernel
theorem dUQ_sumOf_42 : decode prog_4_method_5_code 42 = .ok (.lsub, 1) := by decide +kernel
theorem dUQ_sumOf_43 : decode prog_4_method_5_code 43 = .ok (.lstore 4, 2) := by decide +kernel
theorem dUQ_sumOf_45 : decode prog_4_method_5_code 45 = .ok (.lload 4, 2) := by decide +kernel
theorem dUQ_sumOf_47 : decode prog_4_method_5_code 47 = .ok (.lconst 0, 1) := by decide +kernel
theorem dUQ_sumOf_48 : decode prog_4_method_5_code 48 = .ok (.lcmp, 1) := by decide +kernel
theorem dUQ_sumOf_49 : decode prog_4_method_5_code 49 = .ok (.ifCond .ge 16, 3) := by decide +kernel
theorem dUQ_sumOf_52 : decode prog_4_method_5_code 52 = .ok (.lload 4, 2) := by decide +kernel
theorem dUQ_sumOf_54 : decode prog_4_method_5_code 54 = .ok (.iload_n 3, 1) := by decide +kernel
theorem dUQ_sumOf_55 : decode prog_4_method_5_code 55 = .ok (.ineg, 1) := by decide +kernel
theorem dUQ_sumOf_56 : decode prog_4_method_5_code 56 = .ok (.i2l, 1) := by decide +kernel
theorem dUQ_sumOf_57 : decode prog_4_method_5_code 57 = .ok (.lcmp, 1) := by decide +kernel
theorem dUQ_sumOf_58 : decode prog_4_method_5_code 58 = .ok (.ifCond .lt 7, 3) := by decide +kernel
theorem dUQ_sumOf_61 : decode prog_4_method_5_code 61 = .ok (.lconst 0, 1) := by decide +kernel
theorem dUQ_sumOf_62 : decode prog_4_method_5_code 62 = .ok (.goto 5, 3) := by decide +kernel
theorem dUQ_sumOf_65 : decode prog_4_method_5_code 65 = .ok (.lload 4, 2) := by decide +kernel
theorem dUQ_sumOf_67 : decode prog_4_method_5_code 67 = .ok (.lreturn, 1) := by decide +kernel
theorem dUQ_wayOf_0 : decode prog_4_method_6_code 0 = .ok (.aload_n 0, 1) := by decide +kernel
theorem dUQ_wayOf_1 : decode prog_4_method_6_code 1 = .ok (.aload_n 1, 1) := by decide +kernel
theorem dUQ_wayOf_2 : decode prog_4_method_6_code 2 = .ok (.iload_n 2, 1) := by decide +kernel
theorem dUQ_wayOf_3 : decode prog_4_method_6_code 3 = .ok (.invokevirtual 107, 3) := by decide +kernel
theorem dUQ_wayOf_6 : decode prog_4_method_6_code 6 = .ok (.lstore_n 3, 1) := by decide +kernel
theorem dUQ_wayOf_7 : decode prog_4_method_6_code 7 = .ok (.lload_n 3, 1) := by decide +kernel
theorem dUQ_wayOf_8 : decode prog_4_method_6_code 8 = .ok (.lconst 0, 1) := by decide +kernel
theorem dUQ_wayOf_9 : decode prog_4_method_6_code 9 = .ok (.lcmp, 1) := by decide +kernel
theorem dUQ_wayOf_10 : decode prog_4_method_6_code 10 = .ok (.ifCond .gt 5, 3) := by decide +kernel
theorem dUQ_wayOf_13 : decode prog_4_method_6_code 13 = .ok (.iconst 0, 1) := by decide +kernel
theorem dUQ_wayOf_14 : decode prog_4_method_6_code 14 = .ok (.ireturn, 1) := by decide +kernel
theorem dUQ_wayOf_15 : decode prog_4_method_6_code 15 = .ok (.lload_n 3, 1) := by decide +kernel
theorem dUQ_wayOf_16 : decode prog_4_method_6_code 16 = .ok (.aload_n 1, 1) := by decide +kernel
theorem dUQ_wayOf_17 : decode prog_4_method_6_code 17 = .ok (.getfield 21, 3) := by decide +kernel
theorem dUQ_wayOf_20 : decode prog_4_method_6_code 20 = .ok (.aload_n 0, 1) := by decide +kernel
theorem dUQ_wayOf_21 : decode prog_4_method_6_code 21 = .ok (.getfield 37, 3) := by decide +kernel
theorem dUQ_wayOf_24 : decode prog_4_method_6_code 24 = .ok (.aload_n 0, 1) := by decide +kernel
theorem dUQ_wayOf_25 : decode prog_4_method_6_code 25 = .ok (.getfield 41, 3) := by decide +kernel
theorem dUQ_wayOf_28 : decode prog_4_method_6_code 28 = .ok (.iconst 5, 1) := by decide +kernel
theorem dUQ_wayOf_29 : decode prog_4_method_6_code 29 = .ok (.invokevirtual 27, 3) := by decide +kernel
theorem dUQ_wayOf_32 : decode prog_4_method_6_code 32 = .ok (.i2l, 1) := by decide +kernel
theorem dUQ_wayOf_33 : decode prog_4_method_6_code 33 = .ok (.lcmp, 1) := by decide +kernel
theorem dUQ_wayOf_34 : decode prog_4_method_6_code 34 = .ok (.ifCond .ge 5, 3) := by decide +kernel
theorem dUQ_wayOf_37 : decode prog_4_method_6_code 37 = .ok (.iconst 1, 1) := by decide +kernel
theorem dUQ_wayOf_38 : decode prog_4_method_6_code 38 = .ok (.ireturn, 1) := by decide +kernel
theorem dUQ_wayOf_39 : decode prog_4_method_6_code 39 = .ok (.aload_n 1, 1) := by decide +kernel
theorem dUQ_wayOf_40 : decode prog_4_method_6_code 40 = .ok (.iload_n 2, 1) := by decide +kernel
theorem dUQ_wayOf_41 : decode prog_4_method_6_code 41 = .ok (.aload_n 0, 1) := by decide +kernel
theorem dUQ_wayOf_42 : decode prog_4_method_6_code 42 = .ok (.getfield 41, 3) := by decide +kernel
theorem dUQ_wayOf_45 : decode prog_4_method_6_code 45 = .ok (.invokevirtual 111, 3) := by decide +kernel
theorem dUQ_wayOf_48 : decode prog_4_method_6_code 48 = .ok (.ifCond .ne 5, 3) := by decide +kernel
theorem dUQ_wayOf_51 : decode prog_4_method_6_code 51 = .ok (.iconst 0, 1) := by decide +kernel
theorem dUQ_wayOf_52 : decode prog_4_method_6_code 52 = .ok (.ireturn, 1) := by decide +kernel
theorem dUQ_wayOf_53 : decode prog_4_method_6_code 53 = .ok (.aload_n 1, 1) := by decide +kernel
theorem dUQ_wayOf_54 : decode prog_4_method_6_code 54 = .ok (.getfield 115, 3) := by decide +kernel
theorem dUQ_wayOf_57 : decode prog_4_method_6_code 57 = .ok (.aload_n 0, 1) := by decide +kernel
theorem dUQ_wayOf_58 : decode prog_4_method_6_code 58 = .ok (.getfield 37, 3) := by decide +kernel
theorem dUQ_wayOf_61 : decode prog_4_method_6_code 61 = .ok (.iaload, 1) := by decide +kernel
theorem dUQ_wayOf_62 : decode prog_4_method_6_code 62 = .ok (.istore 5, 2) := by decide +kernel
theorem dUQ_wayOf_64 : decode prog_4_method_6_code 64 = .ok (.iload 5, 2) := by decide +kernel
theorem dUQ_wayOf_66 : decode prog_4_method_6_code 66 = .ok (.iconst (-1), 1) := by decide +kernel
theorem dUQ_wayOf_67 : decode prog_4_method_6_code 67 = .ok (.if_icmp .eq 34, 3) := by decide +kernel
theorem dUQ_wayOf_70 : decode prog_4_method_6_code 70 = .ok (.aload_n 0, 1) := by decide +kernel
theorem dUQ_wayOf_71 : decode prog_4_method_6_code 71 = .ok (.getfield 41, 3) := by decide +kernel
theorem dUQ_wayOf_74 : decode prog_4_method_6_code 74 = .ok (.iload 5, 2) := by decide +kernel
theorem dUQ_wayOf_76 : decode prog_4_method_6_code 76 = .ok (.isub, 1) := by decide +kernel
theorem dUQ_wayOf_77 : decode prog_4_method_6_code 77 = .ok (.aload_n 1, 1) := by decide +kernel
theorem dUQ_wayOf_78 : decode prog_4_method_6_code 78 = .ok (.getfield 21, 3) := by decide +kernel
theorem dUQ_wayOf_81 : decode prog_4_method_6_code 81 = .ok (.aload_n 0, 1) := by decide +kernel
theorem dUQ_wayOf_82 : decode prog_4_method_6_code 82 = .ok (.getfield 37, 3) := by decide +kernel
theorem dUQ_wayOf_85 : decode prog_4_method_6_code 85 = .ok (.aload_n 0, 1) := by decide +kernel
theorem dUQ_wayOf_86 : decode prog_4_method_6_code 86 = .ok (.getfield 41, 3) := by decide +kernel
theorem dUQ_wayOf_89 : decode prog_4_method_6_code 89 = .ok (.bipush 8, 2) := by decide +kernel
theorem dUQ_wayOf_91 : decode prog_4_method_6_code 91 = .ok (.invokevirtual 27, 3) := by decide +kernel
theorem dUQ_wayOf_94 : decode prog_4_method_6_code 94 = .ok (.if_icmp .lt 7, 3) := by decide +kernel
theorem dUQ_wayOf_97 : decode prog_4_method_6_code 97 = .ok (.iconst 1, 1) := by decide +kernel
theorem dUQ_wayOf_98 : decode prog_4_method_6_code 98 = .ok (.goto 4, 3) := by decide +kernel
theorem dUQ_wayOf_101 : decode prog_4_method_6_code 101 = .ok (.iconst 0, 1) := by decide +kernel
theorem dUQ_wayOf_102 : decode prog_4_method_6_code 102 = .ok (.istore 6, 2) := by decide +kernel
theorem dUQ_wayOf_104 : decode prog_4_method_6_code 104 = .ok (.iload 6, 2) := by decide +kernel
theorem dUQ_wayOf_106 : decode prog_4_method_6_code 106 = .ok (.ifCond .eq 7, 3) := by decide +kernel
theorem dUQ_wayOf_109 : decode prog_4_method_6_code 109 = .ok (.iconst 3, 1) := by decide +kernel
theorem dUQ_wayOf_110 : decode prog_4_method_6_code 110 = .ok (.goto 4, 3) := by decide +kernel
theorem dUQ_wayOf_113 : decode prog_4_method_6_code 113 = .ok (.iconst 2, 1) := by decide +kernel
theorem dUQ_wayOf_114 : decode prog_4_method_6_code 114 = .ok (.ireturn, 1) := by decide +kernel
theorem dUQ_weigh_0 : decode prog_4_method_10_code 0 = .ok (.aload_n 0, 1) := by decide +kernel
theorem dUQ_weigh_1 : decode prog_4_method_10_code 1 = .ok (.getfield 18, 3) := by decide +kernel
theorem dUQ_weigh_4 : decode prog_4_method_10_code 4 = .ok (.lconst 0, 1) := by decide +kernel
theorem dUQ_weigh_5 : decode prog_4_method_10_code 5 = .ok (.invokestatic 44, 3) := by decide +kernel
theorem dUQ_weigh_8 : decode prog_4_method_10_code 8 = .ok (.iconst 0, 1) := by decide +kernel
theorem dUQ_weigh_9 : decode prog_4_method_10_code 9 = .ok (.istore_n 3, 1) := by decide +kernel
theorem dUQ_weigh_10 : decode prog_4_method_10_code 10 = .ok (.iload_n 3, 1) := by decide +kernel
theorem dUQ_weigh_11 : decode prog_4_method_10_code 11 = .ok (.bipush 24, 2) := by decide +kernel
theorem dUQ_weigh_13 : decode prog_4_method_10_code 13 = .ok (.if_icmp .ge 15, 3) := by decide +kernel
theorem dUQ_weigh_16 : decode prog_4_method_10_code 16 = .ok (.aload_n 0, 1) := by decide +kernel
theorem dUQ_weigh_17 : decode prog_4_method_10_code 17 = .ok (.aload_n 1, 1) := by decide +kernel
theorem dUQ_weigh_18 : decode prog_4_method_10_code 18 = .ok (.iload_n 3, 1) := by decide +kernel
theorem dUQ_weigh_19 : decode prog_4_method_10_code 19 = .ok (.invokevirtual 132, 3) := by decide +kernel
theorem dUQ_weigh_22 : decode prog_4_method_10_code 22 = .ok (.iinc 3 1, 3) := by decide +kernel
theorem dUQ_weigh_25 : decode prog_4_method_10_code 25 = .ok (.goto (-15), 3) := by decide +kernel
theorem dUQ_weigh_28 : decode prog_4_method_10_code 28 = .ok (.aload_n 0, 1) := by decide +kernel
