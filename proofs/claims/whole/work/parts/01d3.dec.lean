theorem dUQ_weigh_29 : decode prog_4_method_10_code 29 = .ok (.aload_n 1, 1) := by decide +kernel
theorem dUQ_weigh_30 : decode prog_4_method_10_code 30 = .ok (.aload_n 2, 1) := by decide +kernel
theorem dUQ_weigh_31 : decode prog_4_method_10_code 31 = .ok (.invokevirtual 136, 3) := by decide +kernel
theorem dUQ_weigh_34 : decode prog_4_method_10_code 34 = .ok (.lstore_n 3, 1) := by decide +kernel
theorem dUQ_weigh_35 : decode prog_4_method_10_code 35 = .ok (.aload_n 0, 1) := by decide +kernel
theorem dUQ_weigh_36 : decode prog_4_method_10_code 36 = .ok (.getfield 18, 3) := by decide +kernel
theorem dUQ_weigh_39 : decode prog_4_method_10_code 39 = .ok (.bipush 40, 2) := by decide +kernel
theorem dUQ_weigh_41 : decode prog_4_method_10_code 41 = .ok (.dup2, 1) := by decide +kernel
theorem dUQ_weigh_42 : decode prog_4_method_10_code 42 = .ok (.laload, 1) := by decide +kernel
theorem dUQ_weigh_43 : decode prog_4_method_10_code 43 = .ok (.lload_n 3, 1) := by decide +kernel
theorem dUQ_weigh_44 : decode prog_4_method_10_code 44 = .ok (.lsub, 1) := by decide +kernel
theorem dUQ_weigh_45 : decode prog_4_method_10_code 45 = .ok (.lastore, 1) := by decide +kernel
theorem dUQ_weigh_46 : decode prog_4_method_10_code 46 = .ok (.aload_n 0, 1) := by decide +kernel
theorem dUQ_weigh_47 : decode prog_4_method_10_code 47 = .ok (.getfield 18, 3) := by decide +kernel
theorem dUQ_weigh_50 : decode prog_4_method_10_code 50 = .ok (.bipush 20, 2) := by decide +kernel
theorem dUQ_weigh_52 : decode prog_4_method_10_code 52 = .ok (.aload_n 0, 1) := by decide +kernel
theorem dUQ_weigh_53 : decode prog_4_method_10_code 53 = .ok (.getfield 37, 3) := by decide +kernel
theorem dUQ_weigh_56 : decode prog_4_method_10_code 56 = .ok (.iadd, 1) := by decide +kernel
theorem dUQ_weigh_57 : decode prog_4_method_10_code 57 = .ok (.dup2, 1) := by decide +kernel
theorem dUQ_weigh_58 : decode prog_4_method_10_code 58 = .ok (.laload, 1) := by decide +kernel
theorem dUQ_weigh_59 : decode prog_4_method_10_code 59 = .ok (.lload_n 3, 1) := by decide +kernel
theorem dUQ_weigh_60 : decode prog_4_method_10_code 60 = .ok (.ladd, 1) := by decide +kernel
theorem dUQ_weigh_61 : decode prog_4_method_10_code 61 = .ok (.lastore, 1) := by decide +kernel
theorem dUQ_weigh_62 : decode prog_4_method_10_code 62 = .ok (.return_, 1) := by decide +kernel
theorem dUS_dealingDay_0 : decode prog_9_method_8_code 0 = .ok (.aload_n 0, 1) := by decide +kernel
theorem dUS_dealingDay_1 : decode prog_9_method_8_code 1 = .ok (.iload_n 1, 1) := by decide +kernel
theorem dUS_dealingDay_2 : decode prog_9_method_8_code 2 = .ok (.invokevirtual 88, 3) := by decide +kernel
theorem dUS_dealingDay_5 : decode prog_9_method_8_code 5 = .ok (.ifCond .eq 12, 3) := by decide +kernel
theorem dUS_dealingDay_8 : decode prog_9_method_8_code 8 = .ok (.aload_n 0, 1) := by decide +kernel
theorem dUS_dealingDay_9 : decode prog_9_method_8_code 9 = .ok (.getfield 19, 3) := by decide +kernel
theorem dUS_dealingDay_12 : decode prog_9_method_8_code 12 = .ok (.iload_n 1, 1) := by decide +kernel
theorem dUS_dealingDay_13 : decode prog_9_method_8_code 13 = .ok (.iaload, 1) := by decide +kernel
theorem dUS_dealingDay_14 : decode prog_9_method_8_code 14 = .ok (.goto 4, 3) := by decide +kernel
theorem dUS_dealingDay_17 : decode prog_9_method_8_code 17 = .ok (.iconst 0, 1) := by decide +kernel
theorem dUS_dealingDay_18 : decode prog_9_method_8_code 18 = .ok (.istore 4, 2) := by decide +kernel
theorem dUS_dealingDay_20 : decode prog_9_method_8_code 20 = .ok (.aload_n 0, 1) := by decide +kernel
theorem dUS_dealingDay_21 : decode prog_9_method_8_code 21 = .ok (.aload_n 0, 1) := by decide +kernel
theorem dUS_dealingDay_22 : decode prog_9_method_8_code 22 = .ok (.getfield 97, 3) := by decide +kernel
theorem dUS_dealingDay_25 : decode prog_9_method_8_code 25 = .ok (.invokevirtual 94, 3) := by decide +kernel
theorem dUS_dealingDay_28 : decode prog_9_method_8_code 28 = .ok (.ifCond .eq 28, 3) := by decide +kernel
theorem dUS_dealingDay_31 : decode prog_9_method_8_code 31 = .ok (.iload_n 3, 1) := by decide +kernel
theorem dUS_dealingDay_32 : decode prog_9_method_8_code 32 = .ok (.iload 4, 2) := by decide +kernel
theorem dUS_dealingDay_34 : decode prog_9_method_8_code 34 = .ok (.isub, 1) := by decide +kernel
theorem dUS_dealingDay_35 : decode prog_9_method_8_code 35 = .ok (.aload_n 0, 1) := by decide +kernel
theorem dUS_dealingDay_36 : decode prog_9_method_8_code 36 = .ok (.getfield 61, 3) := by decide +kernel
theorem dUS_dealingDay_39 : decode prog_9_method_8_code 39 = .ok (.iload_n 2, 1) := by decide +kernel
theorem dUS_dealingDay_40 : decode prog_9_method_8_code 40 = .ok (.aload_n 0, 1) := by decide +kernel
theorem dUS_dealingDay_41 : decode prog_9_method_8_code 41 = .ok (.getfield 97, 3) := by decide +kernel
theorem dUS_dealingDay_44 : decode prog_9_method_8_code 44 = .ok (.iconst 3, 1) := by decide +kernel
theorem dUS_dealingDay_45 : decode prog_9_method_8_code 45 = .ok (.invokevirtual 100, 3) := by decide +kernel
theorem dUS_dealingDay_48 : decode prog_9_method_8_code 48 = .ok (.if_icmp .ge 8, 3) := by decide +kernel
theorem dUS_dealingDay_51 : decode prog_9_method_8_code 51 = .ok (.aload_n 0, 1) := by decide +kernel
theorem dUS_dealingDay_52 : decode prog_9_method_8_code 52 = .ok (.getfield 97, 3) := by decide +kernel
theorem dUS_dealingDay_55 : decode prog_9_method_8_code 55 = .ok (.ireturn, 1) := by decide +kernel
theorem dUS_dealingDay_56 : decode prog_9_method_8_code 56 = .ok (.aload_n 0, 1) := by decide +kernel
theorem dUS_dealingDay_57 : decode prog_9_method_8_code 57 = .ok (.aload_n 0, 1) := by decide +kernel
theorem dUS_dealingDay_58 : decode prog_9_method_8_code 58 = .ok (.getfield 97, 3) := by decide +kernel
theorem dUS_dealingDay_61 : decode prog_9_method_8_code 61 = .ok (.invokevirtual 104, 3) := by decide +kernel
theorem dUS_dealingDay_64 : decode prog_9_method_8_code 64 = .ok (.ireturn, 1) := by decide +kernel
theorem dUS_isFund_0 : decode prog_9_method_2_code 0 = .ok (.iload_n 1, 1) := by decide +kernel
theorem dUS_isFund_1 : decode prog_9_method_2_code 1 = .ok (.ifCond .lt 15, 3) := by decide +kernel
theorem dUS_isFund_4 : decode prog_9_method_2_code 4 = .ok (.iload_n 1, 1) := by decide +kernel
theorem dUS_isFund_5 : decode prog_9_method_2_code 5 = .ok (.aload_n 0, 1) := by decide +kernel
theorem dUS_isFund_6 : decode prog_9_method_2_code 6 = .ok (.getfield 77, 3) := by decide +kernel
theorem dUS_isFund_9 : decode prog_9_method_2_code 9 = .ok (.if_icmp .ge 7, 3) := by decide +kernel
theorem dUS_isFund_12 : decode prog_9_method_2_code 12 = .ok (.iconst 1, 1) := by decide +kernel
theorem dUS_isFund_13 : decode prog_9_method_2_code 13 = .ok (.goto 4, 3) := by decide +kernel
theorem dUS_isFund_16 : decode prog_9_method_2_code 16 = .ok (.iconst 0, 1) := by decide +kernel
theorem dUS_isFund_17 : decode prog_9_method_2_code 17 = .ok (.ireturn, 1) := by decide +kernel
theorem dUS_isGoneOn_0 : decode prog_9_method_11_code 0 = .ok (.aload_n 0, 1) := by decide +kernel
theorem dUS_isGoneOn_1 : decode prog_9_method_11_code 1 = .ok (.iload_n 1, 1) := by decide +kernel
theorem dUS_isGoneOn_2 : decode prog_9_method_11_code 2 = .ok (.invokevirtual 88, 3) := by decide +kernel
theorem dUS_isGoneOn_5 : decode prog_9_method_11_code 5 = .ok (.ifCond .eq 27, 3) := by decide +kernel
theorem dUS_isGoneOn_8 : decode prog_9_method_11_code 8 = .ok (.aload_n 0, 1) := by decide +kernel
theorem dUS_isGoneOn_9 : decode prog_9_method_11_code 9 = .ok (.getfield 22, 3) := by decide +kernel
theorem dUS_isGoneOn_12 : decode prog_9_method_11_code 12 = .ok (.iload_n 1, 1) := by decide +kernel
theorem dUS_isGoneOn_13 : decode prog_9_method_11_code 13 = .ok (.iaload, 1) := by decide +kernel
theorem dUS_isGoneOn_14 : decode prog_9_method_11_code 14 = .ok (.iconst (-1), 1) := by decide +kernel
theorem dUS_isGoneOn_15 : decode prog_9_method_11_code 15 = .ok (.if_icmp .eq 17, 3) := by decide +kernel
theorem dUS_isGoneOn_18 : decode prog_9_method_11_code 18 = .ok (.aload_n 0, 1) := by decide +kernel
theorem dUS_isGoneOn_19 : decode prog_9_method_11_code 19 = .ok (.getfield 22, 3) := by decide +kernel
theorem dUS_isGoneOn_22 : decode prog_9_method_11_code 22 = .ok (.iload_n 1, 1) := by decide +kernel
theorem dUS_isGoneOn_23 : decode prog_9_method_11_code 23 = .ok (.iaload, 1) := by decide +kernel
theorem dUS_isGoneOn_24 : decode prog_9_method_11_code 24 = .ok (.iload_n 2, 1) := by decide +kernel
theorem dUS_isGoneOn_25 : decode prog_9_method_11_code 25 = .ok (.if_icmp .gt 7, 3) := by decide +kernel
theorem dUS_isGoneOn_28 : decode prog_9_method_11_code 28 = .ok (.iconst 1, 1) := by decide +kernel
theorem dUS_isGoneOn_29 : decode prog_9_method_11_code 29 = .ok (.goto 4, 3) := by decide +kernel
theorem dUS_isGoneOn_32 : decode prog_9_method_11_code 32 = .ok (.iconst 0, 1) := by decide +kernel
theorem dUS_isGoneOn_33 : decode prog_9_method_11_code 33 = .ok (.ireturn, 1) := by decide +kernel
theorem dUS_isHolder_0 : decode prog_9_method_3_code 0 = .ok (.iload_n 1, 1) := by decide +kernel
theorem dUS_isHolder_1 : decode prog_9_method_3_code 1 = .ok (.ifCond .lt 15, 3) := by decide +kernel
theorem dUS_isHolder_4 : decode prog_9_method_3_code 4 = .ok (.iload_n 1, 1) := by decide +kernel
theorem dUS_isHolder_5 : decode prog_9_method_3_code 5 = .ok (.aload_n 0, 1) := by decide +kernel
theorem dUS_isHolder_6 : decode prog_9_method_3_code 6 = .ok (.getfield 81, 3) := by decide +kernel
theorem dUS_isHolder_9 : decode prog_9_method_3_code 9 = .ok (.if_icmp .ge 7, 3) := by decide +kernel
theorem dUS_isHolder_12 : decode prog_9_method_3_code 12 = .ok (.iconst 1, 1) := by decide +kernel
theorem dUS_isHolder_13 : decode prog_9_method_3_code 13 = .ok (.goto 4, 3) := by decide +kernel
theorem dUS_isHolder_16 : decode prog_9_method_3_code 16 = .ok (.iconst 0, 1) := by decide +kernel
theorem dUS_isHolder_17 : decode prog_9_method_3_code 17 = .ok (.ireturn, 1) := by decide +kernel
theorem dUS_isOpen_0 : decode prog_9_method_6_code 0 = .ok (.iload_n 1, 1) := by decide +kernel
theorem dUS_isOpen_1 : decode prog_9_method_6_code 1 = .ok (.invokestatic 91, 3) := by decide +kernel
theorem dUS_isOpen_4 : decode prog_9_method_6_code 4 = .ok (.ifCond .eq 24, 3) := by decide +kernel
theorem dUS_isOpen_7 : decode prog_9_method_6_code 7 = .ok (.iload_n 1, 1) := by decide +kernel
theorem dUS_isOpen_8 : decode prog_9_method_6_code 8 = .ok (.bipush 7, 2) := by decide +kernel
theorem dUS_isOpen_10 : decode prog_9_method_6_code 10 = .ok (.irem, 1) := by decide +kernel
theorem dUS_isOpen_11 : decode prog_9_method_6_code 11 = .ok (.iconst 5, 1) := by decide +kernel
theorem dUS_isOpen_12 : decode prog_9_method_6_code 12 = .ok (.if_icmp .ge 16, 3) := by decide +kernel
theorem dUS_isOpen_15 : decode prog_9_method_6_code 15 = .ok (.aload_n 0, 1) := by decide +kernel
theorem dUS_isOpen_16 : decode prog_9_method_6_code 16 = .ok (.getfield 28, 3) := by decide +kernel
theorem dUS_isOpen_19 : decode prog_9_method_6_code 19 = .ok (.iload_n 1, 1) := by decide +kernel
theorem dUS_isOpen_20 : decode prog_9_method_6_code 20 = .ok (.baload, 1) := by decide +kernel
theorem dUS_isOpen_21 : decode prog_9_method_6_code 21 = .ok (.ifCond .ne 7, 3) := by decide +kernel
theorem dUS_isOpen_24 : decode prog_9_method_6_code 24 = .ok (.iconst 1, 1) := by decide +kernel
theorem dUS_isOpen_25 : decode prog_9_method_6_code 25 = .ok (.goto 4, 3) := by decide +kernel
theorem dUS_isOpen_28 : decode prog_9_method_6_code 28 = .ok (.iconst 0, 1) := by decide +kernel
theorem dUS_isOpen_29 : decode prog_9_method_6_code 29 = .ok (.ireturn, 1) := by decide +kernel
theorem dUS_isParty_0 : decode prog_9_method_5_code 0 = .ok (.iload_n 1, 1) := by decide +kernel
theorem dUS_isParty_1 : decode prog_9_method_5_code 1 = .ok (.bipush 40, 2) := by decide +kernel
theorem dUS_isParty_3 : decode prog_9_method_5_code 3 = .ok (.if_icmp .eq 17, 3) := by decide +kernel
theorem dUS_isParty_6 : decode prog_9_method_5_code 6 = .ok (.iload_n 1, 1) := by decide +kernel
theorem dUS_isParty_7 : decode prog_9_method_5_code 7 = .ok (.bipush 41, 2) := by decide +kernel
theorem dUS_isParty_9 : decode prog_9_method_5_code 9 = .ok (.if_icmp .eq 11, 3) := by decide +kernel
theorem dUS_isParty_12 : decode prog_9_method_5_code 12 = .ok (.aload_n 0, 1) := by decide +kernel
theorem dUS_isParty_13 : decode prog_9_method_5_code 13 = .ok (.iload_n 1, 1) := by decide +kernel
theorem dUS_isParty_14 : decode prog_9_method_5_code 14 = .ok (.invokevirtual 88, 3) := by decide +kernel
theorem dUS_isParty_17 : decode prog_9_method_5_code 17 = .ok (.ifCond .eq 5, 3) := by decide +kernel
theorem dUS_isParty_20 : decode prog_9_method_5_code 20 = .ok (.iconst 1, 1) := by decide +kernel
theorem dUS_isParty_21 : decode prog_9_method_5_code 21 = .ok (.ireturn, 1) := by decide +kernel
theorem dUS_isParty_22 : decode prog_9_method_5_code 22 = .ok (.iload_n 1, 1) := by decide +kernel
theorem dUS_isParty_23 : decode prog_9_method_5_code 23 = .ok (.bipush 20, 2) := by decide +kernel
theorem dUS_isParty_25 : decode prog_9_method_5_code 25 = .ok (.if_icmp .lt 18, 3) := by decide +kernel
theorem dUS_isParty_28 : decode prog_9_method_5_code 28 = .ok (.aload_n 0, 1) := by decide +kernel
theorem dUS_isParty_29 : decode prog_9_method_5_code 29 = .ok (.iload_n 1, 1) := by decide +kernel
theorem dUS_isParty_30 : decode prog_9_method_5_code 30 = .ok (.bipush 20, 2) := by decide +kernel
theorem dUS_isParty_32 : decode prog_9_method_5_code 32 = .ok (.isub, 1) := by decide +kernel
theorem dUS_isParty_33 : decode prog_9_method_5_code 33 = .ok (.invokevirtual 84, 3) := by decide +kernel
theorem dUS_isParty_36 : decode prog_9_method_5_code 36 = .ok (.ifCond .eq 7, 3) := by decide +kernel
theorem dUS_isParty_39 : decode prog_9_method_5_code 39 = .ok (.iconst 1, 1) := by decide +kernel
theorem dUS_isParty_40 : decode prog_9_method_5_code 40 = .ok (.goto 4, 3) := by decide +kernel
theorem dUS_isParty_43 : decode prog_9_method_5_code 43 = .ok (.iconst 0, 1) := by decide +kernel
theorem dUS_isParty_44 : decode prog_9_method_5_code 44 = .ok (.ireturn, 1) := by decide +kernel
theorem dUS_isWho_0 : decode prog_9_method_4_code 0 = .ok (.aload_n 0, 1) := by decide +kernel
theorem dUS_isWho_1 : decode prog_9_method_4_code 1 = .ok (.iload_n 2, 1) := by decide +kernel
theorem dUS_isWho_2 : decode prog_9_method_4_code 2 = .ok (.invokevirtual 84, 3) := by decide +kernel
theorem dUS_isWho_5 : decode prog_9_method_4_code 5 = .ok (.ifCond .ne 5, 3) := by decide +kernel
theorem dUS_isWho_8 : decode prog_9_method_4_code 8 = .ok (.iconst 0, 1) := by decide +kernel
theorem dUS_isWho_9 : decode prog_9_method_4_code 9 = .ok (.ireturn, 1) := by decide +kernel
theorem dUS_isWho_10 : decode prog_9_method_4_code 10 = .ok (.aload_n 0, 1) := by decide +kernel
theorem dUS_isWho_11 : decode prog_9_method_4_code 11 = .ok (.iload_n 1, 1) := by decide +kernel
theorem dUS_isWho_12 : decode prog_9_method_4_code 12 = .ok (.invokevirtual 88, 3) := by decide +kernel
theorem dUS_isWho_15 : decode prog_9_method_4_code 15 = .ok (.ifCond .ne 28, 3) := by decide +kernel
theorem dUS_isWho_18 : decode prog_9_method_4_code 18 = .ok (.iload_n 1, 1) := by decide +kernel
theorem dUS_isWho_19 : decode prog_9_method_4_code 19 = .ok (.bipush 20, 2) := by decide +kernel
theorem dUS_isWho_21 : decode prog_9_method_4_code 21 = .ok (.if_icmp .lt 26, 3) := by decide +kernel
theorem dUS_isWho_24 : decode prog_9_method_4_code 24 = .ok (.aload_n 0, 1) := by decide +kernel
theorem dUS_isWho_25 : decode prog_9_method_4_code 25 = .ok (.iload_n 1, 1) := by decide +kernel
theorem dUS_isWho_26 : decode prog_9_method_4_code 26 = .ok (.bipush 20, 2) := by decide +kernel
theorem dUS_isWho_28 : decode prog_9_method_4_code 28 = .ok (.isub, 1) := by decide +kernel
theorem dUS_isWho_29 : decode prog_9_method_4_code 29 = .ok (.invokevirtual 84, 3) := by decide +kernel
theorem dUS_isWho_32 : decode prog_9_method_4_code 32 = .ok (.ifCond .eq 15, 3) := by decide +kernel
theorem dUS_isWho_35 : decode prog_9_method_4_code 35 = .ok (.iload_n 2, 1) := by decide +kernel
theorem dUS_isWho_36 : decode prog_9_method_4_code 36 = .ok (.iload_n 1, 1) := by decide +kernel
theorem dUS_isWho_37 : decode prog_9_method_4_code 37 = .ok (.bipush 20, 2) := by decide +kernel
theorem dUS_isWho_39 : decode prog_9_method_4_code 39 = .ok (.isub, 1) := by decide +kernel
theorem dUS_isWho_40 : decode prog_9_method_4_code 40 = .ok (.if_icmp .ge 7, 3) := by decide +kernel
theorem dUS_isWho_43 : decode prog_9_method_4_code 43 = .ok (.iconst 1, 1) := by decide +kernel
theorem dUS_isWho_44 : decode prog_9_method_4_code 44 = .ok (.goto 4, 3) := by decide +kernel
theorem dUS_isWho_47 : decode prog_9_method_4_code 47 = .ok (.iconst 0, 1) := by decide +kernel
theorem dUS_isWho_48 : decode prog_9_method_4_code 48 = .ok (.ireturn, 1) := by decide +kernel
theorem dUS_lastOver_0 : decode prog_9_method_10_code 0 = .ok (.iload_n 1, 1) := by decide +kernel
theorem dUS_lastOver_1 : decode prog_9_method_10_code 1 = .ok (.aload_n 0, 1) := by decide +kernel
theorem dUS_lastOver_2 : decode prog_9_method_10_code 2 = .ok (.getfield 97, 3) := by decide +kernel
theorem dUS_lastOver_5 : decode prog_9_method_10_code 5 = .ok (.iconst 1, 1) := by decide +kernel
theorem dUS_lastOver_6 : decode prog_9_method_10_code 6 = .ok (.isub, 1) := by decide +kernel
theorem dUS_lastOver_7 : decode prog_9_method_10_code 7 = .ok (.invokestatic 108, 3) := by decide +kernel
theorem dUS_lastOver_10 : decode prog_9_method_10_code 10 = .ok (.ireturn, 1) := by decide +kernel
theorem dUS_latestKnown_0 : decode prog_9_method_9_code 0 = .ok (.aload_n 0, 1) := by decide +kernel
theorem dUS_latestKnown_1 : decode prog_9_method_9_code 1 = .ok (.getfield 97, 3) := by decide +kernel
theorem dUS_latestKnown_4 : decode prog_9_method_9_code 4 = .ok (.sipush 259, 3) := by decide +kernel
theorem dUS_latestKnown_7 : decode prog_9_method_9_code 7 = .ok (.invokestatic 108, 3) := by decide +kernel
theorem dUS_latestKnown_10 : decode prog_9_method_9_code 10 = .ok (.ireturn, 1) := by decide +kernel
theorem dUS_openBehind_0 : decode prog_9_method_7_code 0 = .ok (.iload_n 1, 1) := by decide +kernel
theorem dUS_openBehind_1 : decode prog_9_method_7_code 1 = .ok (.iconst 1, 1) := by decide +kernel
theorem dUS_openBehind_2 : decode prog_9_method_7_code 2 = .ok (.iadd, 1) := by decide +kernel
theorem dUS_openBehind_3 : decode prog_9_method_7_code 3 = .ok (.istore_n 2, 1) := by decide +kernel
theorem dUS_openBehind_4 : decode prog_9_method_7_code 4 = .ok (.iload_n 2, 1) := by decide +kernel
theorem dUS_openBehind_5 : decode prog_9_method_7_code 5 = .ok (.sipush 260, 3) := by decide +kernel
theorem dUS_openBehind_8 : decode prog_9_method_7_code 8 = .ok (.if_icmp .ge 19, 3) := by decide +kernel
theorem dUS_openBehind_11 : decode prog_9_method_7_code 11 = .ok (.aload_n 0, 1) := by decide +kernel
theorem dUS_openBehind_12 : decode prog_9_method_7_code 12 = .ok (.iload_n 2, 1) := by decide +kernel
theorem dUS_openBehind_13 : decode prog_9_method_7_code 13 = .ok (.invokevirtual 94, 3) := by decide +kernel
theorem dUS_openBehind_16 : decode prog_9_method_7_code 16 = .ok (.ifCond .eq 5, 3) := by decide +kernel
theorem dUS_openBehind_19 : decode prog_9_method_7_code 19 = .ok (.iload_n 2, 1) := by decide +kernel
theorem dUS_openBehind_20 : decode prog_9_method_7_code 20 = .ok (.ireturn, 1) := by decide +kernel
theorem dUS_openBehind_21 : decode prog_9_method_7_code 21 = .ok (.iinc 2 1, 3) := by decide +kernel
theorem dUS_openBehind_24 : decode prog_9_method_7_code 24 = .ok (.goto (-20), 3) := by decide +kernel
theorem dUS_openBehind_27 : decode prog_9_method_7_code 27 = .ok (.iconst (-1), 1) := by decide +kernel
theorem dUS_openBehind_28 : decode prog_9_method_7_code 28 = .ok (.ireturn, 1) := by decide +kernel
theorem dUTe_add_0 : decode prog_10_method_2_code 0 = .ok (.aload_n 0, 1) := by decide +kernel
theorem dUTe_add_1 : decode prog_10_method_2_code 1 = .ok (.getfield 14, 3) := by decide +kernel
theorem dUTe_add_4 : decode prog_10_method_2_code 4 = .ok (.iload_n 3, 1) := by decide +kernel
theorem dUTe_add_5 : decode prog_10_method_2_code 5 = .ok (.invokevirtual 33, 3) := by decide +kernel
theorem dUTe_add_8 : decode prog_10_method_2_code 8 = .ok (.istore 6, 2) := by decide +kernel
theorem dUTe_add_10 : decode prog_10_method_2_code 10 = .ok (.iload 6, 2) := by decide +kernel
theorem dUTe_add_12 : decode prog_10_method_2_code 12 = .ok (.iconst (-1), 1) := by decide +kernel
theorem dUTe_add_13 : decode prog_10_method_2_code 13 = .ok (.if_icmp .eq 37, 3) := by decide +kernel
theorem dUTe_add_16 : decode prog_10_method_2_code 16 = .ok (.aload_n 0, 1) := by decide +kernel
theorem dUTe_add_17 : decode prog_10_method_2_code 17 = .ok (.getfield 20, 3) := by decide +kernel
theorem dUTe_add_20 : decode prog_10_method_2_code 20 = .ok (.iload 6, 2) := by decide +kernel
theorem dUTe_add_22 : decode prog_10_method_2_code 22 = .ok (.iload_n 1, 1) := by decide +kernel
theorem dUTe_add_23 : decode prog_10_method_2_code 23 = .ok (.iastore, 1) := by decide +kernel
theorem dUTe_add_24 : decode prog_10_method_2_code 24 = .ok (.aload_n 0, 1) := by decide +kernel
theorem dUTe_add_25 : decode prog_10_method_2_code 25 = .ok (.getfield 24, 3) := by decide +kernel
theorem dUTe_add_28 : decode prog_10_method_2_code 28 = .ok (.iload 6, 2) := by decide +kernel
theorem dUTe_add_30 : decode prog_10_method_2_code 30 = .ok (.iload_n 2, 1) := by decide +kernel
theorem dUTe_add_31 : decode prog_10_method_2_code 31 = .ok (.iastore, 1) := by decide +kernel
theorem dUTe_add_32 : decode prog_10_method_2_code 32 = .ok (.aload_n 0, 1) := by decide +kernel
theorem dUTe_add_33 : decode prog_10_method_2_code 33 = .ok (.getfield 27, 3) := by decide +kernel
theorem dUTe_add_36 : decode prog_10_method_2_code 36 = .ok (.iload 6, 2) := by decide +kernel
theorem dUTe_add_38 : decode prog_10_method_2_code 38 = .ok (.iload 4, 2) := by decide +kernel
theorem dUTe_add_40 : decode prog_10_method_2_code 40 = .ok (.iastore, 1) := by decide +kernel
theorem dUTe_add_41 : decode prog_10_method_2_code 41 = .ok (.aload_n 0, 1) := by decide +kernel
theorem dUTe_add_42 : decode prog_10_method_2_code 42 = .ok (.getfield 30, 3) := by decide +kernel
theorem dUTe_add_45 : decode prog_10_method_2_code 45 = .ok (.iload 6, 2) := by decide +kernel
theorem dUTe_add_47 : decode prog_10_method_2_code 47 = .ok (.iload 5, 2) := by decide +kernel
theorem dUTe_add_49 : decode prog_10_method_2_code 49 = .ok (.iastore, 1) := by decide +kernel
theorem dUTe_add_50 : decode prog_10_method_2_code 50 = .ok (.iload 6, 2) := by decide +kernel
theorem dUTe_add_52 : decode prog_10_method_2_code 52 = .ok (.ireturn, 1) := by decide +kernel
theorem dUTe_latest_0 : decode prog_10_method_3_code 0 = .ok (.iload_n 1, 1) := by decide +kernel
theorem dUTe_latest_1 : decode prog_10_method_3_code 1 = .ok (.ifCond .eq 8, 3) := by decide +kernel
theorem dUTe_latest_4 : decode prog_10_method_3_code 4 = .ok (.iload_n 1, 1) := by decide +kernel
theorem dUTe_latest_5 : decode prog_10_method_3_code 5 = .ok (.iconst 1, 1) := by decide +kernel
theorem dUTe_latest_6 : decode prog_10_method_3_code 6 = .ok (.if_icmp .ne 7, 3) := by decide +kernel
theorem dUTe_latest_9 : decode prog_10_method_3_code 9 = .ok (.iconst 1, 1) := by decide +kernel
theorem dUTe_latest_10 : decode prog_10_method_3_code 10 = .ok (.goto 4, 3) := by decide +kernel
theorem dUTe_latest_13 : decode prog_10_method_3_code 13 = .ok (.iconst 0, 1) := by decide +kernel
theorem dUTe_latest_14 : decode prog_10_method_3_code 14 = .ok (.istore 5, 2) := by decide +kernel
theorem dUTe_latest_16 : decode prog_10_method_3_code 16 = .ok (.iconst (-1), 1) := by decide +kernel
theorem dUTe_latest_17 : decode prog_10_method_3_code 17 = .ok (.istore 6, 2) := by decide +kernel
theorem dUTe_latest_19 : decode prog_10_method_3_code 19 = .ok (.iconst 0, 1) := by decide +kernel
theorem dUTe_latest_20 : decode prog_10_method_3_code 20 = .ok (.istore 7, 2) := by decide +kernel
theorem dUTe_latest_22 : decode prog_10_method_3_code 22 = .ok (.iload 7, 2) := by decide +kernel
theorem dUTe_latest_24 : decode prog_10_method_3_code 24 = .ok (.aload_n 0, 1) := by decide +kernel
theorem dUTe_latest_25 : decode prog_10_method_3_code 25 = .ok (.getfield 14, 3) := by decide +kernel
theorem dUTe_latest_28 : decode prog_10_method_3_code 28 = .ok (.getfield 37, 3) := by decide +kernel
theorem dUTe_latest_31 : decode prog_10_method_3_code 31 = .ok (.if_icmp .ge 100, 3) := by decide +kernel
theorem dUTe_latest_34 : decode prog_10_method_3_code 34 = .ok (.aload_n 0, 1) := by decide +kernel
theorem dUTe_latest_35 : decode prog_10_method_3_code 35 = .ok (.getfield 14, 3) := by decide +kernel
theorem dUTe_latest_38 : decode prog_10_method_3_code 38 = .ok (.getfield 41, 3) := by decide +kernel
theorem dUTe_latest_41 : decode prog_10_method_3_code 41 = .ok (.iload 7, 2) := by decide +kernel
theorem dUTe_latest_43 : decode prog_10_method_3_code 43 = .ok (.iaload, 1) := by decide +kernel
theorem dUTe_latest_44 : decode prog_10_method_3_code 44 = .ok (.istore 8, 2) := by decide +kernel
theorem dUTe_latest_46 : decode prog_10_method_3_code 46 = .ok (.aload_n 0, 1) := by decide +kernel
theorem dUTe_latest_47 : decode prog_10_method_3_code 47 = .ok (.getfield 14, 3) := by decide +kernel
theorem dUTe_latest_50 : decode prog_10_method_3_code 50 = .ok (.getfield 44, 3) := by decide +kernel
theorem dUTe_latest_53 : decode prog_10_method_3_code 53 = .ok (.iload 8, 2) := by decide +kernel
theorem dUTe_latest_55 : decode prog_10_method_3_code 55 = .ok (.iaload, 1) := by decide +kernel
theorem dUTe_latest_56 : decode prog_10_method_3_code 56 = .ok (.istore 9, 2) := by decide +kernel
theorem dUTe_latest_58 : decode prog_10_method_3_code 58 = .ok (.iload 9, 2) := by decide +kernel
theorem dUTe_latest_60 : decode prog_10_method_3_code 60 = .ok (.iload_n 3, 1) := by decide +kernel
theorem dUTe_latest_61 : decode prog_10_method_3_code 61 = .ok (.if_icmp .eq 14, 3) := by decide +kernel
theorem dUTe_latest_64 : decode prog_10_method_3_code 64 = .ok (.iload 5, 2) := by decide +kernel
theorem dUTe_latest_66 : decode prog_10_method_3_code 66 = .ok (.ifCond .eq 13, 3) := by decide +kernel
theorem dUTe_latest_69 : decode prog_10_method_3_code 69 = .ok (.iload 9, 2) := by decide +kernel
theorem dUTe_latest_71 : decode prog_10_method_3_code 71 = .ok (.iload_n 3, 1) := by decide +kernel
theorem dUTe_latest_72 : decode prog_10_method_3_code 72 = .ok (.if_icmp .ge 7, 3) := by decide +kernel
theorem dUTe_latest_75 : decode prog_10_method_3_code 75 = .ok (.iconst 1, 1) := by decide +kernel
theorem dUTe_latest_76 : decode prog_10_method_3_code 76 = .ok (.goto 4, 3) := by decide +kernel
theorem dUTe_latest_79 : decode prog_10_method_3_code 79 = .ok (.iconst 0, 1) := by decide +kernel
theorem dUTe_latest_80 : decode prog_10_method_3_code 80 = .ok (.istore 10, 2) := by decide +kernel
theorem dUTe_latest_82 : decode prog_10_method_3_code 82 = .ok (.iload 10, 2) := by decide +kernel
theorem dUTe_latest_84 : decode prog_10_method_3_code 84 = .ok (.ifCond .eq 41, 3) := by decide +kernel
theorem dUTe_latest_87 : decode prog_10_method_3_code 87 = .ok (.aload_n 0, 1) := by decide +kernel
theorem dUTe_latest_88 : decode prog_10_method_3_code 88 = .ok (.getfield 20, 3) := by decide +kernel
theorem dUTe_latest_91 : decode prog_10_method_3_code 91 = .ok (.iload 8, 2) := by decide +kernel
theorem dUTe_latest_93 : decode prog_10_method_3_code 93 = .ok (.iaload, 1) := by decide +kernel
theorem dUTe_latest_94 : decode prog_10_method_3_code 94 = .ok (.iload_n 1, 1) := by decide +kernel
theorem dUTe_latest_95 : decode prog_10_method_3_code 95 = .ok (.if_icmp .ne 30, 3) := by decide +kernel
theorem dUTe_latest_98 : decode prog_10_method_3_code 98 = .ok (.aload_n 0, 1) := by decide +kernel
theorem dUTe_latest_99 : decode prog_10_method_3_code 99 = .ok (.getfield 24, 3) := by decide +kernel
theorem dUTe_latest_102 : decode prog_10_method_3_code 102 = .ok (.iload 8, 2) := by decide +kernel
theorem dUTe_latest_104 : decode prog_10_method_3_code 104 = .ok (.iaload, 1) := by decide +kernel
theorem dUTe_latest_105 : decode prog_10_method_3_code 105 = .ok (.iload_n 2, 1) := by decide +kernel
theorem dUTe_latest_106 : decode prog_10_method_3_code 106 = .ok (.if_icmp .ne 19, 3) := by decide +kernel
theorem dUTe_latest_109 : decode prog_10_method_3_code 109 = .ok (.aload_n 0, 1) := by decide +kernel
theorem dUTe_latest_110 : decode prog_10_method_3_code 110 = .ok (.getfield 30, 3) := by decide +kernel
theorem dUTe_latest_113 : decode prog_10_method_3_code 113 = .ok (.iload 8, 2) := by decide +kernel
theorem dUTe_latest_115 : decode prog_10_method_3_code 115 = .ok (.iaload, 1) := by decide +kernel
theorem dUTe_latest_116 : decode prog_10_method_3_code 116 = .ok (.iload 4, 2) := by decide +kernel
theorem dUTe_latest_118 : decode prog_10_method_3_code 118 = .ok (.if_icmp .gt 7, 3) := by decide +kernel
theorem dUTe_latest_121 : decode prog_10_method_3_code 121 = .ok (.iload 8, 2) := by decide +kernel
theorem dUTe_latest_123 : decode prog_10_method_3_code 123 = .ok (.istore 6, 2) := by decide +kernel
theorem dUTe_latest_125 : decode prog_10_method_3_code 125 = .ok (.iinc 7 1, 3) := by decide +kernel
theorem dUTe_latest_128 : decode prog_10_method_3_code 128 = .ok (.goto (-106), 3) := by decide +kernel
theorem dUTe_latest_131 : decode prog_10_method_3_code 131 = .ok (.iload 6, 2) := by decide +kernel
theorem dUTe_latest_133 : decode prog_10_method_3_code 133 = .ok (.ireturn, 1) := by decide +kernel
theorem dUTr_add_0 : decode prog_12_method_2_code 0 = .ok (.aload_n 0, 1) := by decide +kernel
theorem dUTr_add_1 : decode prog_12_method_2_code 1 = .ok (.getfield 16, 3) := by decide +kernel
theorem dUTr_add_4 : decode prog_12_method_2_code 4 = .ok (.iload_n 3, 1) := by decide +kernel
theorem dUTr_add_5 : decode prog_12_method_2_code 5 = .ok (.invokevirtual 36, 3) := by decide +kernel
theorem dUTr_add_8 : decode prog_12_method_2_code 8 = .ok (.istore 5, 2) := by decide +kernel
theorem dUTr_add_10 : decode prog_12_method_2_code 10 = .ok (.iload 5, 2) := by decide +kernel
theorem dUTr_add_12 : decode prog_12_method_2_code 12 = .ok (.iconst (-1), 1) := by decide +kernel
theorem dUTr_add_13 : decode prog_12_method_2_code 13 = .ok (.if_icmp .eq 28, 3) := by decide +kernel
theorem dUTr_add_16 : decode prog_12_method_2_code 16 = .ok (.aload_n 0, 1) := by decide +kernel
theorem dUTr_add_17 : decode prog_12_method_2_code 17 = .ok (.getfield 20, 3) := by decide +kernel
theorem dUTr_add_20 : decode prog_12_method_2_code 20 = .ok (.iload 5, 2) := by decide +kernel
theorem dUTr_add_22 : decode prog_12_method_2_code 22 = .ok (.iload_n 1, 1) := by decide +kernel
theorem dUTr_add_23 : decode prog_12_method_2_code 23 = .ok (.iastore, 1) := by decide +kernel
theorem dUTr_add_24 : decode prog_12_method_2_code 24 = .ok (.aload_n 0, 1) := by decide +kernel
theorem dUTr_add_25 : decode prog_12_method_2_code 25 = .ok (.getfield 24, 3) := by decide +kernel
theorem dUTr_add_28 : decode prog_12_method_2_code 28 = .ok (.iload 5, 2) := by decide +kernel
theorem dUTr_add_30 : decode prog_12_method_2_code 30 = .ok (.iload_n 2, 1) := by decide +kernel
theorem dUTr_add_31 : decode prog_12_method_2_code 31 = .ok (.iastore, 1) := by decide +kernel
theorem dUTr_add_32 : decode prog_12_method_2_code 32 = .ok (.aload_n 0, 1) := by decide +kernel
theorem dUTr_add_33 : decode prog_12_method_2_code 33 = .ok (.getfield 33, 3) := by decide +kernel
theorem dUTr_add_36 : decode prog_12_method_2_code 36 = .ok (.iload 5, 2) := by decide +kernel
theorem dUTr_add_38 : decode prog_12_method_2_code 38 = .ok (.iload 4, 2) := by decide +kernel
theorem dUTr_add_40 : decode prog_12_method_2_code 40 = .ok (.iastore, 1) := by decide +kernel
theorem dUTr_add_41 : decode prog_12_method_2_code 41 = .ok (.iload 5, 2) := by decide +kernel
theorem dUTr_add_43 : decode prog_12_method_2_code 43 = .ok (.ireturn, 1) := by decide +kernel
theorem dUX_append_0 : decode prog_11_method_2_code 0 = .ok (.bipush 24, 2) := by decide +kernel
theorem dUX_append_2 : decode prog_11_method_2_code 2 = .ok (.istore_n 2, 1) := by decide +kernel
theorem dUX_append_3 : decode prog_11_method_2_code 3 = .ok (.iload_n 2, 1) := by decide +kernel
theorem dUX_append_4 : decode prog_11_method_2_code 4 = .ok (.ifCond .lt 45, 3) := by decide +kernel
theorem dUX_append_7 : decode prog_11_method_2_code 7 = .ok (.aload_n 0, 1) := by decide +kernel
theorem dUX_append_8 : decode prog_11_method_2_code 8 = .ok (.getfield 18, 3) := by decide +kernel
theorem dUX_append_11 : decode prog_11_method_2_code 11 = .ok (.sipush 600, 3) := by decide +kernel
theorem dUX_append_14 : decode prog_11_method_2_code 14 = .ok (.if_icmp .ge 35, 3) := by decide +kernel
theorem dUX_append_17 : decode prog_11_method_2_code 17 = .ok (.aload_n 0, 1) := by decide +kernel
theorem dUX_append_18 : decode prog_11_method_2_code 18 = .ok (.getfield 11, 3) := by decide +kernel
theorem dUX_append_21 : decode prog_11_method_2_code 21 = .ok (.aload_n 0, 1) := by decide +kernel
theorem dUX_append_22 : decode prog_11_method_2_code 22 = .ok (.getfield 18, 3) := by decide +kernel
theorem dUX_append_25 : decode prog_11_method_2_code 25 = .ok (.iload_n 1, 1) := by decide +kernel
theorem dUX_append_26 : decode prog_11_method_2_code 26 = .ok (.iload_n 2, 1) := by decide +kernel
theorem dUX_append_27 : decode prog_11_method_2_code 27 = .ok (.ishr, 1) := by decide +kernel
theorem dUX_append_28 : decode prog_11_method_2_code 28 = .ok (.sipush 255, 3) := by decide +kernel
theorem dUX_append_31 : decode prog_11_method_2_code 31 = .ok (.iand, 1) := by decide +kernel
theorem dUX_append_32 : decode prog_11_method_2_code 32 = .ok (.iastore, 1) := by decide +kernel
theorem dUX_append_33 : decode prog_11_method_2_code 33 = .ok (.aload_n 0, 1) := by decide +kernel
theorem dUX_append_34 : decode prog_11_method_2_code 34 = .ok (.dup, 1) := by decide +kernel
theorem dUX_append_35 : decode prog_11_method_2_code 35 = .ok (.getfield 18, 3) := by decide +kernel
theorem dUX_append_38 : decode prog_11_method_2_code 38 = .ok (.iconst 1, 1) := by decide +kernel
theorem dUX_append_39 : decode prog_11_method_2_code 39 = .ok (.iadd, 1) := by decide +kernel
theorem dUX_append_40 : decode prog_11_method_2_code 40 = .ok (.putfield 18, 3) := by decide +kernel
theorem dUX_append_43 : decode prog_11_method_2_code 43 = .ok (.iinc 2 (-8), 3) := by decide +kernel
theorem dUX_append_46 : decode prog_11_method_2_code 46 = .ok (.goto (-43), 3) := by decide +kernel
theorem dUX_append_49 : decode prog_11_method_2_code 49 = .ok (.return_, 1) := by decide +kernel
theorem dUX_isWord_0 : decode prog_11_method_13_code 0 = .ok (.aload_n 0, 1) := by decide +kernel
theorem dUX_isWord_1 : decode prog_11_method_13_code 1 = .ok (.getfield 51, 3) := by decide +kernel
theorem dUX_isWord_4 : decode prog_11_method_13_code 4 = .ok (.iconst 1, 1) := by decide +kernel
theorem dUX_isWord_5 : decode prog_11_method_13_code 5 = .ok (.if_icmp .ne 19, 3) := by decide +kernel
theorem dUX_isWord_8 : decode prog_11_method_13_code 8 = .ok (.aload_n 0, 1) := by decide +kernel
theorem dUX_isWord_9 : decode prog_11_method_13_code 9 = .ok (.getfield 29, 3) := by decide +kernel
theorem dUX_isWord_12 : decode prog_11_method_13_code 12 = .ok (.aload_n 0, 1) := by decide +kernel
theorem dUX_isWord_13 : decode prog_11_method_13_code 13 = .ok (.getfield 58, 3) := by decide +kernel
theorem dUX_isWord_16 : decode prog_11_method_13_code 16 = .ok (.isub, 1) := by decide +kernel
theorem dUX_isWord_17 : decode prog_11_method_13_code 17 = .ok (.aload_n 1, 1) := by decide +kernel
theorem dUX_isWord_18 : decode prog_11_method_13_code 18 = .ok (.invokevirtual 124, 3) := by decide +kernel
theorem dUX_isWord_21 : decode prog_11_method_13_code 21 = .ok (.if_icmp .eq 5, 3) := by decide +kernel
theorem dUX_isWord_24 : decode prog_11_method_13_code 24 = .ok (.iconst 0, 1) := by decide +kernel
theorem dUX_isWord_25 : decode prog_11_method_13_code 25 = .ok (.ireturn, 1) := by decide +kernel
theorem dUX_isWord_26 : decode prog_11_method_13_code 26 = .ok (.iconst 0, 1) := by decide +kernel
theorem dUX_isWord_27 : decode prog_11_method_13_code 27 = .ok (.istore_n 2, 1) := by decide +kernel
theorem dUX_isWord_28 : decode prog_11_method_13_code 28 = .ok (.iload_n 2, 1) := by decide +kernel
theorem dUX_isWord_29 : decode prog_11_method_13_code 29 = .ok (.aload_n 1, 1) := by decide +kernel
theorem dUX_isWord_30 : decode prog_11_method_13_code 30 = .ok (.invokevirtual 124, 3) := by decide +kernel
theorem dUX_isWord_33 : decode prog_11_method_13_code 33 = .ok (.if_icmp .ge 30, 3) := by decide +kernel
theorem dUX_isWord_36 : decode prog_11_method_13_code 36 = .ok (.aload_n 0, 1) := by decide +kernel
theorem dUX_isWord_37 : decode prog_11_method_13_code 37 = .ok (.getfield 11, 3) := by decide +kernel
theorem dUX_isWord_40 : decode prog_11_method_13_code 40 = .ok (.aload_n 0, 1) := by decide +kernel
theorem dUX_isWord_41 : decode prog_11_method_13_code 41 = .ok (.getfield 58, 3) := by decide +kernel
theorem dUX_isWord_44 : decode prog_11_method_13_code 44 = .ok (.iload_n 2, 1) := by decide +kernel
theorem dUX_isWord_45 : decode prog_11_method_13_code 45 = .ok (.iadd, 1) := by decide +kernel
theorem dUX_isWord_46 : decode prog_11_method_13_code 46 = .ok (.iaload, 1) := by decide +kernel
theorem dUX_isWord_47 : decode prog_11_method_13_code 47 = .ok (.aload_n 1, 1) := by decide +kernel
theorem dUX_isWord_48 : decode prog_11_method_13_code 48 = .ok (.iload_n 2, 1) := by decide +kernel
theorem dUX_isWord_49 : decode prog_11_method_13_code 49 = .ok (.invokevirtual 128, 3) := by decide +kernel
theorem dUX_isWord_52 : decode prog_11_method_13_code 52 = .ok (.if_icmp .eq 5, 3) := by decide +kernel
theorem dUX_isWord_55 : decode prog_11_method_13_code 55 = .ok (.iconst 0, 1) := by decide +kernel
theorem dUX_isWord_56 : decode prog_11_method_13_code 56 = .ok (.ireturn, 1) := by decide +kernel
theorem dUX_isWord_57 : decode prog_11_method_13_code 57 = .ok (.iinc 2 1, 3) := by decide +kernel
theorem dUX_isWord_60 : decode prog_11_method_13_code 60 = .ok (.goto (-32), 3) := by decide +kernel
theorem dUX_isWord_63 : decode prog_11_method_13_code 63 = .ok (.iconst 1, 1) := by decide +kernel
theorem dUX_isWord_64 : decode prog_11_method_13_code 64 = .ok (.ireturn, 1) := by decide +kernel
theorem dUX_kindAt_0 : decode prog_11_method_12_code 0 = .ok (.iload_n 1, 1) := by decide +kernel
theorem dUX_kindAt_1 : decode prog_11_method_12_code 1 = .ok (.aload_n 0, 1) := by decide +kernel
theorem dUX_kindAt_2 : decode prog_11_method_12_code 2 = .ok (.getfield 18, 3) := by decide +kernel
theorem dUX_kindAt_5 : decode prog_11_method_12_code 5 = .ok (.if_icmp .ge 14, 3) := by decide +kernel
theorem dUX_kindAt_8 : decode prog_11_method_12_code 8 = .ok (.aload_n 0, 1) := by decide +kernel
theorem dUX_kindAt_9 : decode prog_11_method_12_code 9 = .ok (.getfield 11, 3) := by decide +kernel
theorem dUX_kindAt_12 : decode prog_11_method_12_code 12 = .ok (.iload_n 1, 1) := by decide +kernel
theorem dUX_kindAt_13 : decode prog_11_method_12_code 13 = .ok (.iaload, 1) := by decide +kernel
theorem dUX_kindAt_14 : decode prog_11_method_12_code 14 = .ok (.bipush 10, 2) := by decide +kernel
theorem dUX_kindAt_16 : decode prog_11_method_12_code 16 = .ok (.if_icmp .ne 5, 3) := by decide +kernel
theorem dUX_kindAt_19 : decode prog_11_method_12_code 19 = .ok (.iconst 0, 1) := by decide +kernel
theorem dUX_kindAt_20 : decode prog_11_method_12_code 20 = .ok (.ireturn, 1) := by decide +kernel
theorem dUX_kindAt_21 : decode prog_11_method_12_code 21 = .ok (.aload_n 0, 1) := by decide +kernel
theorem dUX_kindAt_22 : decode prog_11_method_12_code 22 = .ok (.getfield 11, 3) := by decide +kernel
theorem dUX_kindAt_25 : decode prog_11_method_12_code 25 = .ok (.iload_n 1, 1) := by decide +kernel
theorem dUX_kindAt_26 : decode prog_11_method_12_code 26 = .ok (.iaload, 1) := by decide +kernel
theorem dUX_kindAt_27 : decode prog_11_method_12_code 27 = .ok (.istore_n 2, 1) := by decide +kernel
theorem dUX_kindAt_28 : decode prog_11_method_12_code 28 = .ok (.iload_n 2, 1) := by decide +kernel
theorem dUX_kindAt_29 : decode prog_11_method_12_code 29 = .ok (.bipush 97, 2) := by decide +kernel
theorem dUX_kindAt_31 : decode prog_11_method_12_code 31 = .ok (.if_icmp .lt 11, 3) := by decide +kernel
theorem dUX_kindAt_34 : decode prog_11_method_12_code 34 = .ok (.iload_n 2, 1) := by decide +kernel
theorem dUX_kindAt_35 : decode prog_11_method_12_code 35 = .ok (.bipush 122, 2) := by decide +kernel
theorem dUX_kindAt_37 : decode prog_11_method_12_code 37 = .ok (.if_icmp .gt 5, 3) := by decide +kernel
theorem dUX_kindAt_40 : decode prog_11_method_12_code 40 = .ok (.iconst 1, 1) := by decide +kernel
theorem dUX_kindAt_41 : decode prog_11_method_12_code 41 = .ok (.ireturn, 1) := by decide +kernel
theorem dUX_kindAt_42 : decode prog_11_method_12_code 42 = .ok (.iload_n 2, 1) := by decide +kernel
theorem dUX_kindAt_43 : decode prog_11_method_12_code 43 = .ok (.bipush 48, 2) := by decide +kernel
theorem dUX_kindAt_45 : decode prog_11_method_12_code 45 = .ok (.if_icmp .lt 11, 3) := by decide +kernel
theorem dUX_kindAt_48 : decode prog_11_method_12_code 48 = .ok (.iload_n 2, 1) := by decide +kernel
theorem dUX_kindAt_49 : decode prog_11_method_12_code 49 = .ok (.bipush 57, 2) := by decide +kernel
theorem dUX_kindAt_51 : decode prog_11_method_12_code 51 = .ok (.if_icmp .gt 5, 3) := by decide +kernel
theorem dUX_kindAt_54 : decode prog_11_method_12_code 54 = .ok (.iconst 2, 1) := by decide +kernel
theorem dUX_kindAt_55 : decode prog_11_method_12_code 55 = .ok (.ireturn, 1) := by decide +kernel
theorem dUX_kindAt_56 : decode prog_11_method_12_code 56 = .ok (.iload_n 2, 1) := by decide +kernel
theorem dUX_kindAt_57 : decode prog_11_method_12_code 57 = .ok (.bipush 58, 2) := by decide +kernel
theorem dUX_kindAt_59 : decode prog_11_method_12_code 59 = .ok (.if_icmp .ne 7, 3) := by decide +kernel
theorem dUX_kindAt_62 : decode prog_11_method_12_code 62 = .ok (.iconst 3, 1) := by decide +kernel
theorem dUX_kindAt_63 : decode prog_11_method_12_code 63 = .ok (.goto 4, 3) := by decide +kernel
theorem dUX_kindAt_66 : decode prog_11_method_12_code 66 = .ok (.iconst 4, 1) := by decide +kernel
theorem dUX_kindAt_67 : decode prog_11_method_12_code 67 = .ok (.ireturn, 1) := by decide +kernel
theorem dUX_next_0 : decode prog_11_method_11_code 0 = .ok (.aload_n 0, 1) := by decide +kernel
theorem dUX_next_1 : decode prog_11_method_11_code 1 = .ok (.getfield 29, 3) := by decide +kernel
theorem dUX_next_4 : decode prog_11_method_11_code 4 = .ok (.istore_n 1, 1) := by decide +kernel
theorem dUX_next_5 : decode prog_11_method_11_code 5 = .ok (.iload_n 1, 1) := by decide +kernel
theorem dUX_next_6 : decode prog_11_method_11_code 6 = .ok (.aload_n 0, 1) := by decide +kernel
theorem dUX_next_7 : decode prog_11_method_11_code 7 = .ok (.getfield 18, 3) := by decide +kernel
theorem dUX_next_10 : decode prog_11_method_11_code 10 = .ok (.if_icmp .ge 20, 3) := by decide +kernel
theorem dUX_next_13 : decode prog_11_method_11_code 13 = .ok (.aload_n 0, 1) := by decide +kernel
theorem dUX_next_14 : decode prog_11_method_11_code 14 = .ok (.getfield 11, 3) := by decide +kernel
theorem dUX_next_17 : decode prog_11_method_11_code 17 = .ok (.iload_n 1, 1) := by decide +kernel
theorem dUX_next_18 : decode prog_11_method_11_code 18 = .ok (.iaload, 1) := by decide +kernel
theorem dUX_next_19 : decode prog_11_method_11_code 19 = .ok (.bipush 32, 2) := by decide +kernel
theorem dUX_next_21 : decode prog_11_method_11_code 21 = .ok (.if_icmp .ne 9, 3) := by decide +kernel
theorem dUX_next_24 : decode prog_11_method_11_code 24 = .ok (.iinc 1 1, 3) := by decide +kernel
theorem dUX_next_27 : decode prog_11_method_11_code 27 = .ok (.goto (-22), 3) := by decide +kernel
theorem dUX_next_30 : decode prog_11_method_11_code 30 = .ok (.aload_n 0, 1) := by decide +kernel
theorem dUX_next_31 : decode prog_11_method_11_code 31 = .ok (.iload_n 1, 1) := by decide +kernel
theorem dUX_next_32 : decode prog_11_method_11_code 32 = .ok (.putfield 58, 3) := by decide +kernel
theorem dUX_next_35 : decode prog_11_method_11_code 35 = .ok (.aload_n 0, 1) := by decide +kernel
theorem dUX_next_36 : decode prog_11_method_11_code 36 = .ok (.aload_n 0, 1) := by decide +kernel
theorem dUX_next_37 : decode prog_11_method_11_code 37 = .ok (.iload_n 1, 1) := by decide +kernel
theorem dUX_next_38 : decode prog_11_method_11_code 38 = .ok (.invokevirtual 114, 3) := by decide +kernel
theorem dUX_next_41 : decode prog_11_method_11_code 41 = .ok (.putfield 51, 3) := by decide +kernel
theorem dUX_next_44 : decode prog_11_method_11_code 44 = .ok (.aload_n 0, 1) := by decide +kernel
theorem dUX_next_45 : decode prog_11_method_11_code 45 = .ok (.iconst 0, 1) := by decide +kernel
theorem dUX_next_46 : decode prog_11_method_11_code 46 = .ok (.putfield 111, 3) := by decide +kernel
theorem dUX_next_49 : decode prog_11_method_11_code 49 = .ok (.aload_n 0, 1) := by decide +kernel
theorem dUX_next_50 : decode prog_11_method_11_code 50 = .ok (.getfield 51, 3) := by decide +kernel
theorem dUX_next_53 : decode prog_11_method_11_code 53 = .ok (.iconst 3, 1) := by decide +kernel
theorem dUX_next_54 : decode prog_11_method_11_code 54 = .ok (.if_icmp .ne 6, 3) := by decide +kernel
theorem dUX_next_57 : decode prog_11_method_11_code 57 = .ok (.iinc 1 1, 3) := by decide +kernel
theorem dUX_next_60 : decode prog_11_method_11_code 60 = .ok (.aload_n 0, 1) := by decide +kernel
theorem dUX_next_61 : decode prog_11_method_11_code 61 = .ok (.getfield 51, 3) := by decide +kernel
theorem dUX_next_64 : decode prog_11_method_11_code 64 = .ok (.iconst 1, 1) := by decide +kernel
theorem dUX_next_65 : decode prog_11_method_11_code 65 = .ok (.if_icmp .eq 11, 3) := by decide +kernel
theorem dUX_next_68 : decode prog_11_method_11_code 68 = .ok (.aload_n 0, 1) := by decide +kernel
theorem dUX_next_69 : decode prog_11_method_11_code 69 = .ok (.getfield 51, 3) := by decide +kernel
theorem dUX_next_72 : decode prog_11_method_11_code 72 = .ok (.iconst 2, 1) := by decide +kernel
theorem dUX_next_73 : decode prog_11_method_11_code 73 = .ok (.if_icmp .ne 63, 3) := by decide +kernel
theorem dUX_next_76 : decode prog_11_method_11_code 76 = .ok (.iload_n 1, 1) := by decide +kernel
theorem dUX_next_77 : decode prog_11_method_11_code 77 = .ok (.aload_n 0, 1) := by decide +kernel
theorem dUX_next_78 : decode prog_11_method_11_code 78 = .ok (.getfield 18, 3) := by decide +kernel
theorem dUX_next_81 : decode prog_11_method_11_code 81 = .ok (.if_icmp .ge 55, 3) := by decide +kernel
theorem dUX_next_84 : decode prog_11_method_11_code 84 = .ok (.aload_n 0, 1) := by decide +kernel
theorem dUX_next_85 : decode prog_11_method_11_code 85 = .ok (.iload_n 1, 1) := by decide +kernel
theorem dUX_next_86 : decode prog_11_method_11_code 86 = .ok (.invokevirtual 114, 3) := by decide +kernel
theorem dUX_next_89 : decode prog_11_method_11_code 89 = .ok (.aload_n 0, 1) := by decide +kernel
theorem dUX_next_90 : decode prog_11_method_11_code 90 = .ok (.getfield 51, 3) := by decide +kernel
theorem dUX_next_93 : decode prog_11_method_11_code 93 = .ok (.if_icmp .ne 43, 3) := by decide +kernel
theorem dUX_next_96 : decode prog_11_method_11_code 96 = .ok (.aload_n 0, 1) := by decide +kernel
theorem dUX_next_97 : decode prog_11_method_11_code 97 = .ok (.getfield 51, 3) := by decide +kernel
theorem dUX_next_100 : decode prog_11_method_11_code 100 = .ok (.iconst 2, 1) := by decide +kernel
theorem dUX_next_101 : decode prog_11_method_11_code 101 = .ok (.if_icmp .ne 29, 3) := by decide +kernel
theorem dUX_next_104 : decode prog_11_method_11_code 104 = .ok (.aload_n 0, 1) := by decide +kernel
theorem dUX_next_105 : decode prog_11_method_11_code 105 = .ok (.aload_n 0, 1) := by decide +kernel
theorem dUX_next_106 : decode prog_11_method_11_code 106 = .ok (.getfield 111, 3) := by decide +kernel
theorem dUX_next_109 : decode prog_11_method_11_code 109 = .ok (.bipush 10, 2) := by decide +kernel
theorem dUX_next_111 : decode prog_11_method_11_code 111 = .ok (.imul, 1) := by decide +kernel
theorem dUX_next_112 : decode prog_11_method_11_code 112 = .ok (.aload_n 0, 1) := by decide +kernel
theorem dUX_next_113 : decode prog_11_method_11_code 113 = .ok (.getfield 11, 3) := by decide +kernel
theorem dUX_next_116 : decode prog_11_method_11_code 116 = .ok (.iload_n 1, 1) := by decide +kernel
theorem dUX_next_117 : decode prog_11_method_11_code 117 = .ok (.iaload, 1) := by decide +kernel
theorem dUX_next_118 : decode prog_11_method_11_code 118 = .ok (.iadd, 1) := by decide +kernel
theorem dUX_next_119 : decode prog_11_method_11_code 119 = .ok (.bipush 48, 2) := by decide +kernel
theorem dUX_next_121 : decode prog_11_method_11_code 121 = .ok (.isub, 1) := by decide +kernel
theorem dUX_next_122 : decode prog_11_method_11_code 122 = .ok (.ldc 117, 2) := by decide +kernel
theorem dUX_next_124 : decode prog_11_method_11_code 124 = .ok (.invokestatic 118, 3) := by decide +kernel
theorem dUX_next_127 : decode prog_11_method_11_code 127 = .ok (.putfield 111, 3) := by decide +kernel
theorem dUX_next_130 : decode prog_11_method_11_code 130 = .ok (.iinc 1 1, 3) := by decide +kernel
theorem dUX_next_133 : decode prog_11_method_11_code 133 = .ok (.goto (-57), 3) := by decide +kernel
theorem dUX_next_136 : decode prog_11_method_11_code 136 = .ok (.aload_n 0, 1) := by decide +kernel
theorem dUX_next_137 : decode prog_11_method_11_code 137 = .ok (.iload_n 1, 1) := by decide +kernel
theorem dUX_next_138 : decode prog_11_method_11_code 138 = .ok (.putfield 29, 3) := by decide +kernel
theorem dUX_next_141 : decode prog_11_method_11_code 141 = .ok (.return_, 1) := by decide +kernel
theorem dUX_read_0 : decode prog_11_method_3_code 0 = .ok (.aload_n 0, 1) := by decide +kernel
theorem dUX_read_1 : decode prog_11_method_3_code 1 = .ok (.getfield 15, 3) := by decide +kernel
theorem dUX_read_4 : decode prog_11_method_3_code 4 = .ok (.ldc 22, 2) := by decide +kernel
theorem dUX_read_6 : decode prog_11_method_3_code 6 = .ok (.invokestatic 23, 3) := by decide +kernel
theorem dUX_read_9 : decode prog_11_method_3_code 9 = .ok (.aload_n 0, 1) := by decide +kernel
theorem dUX_read_10 : decode prog_11_method_3_code 10 = .ok (.iconst 0, 1) := by decide +kernel
theorem dUX_read_11 : decode prog_11_method_3_code 11 = .ok (.putfield 29, 3) := by decide +kernel
theorem dUX_read_14 : decode prog_11_method_3_code 14 = .ok (.aload_n 0, 1) := by decide +kernel
theorem dUX_read_15 : decode prog_11_method_3_code 15 = .ok (.iconst (-1), 1) := by decide +kernel
theorem dUX_read_16 : decode prog_11_method_3_code 16 = .ok (.putfield 32, 3) := by decide +kernel
theorem dUX_read_19 : decode prog_11_method_3_code 19 = .ok (.iconst 0, 1) := by decide +kernel
theorem dUX_read_20 : decode prog_11_method_3_code 20 = .ok (.istore_n 1, 1) := by decide +kernel
theorem dUX_read_21 : decode prog_11_method_3_code 21 = .ok (.iload_n 1, 1) := by decide +kernel
theorem dUX_read_22 : decode prog_11_method_3_code 22 = .ok (.aload_n 0, 1) := by decide +kernel
theorem dUX_read_23 : decode prog_11_method_3_code 23 = .ok (.getfield 18, 3) := by decide +kernel
theorem dUX_read_26 : decode prog_11_method_3_code 26 = .ok (.if_icmp .gt 32, 3) := by decide +kernel
theorem dUX_read_29 : decode prog_11_method_3_code 29 = .ok (.aload_n 0, 1) := by decide +kernel
theorem dUX_read_30 : decode prog_11_method_3_code 30 = .ok (.getfield 29, 3) := by decide +kernel
theorem dUX_read_33 : decode prog_11_method_3_code 33 = .ok (.aload_n 0, 1) := by decide +kernel
theorem dUX_read_34 : decode prog_11_method_3_code 34 = .ok (.getfield 18, 3) := by decide +kernel
theorem dUX_read_37 : decode prog_11_method_3_code 37 = .ok (.if_icmp .gt 21, 3) := by decide +kernel
theorem dUX_read_40 : decode prog_11_method_3_code 40 = .ok (.aload_n 0, 1) := by decide +kernel
theorem dUX_read_41 : decode prog_11_method_3_code 41 = .ok (.getfield 32, 3) := by decide +kernel
theorem dUX_read_44 : decode prog_11_method_3_code 44 = .ok (.iconst (-1), 1) := by decide +kernel
theorem dUX_read_45 : decode prog_11_method_3_code 45 = .ok (.if_icmp .ne 13, 3) := by decide +kernel
theorem dUX_read_48 : decode prog_11_method_3_code 48 = .ok (.aload_n 0, 1) := by decide +kernel
theorem dUX_read_49 : decode prog_11_method_3_code 49 = .ok (.invokevirtual 35, 3) := by decide +kernel
theorem dUX_read_52 : decode prog_11_method_3_code 52 = .ok (.iinc 1 1, 3) := by decide +kernel
theorem dUX_read_55 : decode prog_11_method_3_code 55 = .ok (.goto (-34), 3) := by decide +kernel
theorem dUX_read_58 : decode prog_11_method_3_code 58 = .ok (.aload_n 0, 1) := by decide +kernel
theorem dUX_read_59 : decode prog_11_method_3_code 59 = .ok (.getfield 32, 3) := by decide +kernel
theorem dUX_read_62 : decode prog_11_method_3_code 62 = .ok (.ireturn, 1) := by decide +kernel
theorem dUX_readLine_0 : decode prog_11_method_4_code 0 = .ok (.iconst 4, 1) := by decide +kernel
theorem dUX_readLine_1 : decode prog_11_method_4_code 1 = .ok (.istore_n 1, 1) := by decide +kernel
theorem dUX_readLine_2 : decode prog_11_method_4_code 2 = .ok (.aload_n 0, 1) := by decide +kernel
theorem dUX_readLine_3 : decode prog_11_method_4_code 3 = .ok (.invokevirtual 38, 3) := by decide +kernel
theorem dUX_readLine_6 : decode prog_11_method_4_code 6 = .ok (.aload_n 0, 1) := by decide +kernel
theorem dUX_readLine_7 : decode prog_11_method_4_code 7 = .ok (.ldc 41, 2) := by decide +kernel
theorem dUX_readLine_9 : decode prog_11_method_4_code 9 = .ok (.invokevirtual 43, 3) := by decide +kernel
theorem dUX_readLine_12 : decode prog_11_method_4_code 12 = .ok (.ifCond .eq 37, 3) := by decide +kernel
theorem dUX_readLine_15 : decode prog_11_method_4_code 15 = .ok (.aload_n 0, 1) := by decide +kernel
theorem dUX_readLine_16 : decode prog_11_method_4_code 16 = .ok (.iconst 3, 1) := by decide +kernel
theorem dUX_readLine_17 : decode prog_11_method_4_code 17 = .ok (.invokevirtual 47, 3) := by decide +kernel
theorem dUX_readLine_20 : decode prog_11_method_4_code 20 = .ok (.istore_n 1, 1) := by decide +kernel
theorem dUX_readLine_21 : decode prog_11_method_4_code 21 = .ok (.aload_n 0, 1) := by decide +kernel
theorem dUX_readLine_22 : decode prog_11_method_4_code 22 = .ok (.invokevirtual 38, 3) := by decide +kernel
theorem dUX_readLine_25 : decode prog_11_method_4_code 25 = .ok (.aload_n 0, 1) := by decide +kernel
theorem dUX_readLine_26 : decode prog_11_method_4_code 26 = .ok (.aload_n 0, 1) := by decide +kernel
theorem dUX_readLine_27 : decode prog_11_method_4_code 27 = .ok (.getfield 51, 3) := by decide +kernel
theorem dUX_readLine_30 : decode prog_11_method_4_code 30 = .ok (.iconst 3, 1) := by decide +kernel
theorem dUX_readLine_31 : decode prog_11_method_4_code 31 = .ok (.if_icmp .ne 7, 3) := by decide +kernel
theorem dUX_readLine_34 : decode prog_11_method_4_code 34 = .ok (.iconst 1, 1) := by decide +kernel
theorem dUX_readLine_35 : decode prog_11_method_4_code 35 = .ok (.goto 4, 3) := by decide +kernel
theorem dUX_readLine_38 : decode prog_11_method_4_code 38 = .ok (.iconst 0, 1) := by decide +kernel
theorem dUX_readLine_39 : decode prog_11_method_4_code 39 = .ok (.invokevirtual 54, 3) := by decide +kernel
theorem dUX_readLine_42 : decode prog_11_method_4_code 42 = .ok (.aload_n 0, 1) := by decide +kernel
theorem dUX_readLine_43 : decode prog_11_method_4_code 43 = .ok (.invokevirtual 38, 3) := by decide +kernel
theorem dUX_readLine_46 : decode prog_11_method_4_code 46 = .ok (.goto 21, 3) := by decide +kernel
theorem dUX_readLine_49 : decode prog_11_method_4_code 49 = .ok (.aload_n 0, 1) := by decide +kernel
theorem dUX_readLine_50 : decode prog_11_method_4_code 50 = .ok (.getfield 51, 3) := by decide +kernel
theorem dUX_readLine_53 : decode prog_11_method_4_code 53 = .ok (.ifCond .ne 14, 3) := by decide +kernel
theorem dUX_readLine_56 : decode prog_11_method_4_code 56 = .ok (.aload_n 0, 1) := by decide +kernel
theorem dUX_readLine_57 : decode prog_11_method_4_code 57 = .ok (.aload_n 0, 1) := by decide +kernel
theorem dUX_readLine_58 : decode prog_11_method_4_code 58 = .ok (.getfield 58, 3) := by decide +kernel
theorem dUX_readLine_61 : decode prog_11_method_4_code 61 = .ok (.iconst 1, 1) := by decide +kernel
theorem dUX_readLine_62 : decode prog_11_method_4_code 62 = .ok (.iadd, 1) := by decide +kernel
theorem dUX_readLine_63 : decode prog_11_method_4_code 63 = .ok (.putfield 29, 3) := by decide +kernel
theorem dUX_readLine_66 : decode prog_11_method_4_code 66 = .ok (.return_, 1) := by decide +kernel
theorem dUX_readLine_67 : decode prog_11_method_4_code 67 = .ok (.aload_n 0, 1) := by decide +kernel
theorem dUX_readLine_68 : decode prog_11_method_4_code 68 = .ok (.getfield 32, 3) := by decide +kernel
theorem dUX_readLine_71 : decode prog_11_method_4_code 71 = .ok (.iconst (-1), 1) := by decide +kernel
theorem dUX_readLine_72 : decode prog_11_method_4_code 72 = .ok (.if_icmp .ne 41, 3) := by decide +kernel
theorem dUX_readLine_75 : decode prog_11_method_4_code 75 = .ok (.aload_n 0, 1) := by decide +kernel
theorem dUX_readLine_76 : decode prog_11_method_4_code 76 = .ok (.iload_n 1, 1) := by decide +kernel
theorem dUX_readLine_77 : decode prog_11_method_4_code 77 = .ok (.bipush 12, 2) := by decide +kernel
theorem dUX_readLine_79 : decode prog_11_method_4_code 79 = .ok (.imul, 1) := by decide +kernel
theorem dUX_readLine_80 : decode prog_11_method_4_code 80 = .ok (.invokevirtual 61, 3) := by decide +kernel
theorem dUX_readLine_83 : decode prog_11_method_4_code 83 = .ok (.aload_n 0, 1) := by decide +kernel
theorem dUX_readLine_84 : decode prog_11_method_4_code 84 = .ok (.invokevirtual 38, 3) := by decide +kernel
theorem dUX_readLine_87 : decode prog_11_method_4_code 87 = .ok (.aload_n 0, 1) := by decide +kernel
theorem dUX_readLine_88 : decode prog_11_method_4_code 88 = .ok (.aload_n 0, 1) := by decide +kernel
theorem dUX_readLine_89 : decode prog_11_method_4_code 89 = .ok (.getfield 51, 3) := by decide +kernel
theorem dUX_readLine_92 : decode prog_11_method_4_code 92 = .ok (.ifCond .ne 7, 3) := by decide +kernel
theorem dUX_readLine_95 : decode prog_11_method_4_code 95 = .ok (.iconst 1, 1) := by decide +kernel
theorem dUX_readLine_96 : decode prog_11_method_4_code 96 = .ok (.goto 4, 3) := by decide +kernel
theorem dUX_readLine_99 : decode prog_11_method_4_code 99 = .ok (.iconst 0, 1) := by decide +kernel
theorem dUX_readLine_100 : decode prog_11_method_4_code 100 = .ok (.invokevirtual 54, 3) := by decide +kernel
theorem dUX_readLine_103 : decode prog_11_method_4_code 103 = .ok (.aload_n 0, 1) := by decide +kernel
theorem dUX_readLine_104 : decode prog_11_method_4_code 104 = .ok (.aload_n 0, 1) := by decide +kernel
theorem dUX_readLine_105 : decode prog_11_method_4_code 105 = .ok (.getfield 58, 3) := by decide +kernel
theorem dUX_readLine_108 : decode prog_11_method_4_code 108 = .ok (.iconst 1, 1) := by decide +kernel
theorem dUX_readLine_109 : decode prog_11_method_4_code 109 = .ok (.iadd, 1) := by decide +kernel
theorem dUX_readLine_110 : decode prog_11_method_4_code 110 = .ok (.putfield 29, 3) := by decide +kernel
theorem dUX_readLine_113 : decode prog_11_method_4_code 113 = .ok (.return_, 1) := by decide +kernel
theorem dUX_readRule_0 : decode prog_11_method_5_code 0 = .ok (.aload_n 0, 1) := by decide +kernel
theorem dUX_readRule_1 : decode prog_11_method_5_code 1 = .ok (.ldc 65, 2) := by decide +kernel
theorem dUX_readRule_3 : decode prog_11_method_5_code 3 = .ok (.invokevirtual 43, 3) := by decide +kernel
theorem dUX_readRule_6 : decode prog_11_method_5_code 6 = .ok (.ifCond .eq 21, 3) := by decide +kernel
theorem dUX_readRule_9 : decode prog_11_method_5_code 9 = .ok (.aload_n 0, 1) := by decide +kernel
theorem dUX_readRule_10 : decode prog_11_method_5_code 10 = .ok (.getfield 15, 3) := by decide +kernel
theorem dUX_readRule_13 : decode prog_11_method_5_code 13 = .ok (.iload_n 1, 1) := by decide +kernel
theorem dUX_readRule_14 : decode prog_11_method_5_code 14 = .ok (.iconst 0, 1) := by decide +kernel
theorem dUX_readRule_15 : decode prog_11_method_5_code 15 = .ok (.iadd, 1) := by decide +kernel
theorem dUX_readRule_16 : decode prog_11_method_5_code 16 = .ok (.aload_n 0, 1) := by decide +kernel
theorem dUX_readRule_17 : decode prog_11_method_5_code 17 = .ok (.sipush 5000, 3) := by decide +kernel
theorem dUX_readRule_20 : decode prog_11_method_5_code 20 = .ok (.invokevirtual 47, 3) := by decide +kernel
theorem dUX_readRule_23 : decode prog_11_method_5_code 23 = .ok (.iastore, 1) := by decide +kernel
theorem dUX_readRule_24 : decode prog_11_method_5_code 24 = .ok (.goto 298, 3) := by decide +kernel
theorem dUX_readRule_27 : decode prog_11_method_5_code 27 = .ok (.aload_n 0, 1) := by decide +kernel
theorem dUX_readRule_28 : decode prog_11_method_5_code 28 = .ok (.ldc 67, 2) := by decide +kernel
theorem dUX_readRule_30 : decode prog_11_method_5_code 30 = .ok (.invokevirtual 43, 3) := by decide +kernel
theorem dUX_readRule_33 : decode prog_11_method_5_code 33 = .ok (.ifCond .eq 42, 3) := by decide +kernel
theorem dUX_readRule_36 : decode prog_11_method_5_code 36 = .ok (.aload_n 0, 1) := by decide +kernel
theorem dUX_readRule_37 : decode prog_11_method_5_code 37 = .ok (.getfield 15, 3) := by decide +kernel
theorem dUX_readRule_40 : decode prog_11_method_5_code 40 = .ok (.iload_n 1, 1) := by decide +kernel
theorem dUX_readRule_41 : decode prog_11_method_5_code 41 = .ok (.iconst 1, 1) := by decide +kernel
theorem dUX_readRule_42 : decode prog_11_method_5_code 42 = .ok (.iadd, 1) := by decide +kernel
theorem dUX_readRule_43 : decode prog_11_method_5_code 43 = .ok (.aload_n 0, 1) := by decide +kernel
theorem dUX_readRule_44 : decode prog_11_method_5_code 44 = .ok (.sipush 1000, 3) := by decide +kernel
theorem dUX_readRule_47 : decode prog_11_method_5_code 47 = .ok (.invokevirtual 47, 3) := by decide +kernel
theorem dUX_readRule_50 : decode prog_11_method_5_code 50 = .ok (.iastore, 1) := by decide +kernel
theorem dUX_readRule_51 : decode prog_11_method_5_code 51 = .ok (.aload_n 0, 1) := by decide +kernel
theorem dUX_readRule_52 : decode prog_11_method_5_code 52 = .ok (.ldc 69, 2) := by decide +kernel
theorem dUX_readRule_54 : decode prog_11_method_5_code 54 = .ok (.invokevirtual 71, 3) := by decide +kernel
theorem dUX_readRule_57 : decode prog_11_method_5_code 57 = .ok (.aload_n 0, 1) := by decide +kernel
theorem dUX_readRule_58 : decode prog_11_method_5_code 58 = .ok (.getfield 15, 3) := by decide +kernel
theorem dUX_readRule_61 : decode prog_11_method_5_code 61 = .ok (.iload_n 1, 1) := by decide +kernel
theorem dUX_readRule_62 : decode prog_11_method_5_code 62 = .ok (.iconst 2, 1) := by decide +kernel
theorem dUX_readRule_63 : decode prog_11_method_5_code 63 = .ok (.iadd, 1) := by decide +kernel
theorem dUX_readRule_64 : decode prog_11_method_5_code 64 = .ok (.aload_n 0, 1) := by decide +kernel
theorem dUX_readRule_65 : decode prog_11_method_5_code 65 = .ok (.sipush 10000, 3) := by decide +kernel
theorem dUX_readRule_68 : decode prog_11_method_5_code 68 = .ok (.invokevirtual 47, 3) := by decide +kernel
theorem dUX_readRule_71 : decode prog_11_method_5_code 71 = .ok (.iastore, 1) := by decide +kernel
theorem dUX_readRule_72 : decode prog_11_method_5_code 72 = .ok (.goto 250, 3) := by decide +kernel
theorem dUX_readRule_75 : decode prog_11_method_5_code 75 = .ok (.aload_n 0, 1) := by decide +kernel
theorem dUX_readRule_76 : decode prog_11_method_5_code 76 = .ok (.ldc 75, 2) := by decide +kernel
theorem dUX_readRule_78 : decode prog_11_method_5_code 78 = .ok (.invokevirtual 43, 3) := by decide +kernel
theorem dUX_readRule_81 : decode prog_11_method_5_code 81 = .ok (.ifCond .eq 20, 3) := by decide +kernel
theorem dUX_readRule_84 : decode prog_11_method_5_code 84 = .ok (.aload_n 0, 1) := by decide +kernel
theorem dUX_readRule_85 : decode prog_11_method_5_code 85 = .ok (.getfield 15, 3) := by decide +kernel
theorem dUX_readRule_88 : decode prog_11_method_5_code 88 = .ok (.iload_n 1, 1) := by decide +kernel
theorem dUX_readRule_89 : decode prog_11_method_5_code 89 = .ok (.iconst 3, 1) := by decide +kernel
theorem dUX_readRule_90 : decode prog_11_method_5_code 90 = .ok (.iadd, 1) := by decide +kernel
theorem dUX_readRule_91 : decode prog_11_method_5_code 91 = .ok (.aload_n 0, 1) := by decide +kernel
theorem dUX_readRule_92 : decode prog_11_method_5_code 92 = .ok (.bipush 24, 2) := by decide +kernel
theorem dUX_readRule_94 : decode prog_11_method_5_code 94 = .ok (.invokevirtual 47, 3) := by decide +kernel
theorem dUX_readRule_97 : decode prog_11_method_5_code 97 = .ok (.iastore, 1) := by decide +kernel
theorem dUX_readRule_98 : decode prog_11_method_5_code 98 = .ok (.goto 224, 3) := by decide +kernel
theorem dUX_readRule_101 : decode prog_11_method_5_code 101 = .ok (.aload_n 0, 1) := by decide +kernel
theorem dUX_readRule_102 : decode prog_11_method_5_code 102 = .ok (.ldc 77, 2) := by decide +kernel
theorem dUX_readRule_104 : decode prog_11_method_5_code 104 = .ok (.invokevirtual 43, 3) := by decide +kernel
theorem dUX_readRule_107 : decode prog_11_method_5_code 107 = .ok (.ifCond .eq 27, 3) := by decide +kernel
theorem dUX_readRule_110 : decode prog_11_method_5_code 110 = .ok (.aload_n 0, 1) := by decide +kernel
theorem dUX_readRule_111 : decode prog_11_method_5_code 111 = .ok (.ldc 79, 2) := by decide +kernel
theorem dUX_readRule_113 : decode prog_11_method_5_code 113 = .ok (.invokevirtual 71, 3) := by decide +kernel
theorem dUX_readRule_116 : decode prog_11_method_5_code 116 = .ok (.aload_n 0, 1) := by decide +kernel
theorem dUX_readRule_117 : decode prog_11_method_5_code 117 = .ok (.getfield 15, 3) := by decide +kernel
theorem dUX_readRule_120 : decode prog_11_method_5_code 120 = .ok (.iload_n 1, 1) := by decide +kernel
theorem dUX_readRule_121 : decode prog_11_method_5_code 121 = .ok (.iconst 4, 1) := by decide +kernel
theorem dUX_readRule_122 : decode prog_11_method_5_code 122 = .ok (.iadd, 1) := by decide +kernel
theorem dUX_readRule_123 : decode prog_11_method_5_code 123 = .ok (.aload_n 0, 1) := by decide +kernel
theorem dUX_readRule_124 : decode prog_11_method_5_code 124 = .ok (.sipush 5000, 3) := by decide +kernel
theorem dUX_readRule_127 : decode prog_11_method_5_code 127 = .ok (.invokevirtual 47, 3) := by decide +kernel
theorem dUX_readRule_130 : decode prog_11_method_5_code 130 = .ok (.iastore, 1) := by decide +kernel
theorem dUX_readRule_131 : decode prog_11_method_5_code 131 = .ok (.goto 191, 3) := by decide +kernel
theorem dUX_readRule_134 : decode prog_11_method_5_code 134 = .ok (.aload_n 0, 1) := by decide +kernel
theorem dUX_readRule_135 : decode prog_11_method_5_code 135 = .ok (.ldc 81, 2) := by decide +kernel
theorem dUX_readRule_137 : decode prog_11_method_5_code 137 = .ok (.invokevirtual 43, 3) := by decide +kernel
theorem dUX_readRule_140 : decode prog_11_method_5_code 140 = .ok (.ifCond .eq 39, 3) := by decide +kernel
theorem dUX_readRule_143 : decode prog_11_method_5_code 143 = .ok (.aload_n 0, 1) := by decide +kernel
theorem dUX_readRule_144 : decode prog_11_method_5_code 144 = .ok (.getfield 15, 3) := by decide +kernel
theorem dUX_readRule_147 : decode prog_11_method_5_code 147 = .ok (.iload_n 1, 1) := by decide +kernel
theorem dUX_readRule_148 : decode prog_11_method_5_code 148 = .ok (.iconst 5, 1) := by decide +kernel
theorem dUX_readRule_149 : decode prog_11_method_5_code 149 = .ok (.iadd, 1) := by decide +kernel
theorem dUX_readRule_150 : decode prog_11_method_5_code 150 = .ok (.aload_n 0, 1) := by decide +kernel
theorem dUX_readRule_151 : decode prog_11_method_5_code 151 = .ok (.ldc 83, 2) := by decide +kernel
theorem dUX_readRule_153 : decode prog_11_method_5_code 153 = .ok (.invokevirtual 47, 3) := by decide +kernel
theorem dUX_readRule_156 : decode prog_11_method_5_code 156 = .ok (.iastore, 1) := by decide +kernel
theorem dUX_readRule_157 : decode prog_11_method_5_code 157 = .ok (.aload_n 0, 1) := by decide +kernel
theorem dUX_readRule_158 : decode prog_11_method_5_code 158 = .ok (.ldc 84, 2) := by decide +kernel
theorem dUX_readRule_160 : decode prog_11_method_5_code 160 = .ok (.invokevirtual 71, 3) := by decide +kernel
theorem dUX_readRule_163 : decode prog_11_method_5_code 163 = .ok (.aload_n 0, 1) := by decide +kernel
theorem dUX_readRule_164 : decode prog_11_method_5_code 164 = .ok (.getfield 15, 3) := by decide +kernel
theorem dUX_readRule_167 : decode prog_11_method_5_code 167 = .ok (.iload_n 1, 1) := by decide +kernel
theorem dUX_readRule_168 : decode prog_11_method_5_code 168 = .ok (.bipush 6, 2) := by decide +kernel
theorem dUX_readRule_170 : decode prog_11_method_5_code 170 = .ok (.iadd, 1) := by decide +kernel
theorem dUX_readRule_171 : decode prog_11_method_5_code 171 = .ok (.aload_n 0, 1) := by decide +kernel
theorem dUX_readRule_172 : decode prog_11_method_5_code 172 = .ok (.invokevirtual 86, 3) := by decide +kernel
theorem dUX_readRule_175 : decode prog_11_method_5_code 175 = .ok (.iastore, 1) := by decide +kernel
theorem dUX_readRule_176 : decode prog_11_method_5_code 176 = .ok (.goto 146, 3) := by decide +kernel
theorem dUX_readRule_179 : decode prog_11_method_5_code 179 = .ok (.aload_n 0, 1) := by decide +kernel
theorem dUX_readRule_180 : decode prog_11_method_5_code 180 = .ok (.ldc 90, 2) := by decide +kernel
theorem dUX_readRule_182 : decode prog_11_method_5_code 182 = .ok (.invokevirtual 43, 3) := by decide +kernel
theorem dUX_readRule_185 : decode prog_11_method_5_code 185 = .ok (.ifCond .eq 19, 3) := by decide +kernel
theorem dUX_readRule_188 : decode prog_11_method_5_code 188 = .ok (.aload_n 0, 1) := by decide +kernel
theorem dUX_readRule_189 : decode prog_11_method_5_code 189 = .ok (.getfield 15, 3) := by decide +kernel
theorem dUX_readRule_192 : decode prog_11_method_5_code 192 = .ok (.iload_n 1, 1) := by decide +kernel
theorem dUX_readRule_193 : decode prog_11_method_5_code 193 = .ok (.bipush 7, 2) := by decide +kernel
theorem dUX_readRule_195 : decode prog_11_method_5_code 195 = .ok (.iadd, 1) := by decide +kernel
theorem dUX_readRule_196 : decode prog_11_method_5_code 196 = .ok (.aload_n 0, 1) := by decide +kernel
theorem dUX_readRule_197 : decode prog_11_method_5_code 197 = .ok (.invokevirtual 92, 3) := by decide +kernel
theorem dUX_readRule_200 : decode prog_11_method_5_code 200 = .ok (.iastore, 1) := by decide +kernel
theorem dUX_readRule_201 : decode prog_11_method_5_code 201 = .ok (.goto 121, 3) := by decide +kernel
theorem dUX_readRule_204 : decode prog_11_method_5_code 204 = .ok (.aload_n 0, 1) := by decide +kernel
theorem dUX_readRule_205 : decode prog_11_method_5_code 205 = .ok (.ldc 95, 2) := by decide +kernel
theorem dUX_readRule_207 : decode prog_11_method_5_code 207 = .ok (.invokevirtual 43, 3) := by decide +kernel
theorem dUX_readRule_210 : decode prog_11_method_5_code 210 = .ok (.ifCond .eq 47, 3) := by decide +kernel
theorem dUX_readRule_213 : decode prog_11_method_5_code 213 = .ok (.aload_n 0, 1) := by decide +kernel
theorem dUX_readRule_214 : decode prog_11_method_5_code 214 = .ok (.getfield 15, 3) := by decide +kernel
theorem dUX_readRule_217 : decode prog_11_method_5_code 217 = .ok (.iload_n 1, 1) := by decide +kernel
theorem dUX_readRule_218 : decode prog_11_method_5_code 218 = .ok (.bipush 8, 2) := by decide +kernel
theorem dUX_readRule_220 : decode prog_11_method_5_code 220 = .ok (.iadd, 1) := by decide +kernel
theorem dUX_readRule_221 : decode prog_11_method_5_code 221 = .ok (.aload_n 0, 1) := by decide +kernel
theorem dUX_readRule_222 : decode prog_11_method_5_code 222 = .ok (.sipush 300, 3) := by decide +kernel
theorem dUX_readRule_225 : decode prog_11_method_5_code 225 = .ok (.invokevirtual 47, 3) := by decide +kernel
theorem dUX_readRule_228 : decode prog_11_method_5_code 228 = .ok (.iastore, 1) := by decide +kernel
theorem dUX_readRule_229 : decode prog_11_method_5_code 229 = .ok (.aload_n 0, 1) := by decide +kernel
theorem dUX_readRule_230 : decode prog_11_method_5_code 230 = .ok (.ldc 97, 2) := by decide +kernel
theorem dUX_readRule_232 : decode prog_11_method_5_code 232 = .ok (.invokevirtual 71, 3) := by decide +kernel
theorem dUX_readRule_235 : decode prog_11_method_5_code 235 = .ok (.aload_n 0, 1) := by decide +kernel
theorem dUX_readRule_236 : decode prog_11_method_5_code 236 = .ok (.ldc 84, 2) := by decide +kernel
theorem dUX_readRule_238 : decode prog_11_method_5_code 238 = .ok (.invokevirtual 71, 3) := by decide +kernel
theorem dUX_readRule_241 : decode prog_11_method_5_code 241 = .ok (.aload_n 0, 1) := by decide +kernel
theorem dUX_readRule_242 : decode prog_11_method_5_code 242 = .ok (.getfield 15, 3) := by decide +kernel
theorem dUX_readRule_245 : decode prog_11_method_5_code 245 = .ok (.iload_n 1, 1) := by decide +kernel
theorem dUX_readRule_246 : decode prog_11_method_5_code 246 = .ok (.bipush 9, 2) := by decide +kernel
theorem dUX_readRule_248 : decode prog_11_method_5_code 248 = .ok (.iadd, 1) := by decide +kernel
theorem dUX_readRule_249 : decode prog_11_method_5_code 249 = .ok (.aload_n 0, 1) := by decide +kernel
theorem dUX_readRule_250 : decode prog_11_method_5_code 250 = .ok (.invokevirtual 86, 3) := by decide +kernel
theorem dUX_readRule_253 : decode prog_11_method_5_code 253 = .ok (.iastore, 1) := by decide +kernel
theorem dUX_readRule_254 : decode prog_11_method_5_code 254 = .ok (.goto 68, 3) := by decide +kernel
theorem dUX_readRule_257 : decode prog_11_method_5_code 257 = .ok (.aload_n 0, 1) := by decide +kernel
theorem dUX_readRule_258 : decode prog_11_method_5_code 258 = .ok (.ldc 99, 2) := by decide +kernel
theorem dUX_readRule_260 : decode prog_11_method_5_code 260 = .ok (.invokevirtual 43, 3) := by decide +kernel
theorem dUX_readRule_263 : decode prog_11_method_5_code 263 = .ok (.ifCond .eq 21, 3) := by decide +kernel
theorem dUX_readRule_266 : decode prog_11_method_5_code 266 = .ok (.aload_n 0, 1) := by decide +kernel
theorem dUX_readRule_267 : decode prog_11_method_5_code 267 = .ok (.getfield 15, 3) := by decide +kernel
theorem dUX_readRule_270 : decode prog_11_method_5_code 270 = .ok (.iload_n 1, 1) := by decide +kernel
theorem dUX_readRule_271 : decode prog_11_method_5_code 271 = .ok (.bipush 10, 2) := by decide +kernel
theorem dUX_readRule_273 : decode prog_11_method_5_code 273 = .ok (.iadd, 1) := by decide +kernel
theorem dUX_readRule_274 : decode prog_11_method_5_code 274 = .ok (.aload_n 0, 1) := by decide +kernel
theorem dUX_readRule_275 : decode prog_11_method_5_code 275 = .ok (.bipush 90, 2) := by decide +kernel
theorem dUX_readRule_277 : decode prog_11_method_5_code 277 = .ok (.invokevirtual 47, 3) := by decide +kernel
theorem dUX_readRule_280 : decode prog_11_method_5_code 280 = .ok (.iastore, 1) := by decide +kernel
theorem dUX_readRule_281 : decode prog_11_method_5_code 281 = .ok (.goto 41, 3) := by decide +kernel
theorem dUX_readRule_284 : decode prog_11_method_5_code 284 = .ok (.aload_n 0, 1) := by decide +kernel
theorem dUX_readRule_285 : decode prog_11_method_5_code 285 = .ok (.ldc 101, 2) := by decide +kernel
theorem dUX_readRule_287 : decode prog_11_method_5_code 287 = .ok (.invokevirtual 43, 3) := by decide +kernel
theorem dUX_readRule_290 : decode prog_11_method_5_code 290 = .ok (.ifCond .eq 27, 3) := by decide +kernel
theorem dUX_readRule_293 : decode prog_11_method_5_code 293 = .ok (.aload_n 0, 1) := by decide +kernel
theorem dUX_readRule_294 : decode prog_11_method_5_code 294 = .ok (.getfield 15, 3) := by decide +kernel
theorem dUX_readRule_297 : decode prog_11_method_5_code 297 = .ok (.iload_n 1, 1) := by decide +kernel
theorem dUX_readRule_298 : decode prog_11_method_5_code 298 = .ok (.bipush 11, 2) := by decide +kernel
theorem dUX_readRule_300 : decode prog_11_method_5_code 300 = .ok (.iadd, 1) := by decide +kernel
theorem dUX_readRule_301 : decode prog_11_method_5_code 301 = .ok (.aload_n 0, 1) := by decide +kernel
theorem dUX_readRule_302 : decode prog_11_method_5_code 302 = .ok (.bipush 60, 2) := by decide +kernel
theorem dUX_readRule_304 : decode prog_11_method_5_code 304 = .ok (.invokevirtual 47, 3) := by decide +kernel
theorem dUX_readRule_307 : decode prog_11_method_5_code 307 = .ok (.iastore, 1) := by decide +kernel
theorem dUX_readRule_308 : decode prog_11_method_5_code 308 = .ok (.aload_n 0, 1) := by decide +kernel
theorem dUX_readRule_309 : decode prog_11_method_5_code 309 = .ok (.ldc 97, 2) := by decide +kernel
theorem dUX_readRule_311 : decode prog_11_method_5_code 311 = .ok (.invokevirtual 71, 3) := by decide +kernel
theorem dUX_readRule_314 : decode prog_11_method_5_code 314 = .ok (.goto 8, 3) := by decide +kernel
theorem dUX_readRule_317 : decode prog_11_method_5_code 317 = .ok (.aload_n 0, 1) := by decide +kernel
theorem dUX_readRule_318 : decode prog_11_method_5_code 318 = .ok (.iconst 0, 1) := by decide +kernel
theorem dUX_readRule_319 : decode prog_11_method_5_code 319 = .ok (.invokevirtual 54, 3) := by decide +kernel
theorem dUX_readRule_322 : decode prog_11_method_5_code 322 = .ok (.return_, 1) := by decide +kernel
theorem dUX_want_0 : decode prog_11_method_10_code 0 = .ok (.iload_n 1, 1) := by decide +kernel
theorem dUX_want_1 : decode prog_11_method_10_code 1 = .ok (.ifCond .ne 19, 3) := by decide +kernel
theorem dUX_want_4 : decode prog_11_method_10_code 4 = .ok (.aload_n 0, 1) := by decide +kernel
theorem dUX_want_5 : decode prog_11_method_10_code 5 = .ok (.getfield 32, 3) := by decide +kernel
theorem dUX_want_8 : decode prog_11_method_10_code 8 = .ok (.iconst (-1), 1) := by decide +kernel
theorem dUX_want_9 : decode prog_11_method_10_code 9 = .ok (.if_icmp .ne 11, 3) := by decide +kernel
theorem dUX_want_12 : decode prog_11_method_10_code 12 = .ok (.aload_n 0, 1) := by decide +kernel
theorem dUX_want_13 : decode prog_11_method_10_code 13 = .ok (.aload_n 0, 1) := by decide +kernel
theorem dUX_want_14 : decode prog_11_method_10_code 14 = .ok (.getfield 58, 3) := by decide +kernel
theorem dUX_want_17 : decode prog_11_method_10_code 17 = .ok (.putfield 32, 3) := by decide +kernel
theorem dUX_want_20 : decode prog_11_method_10_code 20 = .ok (.return_, 1) := by decide +kernel
theorem dUX_wantGains_0 : decode prog_11_method_6_code 0 = .ok (.aload_n 0, 1) := by decide +kernel
theorem dUX_wantGains_1 : decode prog_11_method_6_code 1 = .ok (.invokevirtual 38, 3) := by decide +kernel
theorem dUX_wantGains_4 : decode prog_11_method_6_code 4 = .ok (.aload_n 0, 1) := by decide +kernel
theorem dUX_wantGains_5 : decode prog_11_method_6_code 5 = .ok (.ldc 103, 2) := by decide +kernel
theorem dUX_wantGains_7 : decode prog_11_method_6_code 7 = .ok (.invokevirtual 43, 3) := by decide +kernel
theorem dUX_wantGains_10 : decode prog_11_method_6_code 10 = .ok (.ifCond .eq 5, 3) := by decide +kernel
theorem dUX_wantGains_13 : decode prog_11_method_6_code 13 = .ok (.iconst (-1), 1) := by decide +kernel
theorem dUX_wantGains_14 : decode prog_11_method_6_code 14 = .ok (.ireturn, 1) := by decide +kernel
theorem dUX_wantGains_15 : decode prog_11_method_6_code 15 = .ok (.aload_n 0, 1) := by decide +kernel
theorem dUX_wantGains_16 : decode prog_11_method_6_code 16 = .ok (.aload_n 0, 1) := by decide +kernel
theorem dUX_wantGains_17 : decode prog_11_method_6_code 17 = .ok (.ldc 105, 2) := by decide +kernel
theorem dUX_wantGains_19 : decode prog_11_method_6_code 19 = .ok (.invokevirtual 43, 3) := by decide +kernel
theorem dUX_wantGains_22 : decode prog_11_method_6_code 22 = .ok (.invokevirtual 54, 3) := by decide +kernel
theorem dUX_wantGains_25 : decode prog_11_method_6_code 25 = .ok (.aload_n 0, 1) := by decide +kernel
theorem dUX_wantGains_26 : decode prog_11_method_6_code 26 = .ok (.invokevirtual 38, 3) := by decide +kernel
theorem dUX_wantGains_29 : decode prog_11_method_6_code 29 = .ok (.aload_n 0, 1) := by decide +kernel
theorem dUX_wantGains_30 : decode prog_11_method_6_code 30 = .ok (.aload_n 0, 1) := by decide +kernel
theorem dUX_wantGains_31 : decode prog_11_method_6_code 31 = .ok (.ldc 79, 2) := by decide +kernel
theorem dUX_wantGains_33 : decode prog_11_method_6_code 33 = .ok (.invokevirtual 43, 3) := by decide +kernel
theorem dUX_wantGains_36 : decode prog_11_method_6_code 36 = .ok (.invokevirtual 54, 3) := by decide +kernel
theorem dUX_wantGains_39 : decode prog_11_method_6_code 39 = .ok (.aload_n 0, 1) := by decide +kernel
theorem dUX_wantGains_40 : decode prog_11_method_6_code 40 = .ok (.ldc 83, 2) := by decide +kernel
theorem dUX_wantGains_42 : decode prog_11_method_6_code 42 = .ok (.invokevirtual 47, 3) := by decide +kernel
theorem dUX_wantGains_45 : decode prog_11_method_6_code 45 = .ok (.ireturn, 1) := by decide +kernel
theorem dUX_wantNumber_0 : decode prog_11_method_9_code 0 = .ok (.aload_n 0, 1) := by decide +kernel
theorem dUX_wantNumber_1 : decode prog_11_method_9_code 1 = .ok (.invokevirtual 38, 3) := by decide +kernel
theorem dUX_wantNumber_4 : decode prog_11_method_9_code 4 = .ok (.aload_n 0, 1) := by decide +kernel
theorem dUX_wantNumber_5 : decode prog_11_method_9_code 5 = .ok (.getfield 51, 3) := by decide +kernel
theorem dUX_wantNumber_8 : decode prog_11_method_9_code 8 = .ok (.iconst 2, 1) := by decide +kernel
theorem dUX_wantNumber_9 : decode prog_11_method_9_code 9 = .ok (.if_icmp .ne 15, 3) := by decide +kernel
theorem dUX_wantNumber_12 : decode prog_11_method_9_code 12 = .ok (.aload_n 0, 1) := by decide +kernel
theorem dUX_wantNumber_13 : decode prog_11_method_9_code 13 = .ok (.getfield 111, 3) := by decide +kernel
theorem dUX_wantNumber_16 : decode prog_11_method_9_code 16 = .ok (.iload_n 1, 1) := by decide +kernel
theorem dUX_wantNumber_17 : decode prog_11_method_9_code 17 = .ok (.if_icmp .gt 7, 3) := by decide +kernel
theorem dUX_wantNumber_20 : decode prog_11_method_9_code 20 = .ok (.iconst 1, 1) := by decide +kernel
theorem dUX_wantNumber_21 : decode prog_11_method_9_code 21 = .ok (.goto 4, 3) := by decide +kernel
theorem dUX_wantNumber_24 : decode prog_11_method_9_code 24 = .ok (.iconst 0, 1) := by decide +kernel
theorem dUX_wantNumber_25 : decode prog_11_method_9_code 25 = .ok (.istore_n 2, 1) := by decide +kernel
theorem dUX_wantNumber_26 : decode prog_11_method_9_code 26 = .ok (.aload_n 0, 1) := by decide +kernel
theorem dUX_wantNumber_27 : decode prog_11_method_9_code 27 = .ok (.iload_n 2, 1) := by decide +kernel
theorem dUX_wantNumber_28 : decode prog_11_method_9_code 28 = .ok (.invokevirtual 54, 3) := by decide +kernel
theorem dUX_wantNumber_31 : decode prog_11_method_9_code 31 = .ok (.iload_n 2, 1) := by decide +kernel
theorem dUX_wantNumber_32 : decode prog_11_method_9_code 32 = .ok (.ifCond .eq 10, 3) := by decide +kernel
theorem dUX_wantNumber_35 : decode prog_11_method_9_code 35 = .ok (.aload_n 0, 1) := by decide +kernel
theorem dUX_wantNumber_36 : decode prog_11_method_9_code 36 = .ok (.getfield 111, 3) := by decide +kernel
theorem dUX_wantNumber_39 : decode prog_11_method_9_code 39 = .ok (.goto 4, 3) := by decide +kernel
theorem dUX_wantNumber_42 : decode prog_11_method_9_code 42 = .ok (.iconst 0, 1) := by decide +kernel
theorem dUX_wantNumber_43 : decode prog_11_method_9_code 43 = .ok (.ireturn, 1) := by decide +kernel
theorem dUX_wantParty_0 : decode prog_11_method_7_code 0 = .ok (.aload_n 0, 1) := by decide +kernel
theorem dUX_wantParty_1 : decode prog_11_method_7_code 1 = .ok (.invokevirtual 38, 3) := by decide +kernel
theorem dUX_wantParty_4 : decode prog_11_method_7_code 4 = .ok (.aload_n 0, 1) := by decide +kernel
theorem dUX_wantParty_5 : decode prog_11_method_7_code 5 = .ok (.ldc 107, 2) := by decide +kernel
theorem dUX_wantParty_7 : decode prog_11_method_7_code 7 = .ok (.invokevirtual 43, 3) := by decide +kernel
theorem dUX_wantParty_10 : decode prog_11_method_7_code 10 = .ok (.ifCond .eq 5, 3) := by decide +kernel
theorem dUX_wantParty_13 : decode prog_11_method_7_code 13 = .ok (.iconst 1, 1) := by decide +kernel
theorem dUX_wantParty_14 : decode prog_11_method_7_code 14 = .ok (.ireturn, 1) := by decide +kernel
theorem dUX_wantParty_15 : decode prog_11_method_7_code 15 = .ok (.aload_n 0, 1) := by decide +kernel
theorem dUX_wantParty_16 : decode prog_11_method_7_code 16 = .ok (.ldc 109, 2) := by decide +kernel
theorem dUX_wantParty_18 : decode prog_11_method_7_code 18 = .ok (.invokevirtual 43, 3) := by decide +kernel
theorem dUX_wantParty_21 : decode prog_11_method_7_code 21 = .ok (.ifCond .eq 5, 3) := by decide +kernel
theorem dUX_wantParty_24 : decode prog_11_method_7_code 24 = .ok (.iconst 2, 1) := by decide +kernel
theorem dUX_wantParty_25 : decode prog_11_method_7_code 25 = .ok (.ireturn, 1) := by decide +kernel
theorem dUX_wantParty_26 : decode prog_11_method_7_code 26 = .ok (.aload_n 0, 1) := by decide +kernel
theorem dUX_wantParty_27 : decode prog_11_method_7_code 27 = .ok (.aload_n 0, 1) := by decide +kernel
theorem dUX_wantParty_28 : decode prog_11_method_7_code 28 = .ok (.ldc 41, 2) := by decide +kernel
theorem dUX_wantParty_30 : decode prog_11_method_7_code 30 = .ok (.invokevirtual 43, 3) := by decide +kernel
theorem dUX_wantParty_33 : decode prog_11_method_7_code 33 = .ok (.invokevirtual 54, 3) := by decide +kernel
theorem dUX_wantParty_36 : decode prog_11_method_7_code 36 = .ok (.iconst 0, 1) := by decide +kernel
theorem dUX_wantParty_37 : decode prog_11_method_7_code 37 = .ok (.ireturn, 1) := by decide +kernel
theorem dUX_wantWord_0 : decode prog_11_method_8_code 0 = .ok (.aload_n 0, 1) := by decide +kernel
theorem dUX_wantWord_1 : decode prog_11_method_8_code 1 = .ok (.invokevirtual 38, 3) := by decide +kernel
theorem dUX_wantWord_4 : decode prog_11_method_8_code 4 = .ok (.aload_n 0, 1) := by decide +kernel
theorem dUX_wantWord_5 : decode prog_11_method_8_code 5 = .ok (.aload_n 0, 1) := by decide +kernel
theorem dUX_wantWord_6 : decode prog_11_method_8_code 6 = .ok (.aload_n 1, 1) := by decide +kernel
theorem dUX_wantWord_7 : decode prog_11_method_8_code 7 = .ok (.invokevirtual 43, 3) := by decide +kernel
theorem dUX_wantWord_10 : decode prog_11_method_8_code 10 = .ok (.invokevirtual 54, 3) := by decide +kernel
theorem dUX_wantWord_13 : decode prog_11_method_8_code 13 = .ok (.return_, 1) := by decide +kernel
theorem dU_alarm_0 : decode prog_1_method_36_code 0 = .ok (.aload_n 0, 1) := by decide +kernel
theorem dU_alarm_1 : decode prog_1_method_36_code 1 = .ok (.getfield 10, 3) := by decide +kernel
theorem dU_alarm_4 : decode prog_1_method_36_code 4 = .ok (.iload_n 1, 1) := by decide +kernel
theorem dU_alarm_5 : decode prog_1_method_36_code 5 = .ok (.invokevirtual 128, 3) := by decide +kernel
theorem dU_alarm_8 : decode prog_1_method_36_code 8 = .ok (.ifCond .eq 14, 3) := by decide +kernel
theorem dU_alarm_11 : decode prog_1_method_36_code 11 = .ok (.iload_n 2, 1) := by decide +kernel
theorem dU_alarm_12 : decode prog_1_method_36_code 12 = .ok (.ifCond .lt 10, 3) := by decide +kernel
theorem dU_alarm_15 : decode prog_1_method_36_code 15 = .ok (.iload_n 2, 1) := by decide +kernel
theorem dU_alarm_16 : decode prog_1_method_36_code 16 = .ok (.sipush 10000, 3) := by decide +kernel
theorem dU_alarm_19 : decode prog_1_method_36_code 19 = .ok (.if_icmp .le 5, 3) := by decide +kernel
theorem dU_alarm_22 : decode prog_1_method_36_code 22 = .ok (.iconst (-1), 1) := by decide +kernel
theorem dU_alarm_23 : decode prog_1_method_36_code 23 = .ok (.ireturn, 1) := by decide +kernel
theorem dU_alarm_24 : decode prog_1_method_36_code 24 = .ok (.iconst (-1), 1) := by decide +kernel
theorem dU_alarm_25 : decode prog_1_method_36_code 25 = .ok (.istore_n 3, 1) := by decide +kernel
theorem dU_alarm_26 : decode prog_1_method_36_code 26 = .ok (.iconst 0, 1) := by decide +kernel
theorem dU_alarm_27 : decode prog_1_method_36_code 27 = .ok (.istore 4, 2) := by decide +kernel
theorem dU_alarm_29 : decode prog_1_method_36_code 29 = .ok (.iload 4, 2) := by decide +kernel
theorem dU_alarm_31 : decode prog_1_method_36_code 31 = .ok (.aload_n 0, 1) := by decide +kernel
theorem dU_alarm_32 : decode prog_1_method_36_code 32 = .ok (.getfield 10, 3) := by decide +kernel
theorem dU_alarm_35 : decode prog_1_method_36_code 35 = .ok (.getfield 51, 3) := by decide +kernel
theorem dU_alarm_38 : decode prog_1_method_36_code 38 = .ok (.if_icmp .ge 80, 3) := by decide +kernel
theorem dU_alarm_41 : decode prog_1_method_36_code 41 = .ok (.iload 4, 2) := by decide +kernel
theorem dU_alarm_43 : decode prog_1_method_36_code 43 = .ok (.sipush 260, 3) := by decide +kernel
theorem dU_alarm_46 : decode prog_1_method_36_code 46 = .ok (.if_icmp .ge 72, 3) := by decide +kernel
theorem dU_alarm_49 : decode prog_1_method_36_code 49 = .ok (.aload_n 0, 1) := by decide +kernel
theorem dU_alarm_50 : decode prog_1_method_36_code 50 = .ok (.getfield 10, 3) := by decide +kernel
theorem dU_alarm_53 : decode prog_1_method_36_code 53 = .ok (.iload 4, 2) := by decide +kernel
theorem dU_alarm_55 : decode prog_1_method_36_code 55 = .ok (.invokevirtual 83, 3) := by decide +kernel
theorem dU_alarm_58 : decode prog_1_method_36_code 58 = .ok (.ifCond .ne 6, 3) := by decide +kernel
theorem dU_alarm_61 : decode prog_1_method_36_code 61 = .ok (.goto 51, 3) := by decide +kernel
theorem dU_alarm_64 : decode prog_1_method_36_code 64 = .ok (.aload_n 0, 1) := by decide +kernel
theorem dU_alarm_65 : decode prog_1_method_36_code 65 = .ok (.getfield 10, 3) := by decide +kernel
theorem dU_alarm_68 : decode prog_1_method_36_code 68 = .ok (.getfield 201, 3) := by decide +kernel
theorem dU_alarm_71 : decode prog_1_method_36_code 71 = .ok (.iload_n 1, 1) := by decide +kernel
theorem dU_alarm_72 : decode prog_1_method_36_code 72 = .ok (.iload 4, 2) := by decide +kernel
theorem dU_alarm_74 : decode prog_1_method_36_code 74 = .ok (.invokestatic 204, 3) := by decide +kernel
theorem dU_alarm_77 : decode prog_1_method_36_code 77 = .ok (.iaload, 1) := by decide +kernel
theorem dU_alarm_78 : decode prog_1_method_36_code 78 = .ok (.istore 5, 2) := by decide +kernel
theorem dU_alarm_80 : decode prog_1_method_36_code 80 = .ok (.iload_n 3, 1) := by decide +kernel
theorem dU_alarm_81 : decode prog_1_method_36_code 81 = .ok (.iconst (-1), 1) := by decide +kernel
theorem dU_alarm_82 : decode prog_1_method_36_code 82 = .ok (.if_icmp .eq 27, 3) := by decide +kernel
theorem dU_alarm_85 : decode prog_1_method_36_code 85 = .ok (.ldc2_w 320, 3) := by decide +kernel
theorem dU_alarm_88 : decode prog_1_method_36_code 88 = .ok (.iload 5, 2) := by decide +kernel
theorem dU_alarm_90 : decode prog_1_method_36_code 90 = .ok (.iload_n 3, 1) := by decide +kernel
theorem dU_alarm_91 : decode prog_1_method_36_code 91 = .ok (.isub, 1) := by decide +kernel
theorem dU_alarm_92 : decode prog_1_method_36_code 92 = .ok (.invokestatic 322, 3) := by decide +kernel
theorem dU_alarm_95 : decode prog_1_method_36_code 95 = .ok (.i2l, 1) := by decide +kernel
theorem dU_alarm_96 : decode prog_1_method_36_code 96 = .ok (.lmul, 1) := by decide +kernel
theorem dU_alarm_97 : decode prog_1_method_36_code 97 = .ok (.iload_n 2, 1) := by decide +kernel
theorem dU_alarm_98 : decode prog_1_method_36_code 98 = .ok (.i2l, 1) := by decide +kernel
theorem dU_alarm_99 : decode prog_1_method_36_code 99 = .ok (.iload_n 3, 1) := by decide +kernel
theorem dU_alarm_100 : decode prog_1_method_36_code 100 = .ok (.i2l, 1) := by decide +kernel
theorem dU_alarm_101 : decode prog_1_method_36_code 101 = .ok (.lmul, 1) := by decide +kernel
theorem dU_alarm_102 : decode prog_1_method_36_code 102 = .ok (.lcmp, 1) := by decide +kernel
theorem dU_alarm_103 : decode prog_1_method_36_code 103 = .ok (.ifCond .le 6, 3) := by decide +kernel
theorem dU_alarm_106 : decode prog_1_method_36_code 106 = .ok (.iload 4, 2) := by decide +kernel
theorem dU_alarm_108 : decode prog_1_method_36_code 108 = .ok (.ireturn, 1) := by decide +kernel
theorem dU_alarm_109 : decode prog_1_method_36_code 109 = .ok (.iload 5, 2) := by decide +kernel
theorem dU_alarm_111 : decode prog_1_method_36_code 111 = .ok (.istore_n 3, 1) := by decide +kernel
theorem dU_alarm_112 : decode prog_1_method_36_code 112 = .ok (.iinc 4 1, 3) := by decide +kernel
theorem dU_alarm_115 : decode prog_1_method_36_code 115 = .ok (.goto (-86), 3) := by decide +kernel
theorem dU_alarm_118 : decode prog_1_method_36_code 118 = .ok (.iconst (-1), 1) := by decide +kernel
theorem dU_alarm_119 : decode prog_1_method_36_code 119 = .ok (.ireturn, 1) := by decide +kernel
theorem dU_audit_0 : decode prog_1_method_31_code 0 = .ok (.aload_n 0, 1) := by decide +kernel
theorem dU_audit_1 : decode prog_1_method_31_code 1 = .ok (.iload_n 1, 1) := by decide +kernel
theorem dU_audit_2 : decode prog_1_method_31_code 2 = .ok (.iload_n 2, 1) := by decide +kernel
theorem dU_audit_3 : decode prog_1_method_31_code 3 = .ok (.invokevirtual 198, 3) := by decide +kernel
theorem dU_audit_6 : decode prog_1_method_31_code 6 = .ok (.ifCond .eq 14, 3) := by decide +kernel
theorem dU_audit_9 : decode prog_1_method_31_code 9 = .ok (.iload_n 3, 1) := by decide +kernel
theorem dU_audit_10 : decode prog_1_method_31_code 10 = .ok (.ifCond .lt 10, 3) := by decide +kernel
theorem dU_audit_13 : decode prog_1_method_31_code 13 = .ok (.iload_n 3, 1) := by decide +kernel
theorem dU_audit_14 : decode prog_1_method_31_code 14 = .ok (.ldc_w 299, 3) := by decide +kernel
theorem dU_audit_17 : decode prog_1_method_31_code 17 = .ok (.if_icmp .le 5, 3) := by decide +kernel
theorem dU_audit_20 : decode prog_1_method_31_code 20 = .ok (.iconst (-1), 1) := by decide +kernel
theorem dU_audit_21 : decode prog_1_method_31_code 21 = .ok (.ireturn, 1) := by decide +kernel
theorem dU_audit_22 : decode prog_1_method_31_code 22 = .ok (.aload_n 0, 1) := by decide +kernel
theorem dU_audit_23 : decode prog_1_method_31_code 23 = .ok (.getfield 47, 3) := by decide +kernel
theorem dU_audit_26 : decode prog_1_method_31_code 26 = .ok (.iload_n 1, 1) := by decide +kernel
theorem dU_audit_27 : decode prog_1_method_31_code 27 = .ok (.iload_n 2, 1) := by decide +kernel
theorem dU_audit_28 : decode prog_1_method_31_code 28 = .ok (.iload_n 3, 1) := by decide +kernel
theorem dU_audit_29 : decode prog_1_method_31_code 29 = .ok (.invokevirtual 300, 3) := by decide +kernel
theorem dU_audit_32 : decode prog_1_method_31_code 32 = .ok (.ireturn, 1) := by decide +kernel
theorem dU_balance_0 : decode prog_1_method_38_code 0 = .ok (.aload_n 0, 1) := by decide +kernel
theorem dU_balance_1 : decode prog_1_method_38_code 1 = .ok (.getfield 10, 3) := by decide +kernel
theorem dU_balance_4 : decode prog_1_method_38_code 4 = .ok (.iload_n 1, 1) := by decide +kernel
theorem dU_balance_5 : decode prog_1_method_38_code 5 = .ok (.invokevirtual 128, 3) := by decide +kernel
theorem dU_balance_8 : decode prog_1_method_38_code 8 = .ok (.ifCond .eq 14, 3) := by decide +kernel
theorem dU_balance_11 : decode prog_1_method_38_code 11 = .ok (.aload_n 0, 1) := by decide +kernel
theorem dU_balance_12 : decode prog_1_method_38_code 12 = .ok (.getfield 10, 3) := by decide +kernel
theorem dU_balance_15 : decode prog_1_method_38_code 15 = .ok (.iload_n 2, 1) := by decide +kernel
theorem dU_balance_16 : decode prog_1_method_38_code 16 = .ok (.invokevirtual 333, 3) := by decide +kernel
theorem dU_balance_19 : decode prog_1_method_38_code 19 = .ok (.ifCond .ne 6, 3) := by decide +kernel
theorem dU_balance_22 : decode prog_1_method_38_code 22 = .ok (.ldc 117, 2) := by decide +kernel
theorem dU_balance_24 : decode prog_1_method_38_code 24 = .ok (.ireturn, 1) := by decide +kernel
theorem dU_balance_25 : decode prog_1_method_38_code 25 = .ok (.aload_n 0, 1) := by decide +kernel
theorem dU_balance_26 : decode prog_1_method_38_code 26 = .ok (.iload_n 1, 1) := by decide +kernel
theorem dU_balance_27 : decode prog_1_method_38_code 27 = .ok (.invokevirtual 336, 3) := by decide +kernel
theorem dU_balance_30 : decode prog_1_method_38_code 30 = .ok (.aload_n 0, 1) := by decide +kernel
theorem dU_balance_31 : decode prog_1_method_38_code 31 = .ok (.getfield 33, 3) := by decide +kernel
theorem dU_balance_34 : decode prog_1_method_38_code 34 = .ok (.getfield 339, 3) := by decide +kernel
theorem dU_balance_37 : decode prog_1_method_38_code 37 = .ok (.iload_n 2, 1) := by decide +kernel
theorem dU_balance_38 : decode prog_1_method_38_code 38 = .ok (.laload, 1) := by decide +kernel
theorem dU_balance_39 : decode prog_1_method_38_code 39 = .ok (.invokestatic 219, 3) := by decide +kernel
theorem dU_balance_42 : decode prog_1_method_38_code 42 = .ok (.ireturn, 1) := by decide +kernel
theorem dU_beside_0 : decode prog_1_method_37_code 0 = .ok (.aload_n 0, 1) := by decide +kernel
theorem dU_beside_1 : decode prog_1_method_37_code 1 = .ok (.getfield 10, 3) := by decide +kernel
theorem dU_beside_4 : decode prog_1_method_37_code 4 = .ok (.iload_n 1, 1) := by decide +kernel
theorem dU_beside_5 : decode prog_1_method_37_code 5 = .ok (.invokevirtual 128, 3) := by decide +kernel
theorem dU_beside_8 : decode prog_1_method_37_code 8 = .ok (.ifCond .eq 14, 3) := by decide +kernel
theorem dU_beside_11 : decode prog_1_method_37_code 11 = .ok (.iload_n 2, 1) := by decide +kernel
theorem dU_beside_12 : decode prog_1_method_37_code 12 = .ok (.ifCond .lt 10, 3) := by decide +kernel
theorem dU_beside_15 : decode prog_1_method_37_code 15 = .ok (.iload_n 2, 1) := by decide +kernel
theorem dU_beside_16 : decode prog_1_method_37_code 16 = .ok (.sipush 5000, 3) := by decide +kernel
theorem dU_beside_19 : decode prog_1_method_37_code 19 = .ok (.if_icmp .le 6, 3) := by decide +kernel
theorem dU_beside_22 : decode prog_1_method_37_code 22 = .ok (.ldc 117, 2) := by decide +kernel
theorem dU_beside_24 : decode prog_1_method_37_code 24 = .ok (.ireturn, 1) := by decide +kernel
theorem dU_beside_25 : decode prog_1_method_37_code 25 = .ok (.aload_n 0, 1) := by decide +kernel
theorem dU_beside_26 : decode prog_1_method_37_code 26 = .ok (.getfield 10, 3) := by decide +kernel
theorem dU_beside_29 : decode prog_1_method_37_code 29 = .ok (.invokevirtual 207, 3) := by decide +kernel
theorem dU_beside_32 : decode prog_1_method_37_code 32 = .ok (.istore_n 3, 1) := by decide +kernel
theorem dU_beside_33 : decode prog_1_method_37_code 33 = .ok (.aload_n 0, 1) := by decide +kernel
theorem dU_beside_34 : decode prog_1_method_37_code 34 = .ok (.getfield 26, 3) := by decide +kernel
theorem dU_beside_37 : decode prog_1_method_37_code 37 = .ok (.aload_n 0, 1) := by decide +kernel
theorem dU_beside_38 : decode prog_1_method_37_code 38 = .ok (.getfield 10, 3) := by decide +kernel
theorem dU_beside_41 : decode prog_1_method_37_code 41 = .ok (.iload_n 3, 1) := by decide +kernel
theorem dU_beside_42 : decode prog_1_method_37_code 42 = .ok (.invokevirtual 210, 3) := by decide +kernel
theorem dU_beside_45 : decode prog_1_method_37_code 45 = .ok (.aload_n 0, 1) := by decide +kernel
theorem dU_beside_46 : decode prog_1_method_37_code 46 = .ok (.getfield 33, 3) := by decide +kernel
theorem dU_beside_49 : decode prog_1_method_37_code 49 = .ok (.aload_n 0, 1) := by decide +kernel
theorem dU_beside_50 : decode prog_1_method_37_code 50 = .ok (.getfield 10, 3) := by decide +kernel
theorem dU_beside_53 : decode prog_1_method_37_code 53 = .ok (.aload_n 0, 1) := by decide +kernel
theorem dU_beside_54 : decode prog_1_method_37_code 54 = .ok (.getfield 26, 3) := by decide +kernel
theorem dU_beside_57 : decode prog_1_method_37_code 57 = .ok (.iload_n 1, 1) := by decide +kernel
theorem dU_beside_58 : decode prog_1_method_37_code 58 = .ok (.iload_n 3, 1) := by decide +kernel
theorem dU_beside_59 : decode prog_1_method_37_code 59 = .ok (.iload_n 2, 1) := by decide +kernel
theorem dU_beside_60 : decode prog_1_method_37_code 60 = .ok (.invokevirtual 325, 3) := by decide +kernel
theorem dU_beside_63 : decode prog_1_method_37_code 63 = .ok (.aload_n 0, 1) := by decide +kernel
theorem dU_beside_64 : decode prog_1_method_37_code 64 = .ok (.getfield 33, 3) := by decide +kernel
theorem dU_beside_67 : decode prog_1_method_37_code 67 = .ok (.aload_n 0, 1) := by decide +kernel
theorem dU_beside_68 : decode prog_1_method_37_code 68 = .ok (.getfield 10, 3) := by decide +kernel
theorem dU_beside_71 : decode prog_1_method_37_code 71 = .ok (.invokevirtual 329, 3) := by decide +kernel
theorem dU_beside_74 : decode prog_1_method_37_code 74 = .ok (.invokestatic 219, 3) := by decide +kernel
theorem dU_beside_77 : decode prog_1_method_37_code 77 = .ok (.ireturn, 1) := by decide +kernel
theorem dU_booked_0 : decode prog_1_method_18_code 0 = .ok (.aload_n 0, 1) := by decide +kernel
theorem dU_booked_1 : decode prog_1_method_18_code 1 = .ok (.iload_n 1, 1) := by decide +kernel
theorem dU_booked_2 : decode prog_1_method_18_code 2 = .ok (.iload_n 2, 1) := by decide +kernel
theorem dU_booked_3 : decode prog_1_method_18_code 3 = .ok (.invokevirtual 198, 3) := by decide +kernel
theorem dU_booked_6 : decode prog_1_method_18_code 6 = .ok (.ifCond .eq 19, 3) := by decide +kernel
theorem dU_booked_9 : decode prog_1_method_18_code 9 = .ok (.aload_n 0, 1) := by decide +kernel
theorem dU_booked_10 : decode prog_1_method_18_code 10 = .ok (.getfield 10, 3) := by decide +kernel
theorem dU_booked_13 : decode prog_1_method_18_code 13 = .ok (.getfield 201, 3) := by decide +kernel
theorem dU_booked_16 : decode prog_1_method_18_code 16 = .ok (.iload_n 1, 1) := by decide +kernel
theorem dU_booked_17 : decode prog_1_method_18_code 17 = .ok (.iload_n 2, 1) := by decide +kernel
theorem dU_booked_18 : decode prog_1_method_18_code 18 = .ok (.invokestatic 204, 3) := by decide +kernel
theorem dU_booked_21 : decode prog_1_method_18_code 21 = .ok (.iaload, 1) := by decide +kernel
theorem dU_booked_22 : decode prog_1_method_18_code 22 = .ok (.goto 4, 3) := by decide +kernel
theorem dU_booked_25 : decode prog_1_method_18_code 25 = .ok (.iconst (-1), 1) := by decide +kernel
theorem dU_booked_26 : decode prog_1_method_18_code 26 = .ok (.ireturn, 1) := by decide +kernel
theorem dU_canBeTold_0 : decode prog_1_method_49_code 0 = .ok (.iload_n 0, 1) := by decide +kernel
theorem dU_canBeTold_1 : decode prog_1_method_49_code 1 = .ok (.iload_n 1, 1) := by decide +kernel
theorem dU_canBeTold_2 : decode prog_1_method_49_code 2 = .ok (.invokestatic 110, 3) := by decide +kernel
theorem dU_canBeTold_5 : decode prog_1_method_49_code 5 = .ok (.ifCond .eq 10, 3) := by decide +kernel
theorem dU_canBeTold_8 : decode prog_1_method_49_code 8 = .ok (.iload_n 2, 1) := by decide +kernel
theorem dU_canBeTold_9 : decode prog_1_method_49_code 9 = .ok (.invokestatic 114, 3) := by decide +kernel
theorem dU_canBeTold_12 : decode prog_1_method_49_code 12 = .ok (.ifCond .ne 5, 3) := by decide +kernel
theorem dU_canBeTold_15 : decode prog_1_method_49_code 15 = .ok (.iconst 0, 1) := by decide +kernel
theorem dU_canBeTold_16 : decode prog_1_method_49_code 16 = .ok (.ireturn, 1) := by decide +kernel
theorem dU_canBeTold_17 : decode prog_1_method_49_code 17 = .ok (.iload_n 0, 1) := by decide +kernel
theorem dU_canBeTold_18 : decode prog_1_method_49_code 18 = .ok (.tableswitch 79 0 2 #[26, 44, 62], 26) := by decide +kernel
theorem dU_canBeTold_44 : decode prog_1_method_49_code 44 = .ok (.iload_n 3, 1) := by decide +kernel
theorem dU_canBeTold_45 : decode prog_1_method_49_code 45 = .ok (.iconst 1, 1) := by decide +kernel
theorem dU_canBeTold_46 : decode prog_1_method_49_code 46 = .ok (.if_icmp .lt 14, 3) := by decide +kernel
theorem dU_canBeTold_49 : decode prog_1_method_49_code 49 = .ok (.iload_n 3, 1) := by decide +kernel
theorem dU_canBeTold_50 : decode prog_1_method_49_code 50 = .ok (.sipush 10000, 3) := by decide +kernel
theorem dU_canBeTold_53 : decode prog_1_method_49_code 53 = .ok (.if_icmp .gt 7, 3) := by decide +kernel
theorem dU_canBeTold_56 : decode prog_1_method_49_code 56 = .ok (.iconst 1, 1) := by decide +kernel
theorem dU_canBeTold_57 : decode prog_1_method_49_code 57 = .ok (.goto 4, 3) := by decide +kernel
theorem dU_canBeTold_60 : decode prog_1_method_49_code 60 = .ok (.iconst 0, 1) := by decide +kernel
theorem dU_canBeTold_61 : decode prog_1_method_49_code 61 = .ok (.ireturn, 1) := by decide +kernel
theorem dU_canBeTold_62 : decode prog_1_method_49_code 62 = .ok (.iload_n 3, 1) := by decide +kernel
theorem dU_canBeTold_63 : decode prog_1_method_49_code 63 = .ok (.iconst 1, 1) := by decide +kernel
theorem dU_canBeTold_64 : decode prog_1_method_49_code 64 = .ok (.if_icmp .lt 14, 3) := by decide +kernel
theorem dU_canBeTold_67 : decode prog_1_method_49_code 67 = .ok (.iload_n 3, 1) := by decide +kernel
theorem dU_canBeTold_68 : decode prog_1_method_49_code 68 = .ok (.sipush 9999, 3) := by decide +kernel
theorem dU_canBeTold_71 : decode prog_1_method_49_code 71 = .ok (.if_icmp .gt 7, 3) := by decide +kernel
theorem dU_canBeTold_74 : decode prog_1_method_49_code 74 = .ok (.iconst 1, 1) := by decide +kernel
theorem dU_canBeTold_75 : decode prog_1_method_49_code 75 = .ok (.goto 4, 3) := by decide +kernel
theorem dU_canBeTold_78 : decode prog_1_method_49_code 78 = .ok (.iconst 0, 1) := by decide +kernel
theorem dU_canBeTold_79 : decode prog_1_method_49_code 79 = .ok (.ireturn, 1) := by decide +kernel
theorem dU_canBeTold_80 : decode prog_1_method_49_code 80 = .ok (.iload_n 3, 1) := by decide +kernel
theorem dU_canBeTold_81 : decode prog_1_method_49_code 81 = .ok (.ifCond .lt 14, 3) := by decide +kernel
theorem dU_canBeTold_84 : decode prog_1_method_49_code 84 = .ok (.iload_n 3, 1) := by decide +kernel
theorem dU_canBeTold_85 : decode prog_1_method_49_code 85 = .ok (.sipush 1000, 3) := by decide +kernel
theorem dU_canBeTold_88 : decode prog_1_method_49_code 88 = .ok (.if_icmp .gt 7, 3) := by decide +kernel
theorem dU_canBeTold_91 : decode prog_1_method_49_code 91 = .ok (.iconst 1, 1) := by decide +kernel
theorem dU_canBeTold_92 : decode prog_1_method_49_code 92 = .ok (.goto 4, 3) := by decide +kernel
theorem dU_canBeTold_95 : decode prog_1_method_49_code 95 = .ok (.iconst 0, 1) := by decide +kernel
theorem dU_canBeTold_96 : decode prog_1_method_49_code 96 = .ok (.ireturn, 1) := by decide +kernel
theorem dU_canBeTold_97 : decode prog_1_method_49_code 97 = .ok (.iload_n 3, 1) := by decide +kernel
theorem dU_canBeTold_98 : decode prog_1_method_49_code 98 = .ok (.bipush 100, 2) := by decide +kernel
theorem dU_canBeTold_100 : decode prog_1_method_49_code 100 = .ok (.if_icmp .lt 14, 3) := by decide +kernel
theorem dU_canBeTold_103 : decode prog_1_method_49_code 103 = .ok (.iload_n 3, 1) := by decide +kernel
theorem dU_canBeTold_104 : decode prog_1_method_49_code 104 = .ok (.sipush 10000, 3) := by decide +kernel
theorem dU_canBeTold_107 : decode prog_1_method_49_code 107 = .ok (.if_icmp .gt 7, 3) := by decide +kernel
theorem dU_canBeTold_110 : decode prog_1_method_49_code 110 = .ok (.iconst 1, 1) := by decide +kernel
theorem dU_canBeTold_111 : decode prog_1_method_49_code 111 = .ok (.goto 4, 3) := by decide +kernel
theorem dU_canBeTold_114 : decode prog_1_method_49_code 114 = .ok (.iconst 0, 1) := by decide +kernel
theorem dU_canBeTold_115 : decode prog_1_method_49_code 115 = .ok (.ireturn, 1) := by decide +kernel
theorem dU_cash_0 : decode prog_1_method_26_code 0 = .ok (.aload_n 0, 1) := by decide +kernel
theorem dU_cash_1 : decode prog_1_method_26_code 1 = .ok (.getfield 10, 3) := by decide +kernel
theorem dU_cash_4 : decode prog_1_method_26_code 4 = .ok (.iload_n 1, 1) := by decide +kernel
theorem dU_cash_5 : decode prog_1_method_26_code 5 = .ok (.invokevirtual 128, 3) := by decide +kernel
theorem dU_cash_8 : decode prog_1_method_26_code 8 = .ok (.ifCond .eq 12, 3) := by decide +kernel
theorem dU_cash_11 : decode prog_1_method_26_code 11 = .ok (.iload_n 2, 1) := by decide +kernel
theorem dU_cash_12 : decode prog_1_method_26_code 12 = .ok (.ifCond .lt 8, 3) := by decide +kernel
theorem dU_cash_15 : decode prog_1_method_26_code 15 = .ok (.iload_n 2, 1) := by decide +kernel
theorem dU_cash_16 : decode prog_1_method_26_code 16 = .ok (.iconst 1, 1) := by decide +kernel
theorem dU_cash_17 : decode prog_1_method_26_code 17 = .ok (.if_icmp .le 6, 3) := by decide +kernel
theorem dU_cash_20 : decode prog_1_method_26_code 20 = .ok (.ldc 117, 2) := by decide +kernel
theorem dU_cash_22 : decode prog_1_method_26_code 22 = .ok (.ireturn, 1) := by decide +kernel
theorem dU_cash_23 : decode prog_1_method_26_code 23 = .ok (.aload_n 0, 1) := by decide +kernel
theorem dU_cash_24 : decode prog_1_method_26_code 24 = .ok (.getfield 26, 3) := by decide +kernel
theorem dU_cash_27 : decode prog_1_method_26_code 27 = .ok (.aload_n 0, 1) := by decide +kernel
theorem dU_cash_28 : decode prog_1_method_26_code 28 = .ok (.getfield 10, 3) := by decide +kernel
theorem dU_cash_31 : decode prog_1_method_26_code 31 = .ok (.aload_n 0, 1) := by decide +kernel
theorem dU_cash_32 : decode prog_1_method_26_code 32 = .ok (.getfield 10, 3) := by decide +kernel
theorem dU_cash_35 : decode prog_1_method_26_code 35 = .ok (.invokevirtual 207, 3) := by decide +kernel
theorem dU_cash_38 : decode prog_1_method_26_code 38 = .ok (.invokevirtual 210, 3) := by decide +kernel
theorem dU_cash_41 : decode prog_1_method_26_code 41 = .ok (.iload_n 2, 1) := by decide +kernel
theorem dU_cash_42 : decode prog_1_method_26_code 42 = .ok (.ifCond .ne 15, 3) := by decide +kernel
theorem dU_cash_45 : decode prog_1_method_26_code 45 = .ok (.aload_n 0, 1) := by decide +kernel
theorem dU_cash_46 : decode prog_1_method_26_code 46 = .ok (.getfield 26, 3) := by decide +kernel
theorem dU_cash_49 : decode prog_1_method_26_code 49 = .ok (.getfield 261, 3) := by decide +kernel
theorem dU_cash_52 : decode prog_1_method_26_code 52 = .ok (.iload_n 1, 1) := by decide +kernel
theorem dU_cash_53 : decode prog_1_method_26_code 53 = .ok (.laload, 1) := by decide +kernel
theorem dU_cash_54 : decode prog_1_method_26_code 54 = .ok (.goto 12, 3) := by decide +kernel
theorem dU_cash_57 : decode prog_1_method_26_code 57 = .ok (.aload_n 0, 1) := by decide +kernel
theorem dU_cash_58 : decode prog_1_method_26_code 58 = .ok (.getfield 26, 3) := by decide +kernel
theorem dU_cash_61 : decode prog_1_method_26_code 61 = .ok (.getfield 264, 3) := by decide +kernel
theorem dU_cash_64 : decode prog_1_method_26_code 64 = .ok (.iload_n 1, 1) := by decide +kernel
theorem dU_cash_65 : decode prog_1_method_26_code 65 = .ok (.laload, 1) := by decide +kernel
theorem dU_cash_66 : decode prog_1_method_26_code 66 = .ok (.invokestatic 219, 3) := by decide +kernel
theorem dU_cash_69 : decode prog_1_method_26_code 69 = .ok (.ireturn, 1) := by decide +kernel
theorem dU_claim_0 : decode prog_1_method_24_code 0 = .ok (.aload_n 0, 1) := by decide +kernel
theorem dU_claim_1 : decode prog_1_method_24_code 1 = .ok (.getfield 10, 3) := by decide +kernel
theorem dU_claim_4 : decode prog_1_method_24_code 4 = .ok (.iload_n 1, 1) := by decide +kernel
theorem dU_claim_5 : decode prog_1_method_24_code 5 = .ok (.iload_n 2, 1) := by decide +kernel
theorem dU_claim_6 : decode prog_1_method_24_code 6 = .ok (.invokevirtual 148, 3) := by decide +kernel
theorem dU_claim_9 : decode prog_1_method_24_code 9 = .ok (.ifCond .eq 29, 3) := by decide +kernel
theorem dU_claim_12 : decode prog_1_method_24_code 12 = .ok (.iload_n 3, 1) := by decide +kernel
theorem dU_claim_13 : decode prog_1_method_24_code 13 = .ok (.ifCond .lt 25, 3) := by decide +kernel
theorem dU_claim_16 : decode prog_1_method_24_code 16 = .ok (.iload_n 3, 1) := by decide +kernel
theorem dU_claim_17 : decode prog_1_method_24_code 17 = .ok (.aload_n 0, 1) := by decide +kernel
theorem dU_claim_18 : decode prog_1_method_24_code 18 = .ok (.getfield 10, 3) := by decide +kernel
theorem dU_claim_21 : decode prog_1_method_24_code 21 = .ok (.invokevirtual 207, 3) := by decide +kernel
theorem dU_claim_24 : decode prog_1_method_24_code 24 = .ok (.if_icmp .gt 14, 3) := by decide +kernel
theorem dU_claim_27 : decode prog_1_method_24_code 27 = .ok (.iload 4, 2) := by decide +kernel
theorem dU_claim_29 : decode prog_1_method_24_code 29 = .ok (.ifCond .lt 9, 3) := by decide +kernel
theorem dU_claim_32 : decode prog_1_method_24_code 32 = .ok (.iload 4, 2) := by decide +kernel
theorem dU_claim_34 : decode prog_1_method_24_code 34 = .ok (.iconst 3, 1) := by decide +kernel
theorem dU_claim_35 : decode prog_1_method_24_code 35 = .ok (.if_icmp .le 6, 3) := by decide +kernel
theorem dU_claim_38 : decode prog_1_method_24_code 38 = .ok (.ldc 117, 2) := by decide +kernel
theorem dU_claim_40 : decode prog_1_method_24_code 40 = .ok (.ireturn, 1) := by decide +kernel
theorem dU_claim_41 : decode prog_1_method_24_code 41 = .ok (.aload_n 0, 1) := by decide +kernel
theorem dU_claim_42 : decode prog_1_method_24_code 42 = .ok (.getfield 26, 3) := by decide +kernel
theorem dU_claim_45 : decode prog_1_method_24_code 45 = .ok (.aload_n 0, 1) := by decide +kernel
theorem dU_claim_46 : decode prog_1_method_24_code 46 = .ok (.getfield 10, 3) := by decide +kernel
theorem dU_claim_49 : decode prog_1_method_24_code 49 = .ok (.iload_n 3, 1) := by decide +kernel
theorem dU_claim_50 : decode prog_1_method_24_code 50 = .ok (.invokevirtual 210, 3) := by decide +kernel
theorem dU_claim_53 : decode prog_1_method_24_code 53 = .ok (.aload_n 0, 1) := by decide +kernel
theorem dU_claim_54 : decode prog_1_method_24_code 54 = .ok (.getfield 33, 3) := by decide +kernel
theorem dU_claim_57 : decode prog_1_method_24_code 57 = .ok (.aload_n 0, 1) := by decide +kernel
theorem dU_claim_58 : decode prog_1_method_24_code 58 = .ok (.getfield 10, 3) := by decide +kernel
theorem dU_claim_61 : decode prog_1_method_24_code 61 = .ok (.aload_n 0, 1) := by decide +kernel
theorem dU_claim_62 : decode prog_1_method_24_code 62 = .ok (.getfield 26, 3) := by decide +kernel
theorem dU_claim_65 : decode prog_1_method_24_code 65 = .ok (.iload_n 2, 1) := by decide +kernel
theorem dU_claim_66 : decode prog_1_method_24_code 66 = .ok (.iload_n 3, 1) := by decide +kernel
theorem dU_claim_67 : decode prog_1_method_24_code 67 = .ok (.invokevirtual 240, 3) := by decide +kernel
theorem dU_claim_70 : decode prog_1_method_24_code 70 = .ok (.iload 4, 2) := by decide +kernel
theorem dU_claim_72 : decode prog_1_method_24_code 72 = .ok (.tableswitch 70 0 2 #[28, 41, 54], 28) := by decide +kernel
theorem dU_claim_100 : decode prog_1_method_24_code 100 = .ok (.aload_n 0, 1) := by decide +kernel
theorem dU_claim_101 : decode prog_1_method_24_code 101 = .ok (.getfield 33, 3) := by decide +kernel
theorem dU_claim_104 : decode prog_1_method_24_code 104 = .ok (.getfield 244, 3) := by decide +kernel
theorem dU_claim_107 : decode prog_1_method_24_code 107 = .ok (.iload_n 1, 1) := by decide +kernel
theorem dU_claim_108 : decode prog_1_method_24_code 108 = .ok (.laload, 1) := by decide +kernel
theorem dU_claim_109 : decode prog_1_method_24_code 109 = .ok (.invokestatic 219, 3) := by decide +kernel
theorem dU_claim_112 : decode prog_1_method_24_code 112 = .ok (.ireturn, 1) := by decide +kernel
theorem dU_claim_113 : decode prog_1_method_24_code 113 = .ok (.aload_n 0, 1) := by decide +kernel
theorem dU_claim_114 : decode prog_1_method_24_code 114 = .ok (.getfield 33, 3) := by decide +kernel
theorem dU_claim_117 : decode prog_1_method_24_code 117 = .ok (.getfield 247, 3) := by decide +kernel
theorem dU_claim_120 : decode prog_1_method_24_code 120 = .ok (.iload_n 1, 1) := by decide +kernel
theorem dU_claim_121 : decode prog_1_method_24_code 121 = .ok (.laload, 1) := by decide +kernel
theorem dU_claim_122 : decode prog_1_method_24_code 122 = .ok (.invokestatic 219, 3) := by decide +kernel
theorem dU_claim_125 : decode prog_1_method_24_code 125 = .ok (.ireturn, 1) := by decide +kernel
theorem dU_claim_126 : decode prog_1_method_24_code 126 = .ok (.aload_n 0, 1) := by decide +kernel
theorem dU_claim_127 : decode prog_1_method_24_code 127 = .ok (.getfield 33, 3) := by decide +kernel
theorem dU_claim_130 : decode prog_1_method_24_code 130 = .ok (.aload_n 0, 1) := by decide +kernel
theorem dU_claim_131 : decode prog_1_method_24_code 131 = .ok (.getfield 10, 3) := by decide +kernel
theorem dU_claim_134 : decode prog_1_method_24_code 134 = .ok (.iload_n 1, 1) := by decide +kernel
theorem dU_claim_135 : decode prog_1_method_24_code 135 = .ok (.invokevirtual 250, 3) := by decide +kernel
theorem dU_claim_138 : decode prog_1_method_24_code 138 = .ok (.invokestatic 219, 3) := by decide +kernel
theorem dU_claim_141 : decode prog_1_method_24_code 141 = .ok (.ireturn, 1) := by decide +kernel
theorem dU_claim_142 : decode prog_1_method_24_code 142 = .ok (.aload_n 0, 1) := by decide +kernel
theorem dU_claim_143 : decode prog_1_method_24_code 143 = .ok (.getfield 33, 3) := by decide +kernel
theorem dU_claim_146 : decode prog_1_method_24_code 146 = .ok (.aload_n 0, 1) := by decide +kernel
theorem dU_claim_147 : decode prog_1_method_24_code 147 = .ok (.getfield 10, 3) := by decide +kernel
theorem dU_claim_150 : decode prog_1_method_24_code 150 = .ok (.iload_n 1, 1) := by decide +kernel
theorem dU_claim_151 : decode prog_1_method_24_code 151 = .ok (.invokevirtual 254, 3) := by decide +kernel
theorem dU_claim_154 : decode prog_1_method_24_code 154 = .ok (.ireturn, 1) := by decide +kernel
theorem dU_count_0 : decode prog_1_method_41_code 0 = .ok (.iload_n 1, 1) := by decide +kernel
theorem dU_count_1 : decode prog_1_method_41_code 1 = .ok (.bipush 20, 2) := by decide +kernel
theorem dU_count_3 : decode prog_1_method_41_code 3 = .ok (.if_icmp .lt 33, 3) := by decide +kernel
theorem dU_count_6 : decode prog_1_method_41_code 6 = .ok (.aload_n 0, 1) := by decide +kernel
theorem dU_count_7 : decode prog_1_method_41_code 7 = .ok (.getfield 10, 3) := by decide +kernel
theorem dU_count_10 : decode prog_1_method_41_code 10 = .ok (.iload_n 1, 1) := by decide +kernel
theorem dU_count_11 : decode prog_1_method_41_code 11 = .ok (.bipush 20, 2) := by decide +kernel
theorem dU_count_13 : decode prog_1_method_41_code 13 = .ok (.isub, 1) := by decide +kernel
theorem dU_count_14 : decode prog_1_method_41_code 14 = .ok (.invokevirtual 128, 3) := by decide +kernel
theorem dU_count_17 : decode prog_1_method_41_code 17 = .ok (.ifCond .eq 19, 3) := by decide +kernel
theorem dU_count_20 : decode prog_1_method_41_code 20 = .ok (.aload_n 0, 1) := by decide +kernel
theorem dU_count_21 : decode prog_1_method_41_code 21 = .ok (.getfield 10, 3) := by decide +kernel
theorem dU_count_24 : decode prog_1_method_41_code 24 = .ok (.getfield 155, 3) := by decide +kernel
theorem dU_count_27 : decode prog_1_method_41_code 27 = .ok (.getfield 356, 3) := by decide +kernel
theorem dU_count_30 : decode prog_1_method_41_code 30 = .ok (.iload_n 1, 1) := by decide +kernel
theorem dU_count_31 : decode prog_1_method_41_code 31 = .ok (.bipush 20, 2) := by decide +kernel
theorem dU_count_33 : decode prog_1_method_41_code 33 = .ok (.isub, 1) := by decide +kernel
theorem dU_count_34 : decode prog_1_method_41_code 34 = .ok (.iaload, 1) := by decide +kernel
theorem dU_count_35 : decode prog_1_method_41_code 35 = .ok (.ireturn, 1) := by decide +kernel
theorem dU_count_36 : decode prog_1_method_41_code 36 = .ok (.iload_n 1, 1) := by decide +kernel
theorem dU_count_37 : decode prog_1_method_41_code 37 = .ok (.tableswitch 174 0 10 #[59, 67, 75, 83, 97, 111, 125, 136, 144, 152, 166], 59) := by decide +kernel
theorem dU_count_96 : decode prog_1_method_41_code 96 = .ok (.aload_n 0, 1) := by decide +kernel
theorem dU_count_97 : decode prog_1_method_41_code 97 = .ok (.getfield 10, 3) := by decide +kernel
theorem dU_count_100 : decode prog_1_method_41_code 100 = .ok (.getfield 51, 3) := by decide +kernel
theorem dU_count_103 : decode prog_1_method_41_code 103 = .ok (.ireturn, 1) := by decide +kernel
theorem dU_count_104 : decode prog_1_method_41_code 104 = .ok (.aload_n 0, 1) := by decide +kernel
theorem dU_count_105 : decode prog_1_method_41_code 105 = .ok (.getfield 10, 3) := by decide +kernel
theorem dU_count_108 : decode prog_1_method_41_code 108 = .ok (.getfield 60, 3) := by decide +kernel
theorem dU_count_111 : decode prog_1_method_41_code 111 = .ok (.ireturn, 1) := by decide +kernel
theorem dU_count_112 : decode prog_1_method_41_code 112 = .ok (.aload_n 0, 1) := by decide +kernel
theorem dU_count_113 : decode prog_1_method_41_code 113 = .ok (.getfield 10, 3) := by decide +kernel
theorem dU_count_116 : decode prog_1_method_41_code 116 = .ok (.getfield 70, 3) := by decide +kernel
theorem dU_count_119 : decode prog_1_method_41_code 119 = .ok (.ireturn, 1) := by decide +kernel
theorem dU_count_120 : decode prog_1_method_41_code 120 = .ok (.aload_n 0, 1) := by decide +kernel
theorem dU_count_121 : decode prog_1_method_41_code 121 = .ok (.getfield 10, 3) := by decide +kernel
theorem dU_count_124 : decode prog_1_method_41_code 124 = .ok (.getfield 91, 3) := by decide +kernel
theorem dU_count_127 : decode prog_1_method_41_code 127 = .ok (.getfield 101, 3) := by decide +kernel
theorem dU_count_130 : decode prog_1_method_41_code 130 = .ok (.getfield 105, 3) := by decide +kernel
theorem dU_count_133 : decode prog_1_method_41_code 133 = .ok (.ireturn, 1) := by decide +kernel
theorem dU_count_134 : decode prog_1_method_41_code 134 = .ok (.aload_n 0, 1) := by decide +kernel
theorem dU_count_135 : decode prog_1_method_41_code 135 = .ok (.getfield 10, 3) := by decide +kernel
theorem dU_count_138 : decode prog_1_method_41_code 138 = .ok (.getfield 134, 3) := by decide +kernel
theorem dU_count_141 : decode prog_1_method_41_code 141 = .ok (.getfield 359, 3) := by decide +kernel
theorem dU_count_144 : decode prog_1_method_41_code 144 = .ok (.getfield 105, 3) := by decide +kernel
theorem dU_count_147 : decode prog_1_method_41_code 147 = .ok (.ireturn, 1) := by decide +kernel
theorem dU_count_148 : decode prog_1_method_41_code 148 = .ok (.aload_n 0, 1) := by decide +kernel
theorem dU_count_149 : decode prog_1_method_41_code 149 = .ok (.getfield 10, 3) := by decide +kernel
theorem dU_count_152 : decode prog_1_method_41_code 152 = .ok (.getfield 155, 3) := by decide +kernel
theorem dU_count_155 : decode prog_1_method_41_code 155 = .ok (.getfield 267, 3) := by decide +kernel
theorem dU_count_158 : decode prog_1_method_41_code 158 = .ok (.getfield 105, 3) := by decide +kernel
theorem dU_count_161 : decode prog_1_method_41_code 161 = .ok (.ireturn, 1) := by decide +kernel
theorem dU_count_162 : decode prog_1_method_41_code 162 = .ok (.aload_n 0, 1) := by decide +kernel
theorem dU_count_163 : decode prog_1_method_41_code 163 = .ok (.getfield 10, 3) := by decide +kernel
theorem dU_count_166 : decode prog_1_method_41_code 166 = .ok (.getfield 173, 3) := by decide +kernel
theorem dU_count_169 : decode prog_1_method_41_code 169 = .ok (.getfield 177, 3) := by decide +kernel
theorem dU_count_172 : decode prog_1_method_41_code 172 = .ok (.ireturn, 1) := by decide +kernel
theorem dU_count_173 : decode prog_1_method_41_code 173 = .ok (.aload_n 0, 1) := by decide +kernel
theorem dU_count_174 : decode prog_1_method_41_code 174 = .ok (.getfield 19, 3) := by decide +kernel
theorem dU_count_177 : decode prog_1_method_41_code 177 = .ok (.getfield 162, 3) := by decide +kernel
theorem dU_count_180 : decode prog_1_method_41_code 180 = .ok (.ireturn, 1) := by decide +kernel
theorem dU_count_181 : decode prog_1_method_41_code 181 = .ok (.aload_n 0, 1) := by decide +kernel
theorem dU_count_182 : decode prog_1_method_41_code 182 = .ok (.getfield 47, 3) := by decide +kernel
theorem dU_count_185 : decode prog_1_method_41_code 185 = .ok (.getfield 309, 3) := by decide +kernel
theorem dU_count_188 : decode prog_1_method_41_code 188 = .ok (.ireturn, 1) := by decide +kernel
theorem dU_count_189 : decode prog_1_method_41_code 189 = .ok (.aload_n 0, 1) := by decide +kernel
theorem dU_count_190 : decode prog_1_method_41_code 190 = .ok (.getfield 10, 3) := by decide +kernel
theorem dU_count_193 : decode prog_1_method_41_code 193 = .ok (.getfield 306, 3) := by decide +kernel
theorem dU_count_196 : decode prog_1_method_41_code 196 = .ok (.getfield 101, 3) := by decide +kernel
theorem dU_count_199 : decode prog_1_method_41_code 199 = .ok (.getfield 105, 3) := by decide +kernel
theorem dU_count_202 : decode prog_1_method_41_code 202 = .ok (.ireturn, 1) := by decide +kernel
theorem dU_count_203 : decode prog_1_method_41_code 203 = .ok (.aload_n 0, 1) := by decide +kernel
theorem dU_count_204 : decode prog_1_method_41_code 204 = .ok (.getfield 10, 3) := by decide +kernel
theorem dU_count_207 : decode prog_1_method_41_code 207 = .ok (.getfield 80, 3) := by decide +kernel
theorem dU_count_210 : decode prog_1_method_41_code 210 = .ok (.ireturn, 1) := by decide +kernel
theorem dU_count_211 : decode prog_1_method_41_code 211 = .ok (.iconst (-1), 1) := by decide +kernel
theorem dU_count_212 : decode prog_1_method_41_code 212 = .ok (.ireturn, 1) := by decide +kernel
theorem dU_deal_0 : decode prog_1_method_11_code 0 = .ok (.aload_n 0, 1) := by decide +kernel
theorem dU_deal_1 : decode prog_1_method_11_code 1 = .ok (.getfield 10, 3) := by decide +kernel
theorem dU_deal_4 : decode prog_1_method_11_code 4 = .ok (.iload_n 1, 1) := by decide +kernel
theorem dU_deal_5 : decode prog_1_method_11_code 5 = .ok (.iload_n 2, 1) := by decide +kernel
theorem dU_deal_6 : decode prog_1_method_11_code 6 = .ok (.invokevirtual 148, 3) := by decide +kernel
theorem dU_deal_9 : decode prog_1_method_11_code 9 = .ok (.ifCond .eq 29, 3) := by decide +kernel
theorem dU_deal_12 : decode prog_1_method_11_code 12 = .ok (.iload 4, 2) := by decide +kernel
theorem dU_deal_14 : decode prog_1_method_11_code 14 = .ok (.ifCond .lt 24, 3) := by decide +kernel
theorem dU_deal_17 : decode prog_1_method_11_code 17 = .ok (.iload 4, 2) := by decide +kernel
theorem dU_deal_19 : decode prog_1_method_11_code 19 = .ok (.bipush 23, 2) := by decide +kernel
theorem dU_deal_21 : decode prog_1_method_11_code 21 = .ok (.if_icmp .gt 17, 3) := by decide +kernel
theorem dU_deal_24 : decode prog_1_method_11_code 24 = .ok (.iload_n 3, 1) := by decide +kernel
theorem dU_deal_25 : decode prog_1_method_11_code 25 = .ok (.ifCond .eq 13, 3) := by decide +kernel
theorem dU_deal_28 : decode prog_1_method_11_code 28 = .ok (.iload_n 3, 1) := by decide +kernel
theorem dU_deal_29 : decode prog_1_method_11_code 29 = .ok (.sipush 10000, 3) := by decide +kernel
theorem dU_deal_32 : decode prog_1_method_11_code 32 = .ok (.invokestatic 131, 3) := by decide +kernel
theorem dU_deal_35 : decode prog_1_method_11_code 35 = .ok (.ifCond .ne 5, 3) := by decide +kernel
theorem dU_deal_38 : decode prog_1_method_11_code 38 = .ok (.iconst (-1), 1) := by decide +kernel
theorem dU_deal_39 : decode prog_1_method_11_code 39 = .ok (.ireturn, 1) := by decide +kernel
theorem dU_deal_40 : decode prog_1_method_11_code 40 = .ok (.aload_n 0, 1) := by decide +kernel
theorem dU_deal_41 : decode prog_1_method_11_code 41 = .ok (.getfield 10, 3) := by decide +kernel
theorem dU_deal_44 : decode prog_1_method_11_code 44 = .ok (.iload_n 1, 1) := by decide +kernel
theorem dU_deal_45 : decode prog_1_method_11_code 45 = .ok (.iload_n 2, 1) := by decide +kernel
theorem dU_deal_46 : decode prog_1_method_11_code 46 = .ok (.iload 4, 2) := by decide +kernel
theorem dU_deal_48 : decode prog_1_method_11_code 48 = .ok (.invokevirtual 151, 3) := by decide +kernel
theorem dU_deal_51 : decode prog_1_method_11_code 51 = .ok (.istore 5, 2) := by decide +kernel
theorem dU_deal_53 : decode prog_1_method_11_code 53 = .ok (.iload 5, 2) := by decide +kernel
theorem dU_deal_55 : decode prog_1_method_11_code 55 = .ok (.iconst (-1), 1) := by decide +kernel
theorem dU_deal_56 : decode prog_1_method_11_code 56 = .ok (.if_icmp .ne 7, 3) := by decide +kernel
theorem dU_deal_59 : decode prog_1_method_11_code 59 = .ok (.iconst (-1), 1) := by decide +kernel
theorem dU_deal_60 : decode prog_1_method_11_code 60 = .ok (.goto 18, 3) := by decide +kernel
theorem dU_deal_63 : decode prog_1_method_11_code 63 = .ok (.aload_n 0, 1) := by decide +kernel
theorem dU_deal_64 : decode prog_1_method_11_code 64 = .ok (.getfield 10, 3) := by decide +kernel
theorem dU_deal_67 : decode prog_1_method_11_code 67 = .ok (.getfield 155, 3) := by decide +kernel
theorem dU_deal_70 : decode prog_1_method_11_code 70 = .ok (.iload_n 1, 1) := by decide +kernel
theorem dU_deal_71 : decode prog_1_method_11_code 71 = .ok (.iload_n 2, 1) := by decide +kernel
theorem dU_deal_72 : decode prog_1_method_11_code 72 = .ok (.iload_n 3, 1) := by decide +kernel
theorem dU_deal_73 : decode prog_1_method_11_code 73 = .ok (.iload 5, 2) := by decide +kernel
theorem dU_deal_75 : decode prog_1_method_11_code 75 = .ok (.invokevirtual 159, 3) := by decide +kernel
theorem dU_deal_78 : decode prog_1_method_11_code 78 = .ok (.ireturn, 1) := by decide +kernel
theorem dU_dealt_0 : decode prog_1_method_27_code 0 = .ok (.aload_n 0, 1) := by decide +kernel
theorem dU_dealt_1 : decode prog_1_method_27_code 1 = .ok (.getfield 10, 3) := by decide +kernel
theorem dU_dealt_4 : decode prog_1_method_27_code 4 = .ok (.getfield 155, 3) := by decide +kernel
theorem dU_dealt_7 : decode prog_1_method_27_code 7 = .ok (.astore_n 3, 1) := by decide +kernel
theorem dU_dealt_8 : decode prog_1_method_27_code 8 = .ok (.iload_n 1, 1) := by decide +kernel
theorem dU_dealt_9 : decode prog_1_method_27_code 9 = .ok (.ifCond .lt 14, 3) := by decide +kernel
theorem dU_dealt_12 : decode prog_1_method_27_code 12 = .ok (.iload_n 1, 1) := by decide +kernel
theorem dU_dealt_13 : decode prog_1_method_27_code 13 = .ok (.aload_n 3, 1) := by decide +kernel
theorem dU_dealt_14 : decode prog_1_method_27_code 14 = .ok (.getfield 267, 3) := by decide +kernel
theorem dU_dealt_17 : decode prog_1_method_27_code 17 = .ok (.getfield 105, 3) := by decide +kernel
theorem dU_dealt_20 : decode prog_1_method_27_code 20 = .ok (.if_icmp .lt 6, 3) := by decide +kernel
theorem dU_dealt_23 : decode prog_1_method_27_code 23 = .ok (.ldc 117, 2) := by decide +kernel
theorem dU_dealt_25 : decode prog_1_method_27_code 25 = .ok (.ireturn, 1) := by decide +kernel
theorem dU_dealt_26 : decode prog_1_method_27_code 26 = .ok (.iload_n 2, 1) := by decide +kernel
theorem dU_dealt_27 : decode prog_1_method_27_code 27 = .ok (.tableswitch 172 0 7 #[45, 52, 59, 69, 76, 86, 114, 134], 45) := by decide +kernel
theorem dU_dealt_72 : decode prog_1_method_27_code 72 = .ok (.aload_n 3, 1) := by decide +kernel
theorem dU_dealt_73 : decode prog_1_method_27_code 73 = .ok (.getfield 268, 3) := by decide +kernel
theorem dU_dealt_76 : decode prog_1_method_27_code 76 = .ok (.iload_n 1, 1) := by decide +kernel
theorem dU_dealt_77 : decode prog_1_method_27_code 77 = .ok (.iaload, 1) := by decide +kernel
theorem dU_dealt_78 : decode prog_1_method_27_code 78 = .ok (.ireturn, 1) := by decide +kernel
theorem dU_dealt_79 : decode prog_1_method_27_code 79 = .ok (.aload_n 3, 1) := by decide +kernel
theorem dU_dealt_80 : decode prog_1_method_27_code 80 = .ok (.getfield 271, 3) := by decide +kernel
theorem dU_dealt_83 : decode prog_1_method_27_code 83 = .ok (.iload_n 1, 1) := by decide +kernel
theorem dU_dealt_84 : decode prog_1_method_27_code 84 = .ok (.iaload, 1) := by decide +kernel
theorem dU_dealt_85 : decode prog_1_method_27_code 85 = .ok (.ireturn, 1) := by decide +kernel
theorem dU_dealt_86 : decode prog_1_method_27_code 86 = .ok (.aload_n 3, 1) := by decide +kernel
theorem dU_dealt_87 : decode prog_1_method_27_code 87 = .ok (.getfield 267, 3) := by decide +kernel
theorem dU_dealt_90 : decode prog_1_method_27_code 90 = .ok (.getfield 125, 3) := by decide +kernel
theorem dU_dealt_93 : decode prog_1_method_27_code 93 = .ok (.iload_n 1, 1) := by decide +kernel
theorem dU_dealt_94 : decode prog_1_method_27_code 94 = .ok (.iaload, 1) := by decide +kernel
theorem dU_dealt_95 : decode prog_1_method_27_code 95 = .ok (.ireturn, 1) := by decide +kernel
theorem dU_dealt_96 : decode prog_1_method_27_code 96 = .ok (.aload_n 3, 1) := by decide +kernel
theorem dU_dealt_97 : decode prog_1_method_27_code 97 = .ok (.getfield 274, 3) := by decide +kernel
theorem dU_dealt_100 : decode prog_1_method_27_code 100 = .ok (.iload_n 1, 1) := by decide +kernel
theorem dU_dealt_101 : decode prog_1_method_27_code 101 = .ok (.iaload, 1) := by decide +kernel
theorem dU_dealt_102 : decode prog_1_method_27_code 102 = .ok (.ireturn, 1) := by decide +kernel
theorem dU_dealt_103 : decode prog_1_method_27_code 103 = .ok (.aload_n 3, 1) := by decide +kernel
theorem dU_dealt_104 : decode prog_1_method_27_code 104 = .ok (.getfield 277, 3) := by decide +kernel
theorem dU_dealt_107 : decode prog_1_method_27_code 107 = .ok (.iload_n 1, 1) := by decide +kernel
theorem dU_dealt_108 : decode prog_1_method_27_code 108 = .ok (.laload, 1) := by decide +kernel
theorem dU_dealt_109 : decode prog_1_method_27_code 109 = .ok (.invokestatic 219, 3) := by decide +kernel
theorem dU_dealt_112 : decode prog_1_method_27_code 112 = .ok (.ireturn, 1) := by decide +kernel
theorem dU_dealt_113 : decode prog_1_method_27_code 113 = .ok (.aload_n 0, 1) := by decide +kernel
theorem dU_dealt_114 : decode prog_1_method_27_code 114 = .ok (.getfield 26, 3) := by decide +kernel
theorem dU_dealt_117 : decode prog_1_method_27_code 117 = .ok (.aload_n 0, 1) := by decide +kernel
theorem dU_dealt_118 : decode prog_1_method_27_code 118 = .ok (.getfield 10, 3) := by decide +kernel
theorem dU_dealt_121 : decode prog_1_method_27_code 121 = .ok (.aload_n 0, 1) := by decide +kernel
theorem dU_dealt_122 : decode prog_1_method_27_code 122 = .ok (.getfield 10, 3) := by decide +kernel
theorem dU_dealt_125 : decode prog_1_method_27_code 125 = .ok (.invokevirtual 207, 3) := by decide +kernel
theorem dU_dealt_128 : decode prog_1_method_27_code 128 = .ok (.invokevirtual 210, 3) := by decide +kernel
theorem dU_dealt_131 : decode prog_1_method_27_code 131 = .ok (.aload_n 3, 1) := by decide +kernel
theorem dU_dealt_132 : decode prog_1_method_27_code 132 = .ok (.getfield 280, 3) := by decide +kernel
theorem dU_dealt_135 : decode prog_1_method_27_code 135 = .ok (.iload_n 1, 1) := by decide +kernel
theorem dU_dealt_136 : decode prog_1_method_27_code 136 = .ok (.laload, 1) := by decide +kernel
theorem dU_dealt_137 : decode prog_1_method_27_code 137 = .ok (.invokestatic 219, 3) := by decide +kernel
theorem dU_dealt_140 : decode prog_1_method_27_code 140 = .ok (.ireturn, 1) := by decide +kernel
theorem dU_dealt_141 : decode prog_1_method_27_code 141 = .ok (.aload_n 3, 1) := by decide +kernel
theorem dU_dealt_142 : decode prog_1_method_27_code 142 = .ok (.aload_n 0, 1) := by decide +kernel
theorem dU_dealt_143 : decode prog_1_method_27_code 143 = .ok (.getfield 10, 3) := by decide +kernel
theorem dU_dealt_146 : decode prog_1_method_27_code 146 = .ok (.getfield 173, 3) := by decide +kernel
theorem dU_dealt_149 : decode prog_1_method_27_code 149 = .ok (.iload_n 1, 1) := by decide +kernel
theorem dU_dealt_150 : decode prog_1_method_27_code 150 = .ok (.aload_n 3, 1) := by decide +kernel
theorem dU_dealt_151 : decode prog_1_method_27_code 151 = .ok (.getfield 277, 3) := by decide +kernel
theorem dU_dealt_154 : decode prog_1_method_27_code 154 = .ok (.invokevirtual 283, 3) := by decide +kernel
theorem dU_dealt_157 : decode prog_1_method_27_code 157 = .ok (.invokestatic 219, 3) := by decide +kernel
theorem dU_dealt_160 : decode prog_1_method_27_code 160 = .ok (.ireturn, 1) := by decide +kernel
theorem dU_dealt_161 : decode prog_1_method_27_code 161 = .ok (.aload_n 0, 1) := by decide +kernel
theorem dU_dealt_162 : decode prog_1_method_27_code 162 = .ok (.getfield 26, 3) := by decide +kernel
theorem dU_dealt_165 : decode prog_1_method_27_code 165 = .ok (.aload_n 0, 1) := by decide +kernel
theorem dU_dealt_166 : decode prog_1_method_27_code 166 = .ok (.getfield 10, 3) := by decide +kernel
theorem dU_dealt_169 : decode prog_1_method_27_code 169 = .ok (.aload_n 0, 1) := by decide +kernel
theorem dU_dealt_170 : decode prog_1_method_27_code 170 = .ok (.getfield 10, 3) := by decide +kernel
theorem dU_dealt_173 : decode prog_1_method_27_code 173 = .ok (.invokevirtual 207, 3) := by decide +kernel
theorem dU_dealt_176 : decode prog_1_method_27_code 176 = .ok (.invokevirtual 210, 3) := by decide +kernel
theorem dU_dealt_179 : decode prog_1_method_27_code 179 = .ok (.aload_n 3, 1) := by decide +kernel
theorem dU_dealt_180 : decode prog_1_method_27_code 180 = .ok (.aload_n 0, 1) := by decide +kernel
theorem dU_dealt_181 : decode prog_1_method_27_code 181 = .ok (.getfield 10, 3) := by decide +kernel
theorem dU_dealt_184 : decode prog_1_method_27_code 184 = .ok (.getfield 173, 3) := by decide +kernel
theorem dU_dealt_187 : decode prog_1_method_27_code 187 = .ok (.iload_n 1, 1) := by decide +kernel
theorem dU_dealt_188 : decode prog_1_method_27_code 188 = .ok (.aload_n 3, 1) := by decide +kernel
theorem dU_dealt_189 : decode prog_1_method_27_code 189 = .ok (.getfield 280, 3) := by decide +kernel
theorem dU_dealt_192 : decode prog_1_method_27_code 192 = .ok (.invokevirtual 283, 3) := by decide +kernel
theorem dU_dealt_195 : decode prog_1_method_27_code 195 = .ok (.invokestatic 219, 3) := by decide +kernel
theorem dU_dealt_198 : decode prog_1_method_27_code 198 = .ok (.ireturn, 1) := by decide +kernel
theorem dU_dealt_199 : decode prog_1_method_27_code 199 = .ok (.ldc 117, 2) := by decide +kernel
theorem dU_dealt_201 : decode prog_1_method_27_code 201 = .ok (.ireturn, 1) := by decide +kernel
theorem dU_due_0 : decode prog_1_method_30_code 0 = .ok (.aload_n 0, 1) := by decide +kernel
theorem dU_due_1 : decode prog_1_method_30_code 1 = .ok (.getfield 10, 3) := by decide +kernel
theorem dU_due_4 : decode prog_1_method_30_code 4 = .ok (.iload_n 1, 1) := by decide +kernel
theorem dU_due_5 : decode prog_1_method_30_code 5 = .ok (.invokevirtual 128, 3) := by decide +kernel
theorem dU_due_8 : decode prog_1_method_30_code 8 = .ok (.ifCond .eq 16, 3) := by decide +kernel
theorem dU_due_11 : decode prog_1_method_30_code 11 = .ok (.aload_n 0, 1) := by decide +kernel
theorem dU_due_12 : decode prog_1_method_30_code 12 = .ok (.getfield 10, 3) := by decide +kernel
theorem dU_due_15 : decode prog_1_method_30_code 15 = .ok (.getfield 293, 3) := by decide +kernel
theorem dU_due_18 : decode prog_1_method_30_code 18 = .ok (.iload_n 1, 1) := by decide +kernel
theorem dU_due_19 : decode prog_1_method_30_code 19 = .ok (.iaload, 1) := by decide +kernel
theorem dU_due_20 : decode prog_1_method_30_code 20 = .ok (.iconst (-1), 1) := by decide +kernel
theorem dU_due_21 : decode prog_1_method_30_code 21 = .ok (.if_icmp .ne 5, 3) := by decide +kernel
theorem dU_due_24 : decode prog_1_method_30_code 24 = .ok (.iconst (-1), 1) := by decide +kernel
theorem dU_due_25 : decode prog_1_method_30_code 25 = .ok (.ireturn, 1) := by decide +kernel
theorem dU_due_26 : decode prog_1_method_30_code 26 = .ok (.aload_n 0, 1) := by decide +kernel
theorem dU_due_27 : decode prog_1_method_30_code 27 = .ok (.getfield 10, 3) := by decide +kernel
theorem dU_due_30 : decode prog_1_method_30_code 30 = .ok (.getfield 293, 3) := by decide +kernel
theorem dU_due_33 : decode prog_1_method_30_code 33 = .ok (.iload_n 1, 1) := by decide +kernel
theorem dU_due_34 : decode prog_1_method_30_code 34 = .ok (.iaload, 1) := by decide +kernel
theorem dU_due_35 : decode prog_1_method_30_code 35 = .ok (.istore_n 2, 1) := by decide +kernel
theorem dU_due_36 : decode prog_1_method_30_code 36 = .ok (.aload_n 0, 1) := by decide +kernel
theorem dU_due_37 : decode prog_1_method_30_code 37 = .ok (.getfield 10, 3) := by decide +kernel
theorem dU_due_40 : decode prog_1_method_30_code 40 = .ok (.getfield 173, 3) := by decide +kernel
theorem dU_due_43 : decode prog_1_method_30_code 43 = .ok (.iload_n 1, 1) := by decide +kernel
theorem dU_due_44 : decode prog_1_method_30_code 44 = .ok (.iload_n 2, 1) := by decide +kernel
theorem dU_due_45 : decode prog_1_method_30_code 45 = .ok (.bipush 11, 2) := by decide +kernel
theorem dU_due_47 : decode prog_1_method_30_code 47 = .ok (.invokevirtual 186, 3) := by decide +kernel
theorem dU_due_50 : decode prog_1_method_30_code 50 = .ok (.istore_n 3, 1) := by decide +kernel
theorem dU_due_51 : decode prog_1_method_30_code 51 = .ok (.iload_n 3, 1) := by decide +kernel
theorem dU_due_52 : decode prog_1_method_30_code 52 = .ok (.istore 4, 2) := by decide +kernel
theorem dU_due_54 : decode prog_1_method_30_code 54 = .ok (.iload 4, 2) := by decide +kernel
theorem dU_due_56 : decode prog_1_method_30_code 56 = .ok (.ifCond .le 23, 3) := by decide +kernel
theorem dU_due_59 : decode prog_1_method_30_code 59 = .ok (.iload_n 2, 1) := by decide +kernel
theorem dU_due_60 : decode prog_1_method_30_code 60 = .ok (.iconst (-1), 1) := by decide +kernel
theorem dU_due_61 : decode prog_1_method_30_code 61 = .ok (.if_icmp .eq 18, 3) := by decide +kernel
theorem dU_due_64 : decode prog_1_method_30_code 64 = .ok (.aload_n 0, 1) := by decide +kernel
theorem dU_due_65 : decode prog_1_method_30_code 65 = .ok (.getfield 10, 3) := by decide +kernel
theorem dU_due_68 : decode prog_1_method_30_code 68 = .ok (.iload_n 2, 1) := by decide +kernel
theorem dU_due_69 : decode prog_1_method_30_code 69 = .ok (.invokevirtual 296, 3) := by decide +kernel
theorem dU_due_72 : decode prog_1_method_30_code 72 = .ok (.istore_n 2, 1) := by decide +kernel
theorem dU_due_73 : decode prog_1_method_30_code 73 = .ok (.iinc 4 (-1), 3) := by decide +kernel
theorem dU_due_76 : decode prog_1_method_30_code 76 = .ok (.goto (-22), 3) := by decide +kernel
theorem dU_due_79 : decode prog_1_method_30_code 79 = .ok (.iload_n 2, 1) := by decide +kernel
theorem dU_due_80 : decode prog_1_method_30_code 80 = .ok (.ireturn, 1) := by decide +kernel
theorem dU_end_0 : decode prog_1_method_13_code 0 = .ok (.iload_n 1, 1) := by decide +kernel
theorem dU_end_1 : decode prog_1_method_13_code 1 = .ok (.ifCond .lt 14, 3) := by decide +kernel
theorem dU_end_4 : decode prog_1_method_13_code 4 = .ok (.iload_n 1, 1) := by decide +kernel
theorem dU_end_5 : decode prog_1_method_13_code 5 = .ok (.aload_n 0, 1) := by decide +kernel
theorem dU_end_6 : decode prog_1_method_13_code 6 = .ok (.getfield 19, 3) := by decide +kernel
theorem dU_end_9 : decode prog_1_method_13_code 9 = .ok (.getfield 162, 3) := by decide +kernel
theorem dU_end_12 : decode prog_1_method_13_code 12 = .ok (.if_icmp .le 5, 3) := by decide +kernel
theorem dU_end_15 : decode prog_1_method_13_code 15 = .ok (.iconst 0, 1) := by decide +kernel
theorem dU_end_16 : decode prog_1_method_13_code 16 = .ok (.ireturn, 1) := by decide +kernel
theorem dU_end_17 : decode prog_1_method_13_code 17 = .ok (.aload_n 0, 1) := by decide +kernel
theorem dU_end_18 : decode prog_1_method_13_code 18 = .ok (.getfield 19, 3) := by decide +kernel
theorem dU_end_21 : decode prog_1_method_13_code 21 = .ok (.iload_n 1, 1) := by decide +kernel
theorem dU_end_22 : decode prog_1_method_13_code 22 = .ok (.putfield 162, 3) := by decide +kernel
theorem dU_end_25 : decode prog_1_method_13_code 25 = .ok (.iconst 1, 1) := by decide +kernel
theorem dU_end_26 : decode prog_1_method_13_code 26 = .ok (.ireturn, 1) := by decide +kernel
theorem dU_error_0 : decode prog_1_method_21_code 0 = .ok (.aload_n 0, 1) := by decide +kernel
theorem dU_error_1 : decode prog_1_method_21_code 1 = .ok (.iload_n 1, 1) := by decide +kernel
theorem dU_error_2 : decode prog_1_method_21_code 2 = .ok (.iload_n 2, 1) := by decide +kernel
theorem dU_error_3 : decode prog_1_method_21_code 3 = .ok (.invokevirtual 198, 3) := by decide +kernel
theorem dU_error_6 : decode prog_1_method_21_code 6 = .ok (.ifCond .eq 19, 3) := by decide +kernel
theorem dU_error_9 : decode prog_1_method_21_code 9 = .ok (.iload_n 3, 1) := by decide +kernel
theorem dU_error_10 : decode prog_1_method_21_code 10 = .ok (.iload_n 2, 1) := by decide +kernel
theorem dU_error_11 : decode prog_1_method_21_code 11 = .ok (.if_icmp .lt 14, 3) := by decide +kernel
theorem dU_error_14 : decode prog_1_method_21_code 14 = .ok (.iload_n 3, 1) := by decide +kernel
theorem dU_error_15 : decode prog_1_method_21_code 15 = .ok (.aload_n 0, 1) := by decide +kernel
theorem dU_error_16 : decode prog_1_method_21_code 16 = .ok (.getfield 10, 3) := by decide +kernel
theorem dU_error_19 : decode prog_1_method_21_code 19 = .ok (.invokevirtual 207, 3) := by decide +kernel
theorem dU_error_22 : decode prog_1_method_21_code 22 = .ok (.if_icmp .le 6, 3) := by decide +kernel
theorem dU_error_25 : decode prog_1_method_21_code 25 = .ok (.ldc 117, 2) := by decide +kernel
theorem dU_error_27 : decode prog_1_method_21_code 27 = .ok (.ireturn, 1) := by decide +kernel
theorem dU_error_28 : decode prog_1_method_21_code 28 = .ok (.aload_n 0, 1) := by decide +kernel
theorem dU_error_29 : decode prog_1_method_21_code 29 = .ok (.getfield 26, 3) := by decide +kernel
theorem dU_error_32 : decode prog_1_method_21_code 32 = .ok (.aload_n 0, 1) := by decide +kernel
theorem dU_error_33 : decode prog_1_method_21_code 33 = .ok (.getfield 10, 3) := by decide +kernel
theorem dU_error_36 : decode prog_1_method_21_code 36 = .ok (.iload_n 3, 1) := by decide +kernel
theorem dU_error_37 : decode prog_1_method_21_code 37 = .ok (.invokevirtual 210, 3) := by decide +kernel
theorem dU_error_40 : decode prog_1_method_21_code 40 = .ok (.aload_n 0, 1) := by decide +kernel
theorem dU_error_41 : decode prog_1_method_21_code 41 = .ok (.getfield 26, 3) := by decide +kernel
theorem dU_error_44 : decode prog_1_method_21_code 44 = .ok (.aload_n 0, 1) := by decide +kernel
theorem dU_error_45 : decode prog_1_method_21_code 45 = .ok (.getfield 10, 3) := by decide +kernel
theorem dU_error_48 : decode prog_1_method_21_code 48 = .ok (.iload_n 1, 1) := by decide +kernel
theorem dU_error_49 : decode prog_1_method_21_code 49 = .ok (.iload_n 2, 1) := by decide +kernel
theorem dU_error_50 : decode prog_1_method_21_code 50 = .ok (.invokestatic 204, 3) := by decide +kernel
theorem dU_error_53 : decode prog_1_method_21_code 53 = .ok (.invokevirtual 225, 3) := by decide +kernel
theorem dU_error_56 : decode prog_1_method_21_code 56 = .ok (.ireturn, 1) := by decide +kernel
theorem dU_errors_0 : decode prog_1_method_22_code 0 = .ok (.aload_n 0, 1) := by decide +kernel
theorem dU_errors_1 : decode prog_1_method_22_code 1 = .ok (.getfield 10, 3) := by decide +kernel
theorem dU_errors_4 : decode prog_1_method_22_code 4 = .ok (.iload_n 1, 1) := by decide +kernel
theorem dU_errors_5 : decode prog_1_method_22_code 5 = .ok (.invokevirtual 128, 3) := by decide +kernel
theorem dU_errors_8 : decode prog_1_method_22_code 8 = .ok (.ifCond .ne 5, 3) := by decide +kernel
theorem dU_errors_11 : decode prog_1_method_22_code 11 = .ok (.iconst (-1), 1) := by decide +kernel
theorem dU_errors_12 : decode prog_1_method_22_code 12 = .ok (.ireturn, 1) := by decide +kernel
theorem dU_errors_13 : decode prog_1_method_22_code 13 = .ok (.aload_n 0, 1) := by decide +kernel
theorem dU_errors_14 : decode prog_1_method_22_code 14 = .ok (.getfield 10, 3) := by decide +kernel
theorem dU_errors_17 : decode prog_1_method_22_code 17 = .ok (.invokevirtual 207, 3) := by decide +kernel
theorem dU_errors_20 : decode prog_1_method_22_code 20 = .ok (.istore_n 2, 1) := by decide +kernel
theorem dU_errors_21 : decode prog_1_method_22_code 21 = .ok (.aload_n 0, 1) := by decide +kernel
theorem dU_errors_22 : decode prog_1_method_22_code 22 = .ok (.getfield 26, 3) := by decide +kernel
theorem dU_errors_25 : decode prog_1_method_22_code 25 = .ok (.aload_n 0, 1) := by decide +kernel
theorem dU_errors_26 : decode prog_1_method_22_code 26 = .ok (.getfield 10, 3) := by decide +kernel
theorem dU_errors_29 : decode prog_1_method_22_code 29 = .ok (.iload_n 2, 1) := by decide +kernel
theorem dU_errors_30 : decode prog_1_method_22_code 30 = .ok (.invokevirtual 210, 3) := by decide +kernel
theorem dU_errors_33 : decode prog_1_method_22_code 33 = .ok (.aload_n 0, 1) := by decide +kernel
theorem dU_errors_34 : decode prog_1_method_22_code 34 = .ok (.getfield 10, 3) := by decide +kernel
theorem dU_errors_37 : decode prog_1_method_22_code 37 = .ok (.getfield 173, 3) := by decide +kernel
theorem dU_errors_40 : decode prog_1_method_22_code 40 = .ok (.iload_n 1, 1) := by decide +kernel
theorem dU_errors_41 : decode prog_1_method_22_code 41 = .ok (.iload_n 2, 1) := by decide +kernel
theorem dU_errors_42 : decode prog_1_method_22_code 42 = .ok (.iconst 4, 1) := by decide +kernel
theorem dU_errors_43 : decode prog_1_method_22_code 43 = .ok (.invokevirtual 186, 3) := by decide +kernel
theorem dU_errors_46 : decode prog_1_method_22_code 46 = .ok (.istore_n 3, 1) := by decide +kernel
theorem dU_errors_47 : decode prog_1_method_22_code 47 = .ok (.iconst 0, 1) := by decide +kernel
theorem dU_errors_48 : decode prog_1_method_22_code 48 = .ok (.istore 4, 2) := by decide +kernel
theorem dU_errors_50 : decode prog_1_method_22_code 50 = .ok (.iconst 0, 1) := by decide +kernel
theorem dU_errors_51 : decode prog_1_method_22_code 51 = .ok (.istore 5, 2) := by decide +kernel
theorem dU_errors_53 : decode prog_1_method_22_code 53 = .ok (.iload 5, 2) := by decide +kernel
theorem dU_errors_55 : decode prog_1_method_22_code 55 = .ok (.aload_n 0, 1) := by decide +kernel
theorem dU_errors_56 : decode prog_1_method_22_code 56 = .ok (.getfield 10, 3) := by decide +kernel
theorem dU_errors_59 : decode prog_1_method_22_code 59 = .ok (.iload_n 2, 1) := by decide +kernel
theorem dU_errors_60 : decode prog_1_method_22_code 60 = .ok (.invokevirtual 229, 3) := by decide +kernel
theorem dU_errors_63 : decode prog_1_method_22_code 63 = .ok (.if_icmp .gt 45, 3) := by decide +kernel
theorem dU_errors_66 : decode prog_1_method_22_code 66 = .ok (.aload_n 0, 1) := by decide +kernel
theorem dU_errors_67 : decode prog_1_method_22_code 67 = .ok (.getfield 10, 3) := by decide +kernel
theorem dU_errors_70 : decode prog_1_method_22_code 70 = .ok (.iload 5, 2) := by decide +kernel
theorem dU_errors_72 : decode prog_1_method_22_code 72 = .ok (.invokevirtual 83, 3) := by decide +kernel
theorem dU_errors_75 : decode prog_1_method_22_code 75 = .ok (.ifCond .eq 27, 3) := by decide +kernel
theorem dU_errors_78 : decode prog_1_method_22_code 78 = .ok (.aload_n 0, 1) := by decide +kernel
theorem dU_errors_79 : decode prog_1_method_22_code 79 = .ok (.getfield 26, 3) := by decide +kernel
theorem dU_errors_82 : decode prog_1_method_22_code 82 = .ok (.aload_n 0, 1) := by decide +kernel
theorem dU_errors_83 : decode prog_1_method_22_code 83 = .ok (.getfield 10, 3) := by decide +kernel
theorem dU_errors_86 : decode prog_1_method_22_code 86 = .ok (.iload_n 1, 1) := by decide +kernel
theorem dU_errors_87 : decode prog_1_method_22_code 87 = .ok (.iload 5, 2) := by decide +kernel
theorem dU_errors_89 : decode prog_1_method_22_code 89 = .ok (.invokestatic 204, 3) := by decide +kernel
theorem dU_errors_92 : decode prog_1_method_22_code 92 = .ok (.iload_n 3, 1) := by decide +kernel
theorem dU_errors_93 : decode prog_1_method_22_code 93 = .ok (.invokevirtual 233, 3) := by decide +kernel
theorem dU_errors_96 : decode prog_1_method_22_code 96 = .ok (.ifCond .eq 6, 3) := by decide +kernel
theorem dU_errors_99 : decode prog_1_method_22_code 99 = .ok (.iinc 4 1, 3) := by decide +kernel
theorem dU_errors_102 : decode prog_1_method_22_code 102 = .ok (.iinc 5 1, 3) := by decide +kernel
theorem dU_errors_105 : decode prog_1_method_22_code 105 = .ok (.goto (-52), 3) := by decide +kernel
theorem dU_errors_108 : decode prog_1_method_22_code 108 = .ok (.iload 4, 2) := by decide +kernel
theorem dU_errors_110 : decode prog_1_method_22_code 110 = .ok (.ireturn, 1) := by decide +kernel
theorem dU_explain_0 : decode prog_1_method_34_code 0 = .ok (.aload_n 0, 1) := by decide +kernel
theorem dU_explain_1 : decode prog_1_method_34_code 1 = .ok (.getfield 47, 3) := by decide +kernel
theorem dU_explain_4 : decode prog_1_method_34_code 4 = .ok (.aload_n 0, 1) := by decide +kernel
theorem dU_explain_5 : decode prog_1_method_34_code 5 = .ok (.getfield 10, 3) := by decide +kernel
theorem dU_explain_8 : decode prog_1_method_34_code 8 = .ok (.aload_n 0, 1) := by decide +kernel
theorem dU_explain_9 : decode prog_1_method_34_code 9 = .ok (.getfield 26, 3) := by decide +kernel
theorem dU_explain_12 : decode prog_1_method_34_code 12 = .ok (.invokevirtual 310, 3) := by decide +kernel
theorem dU_explain_15 : decode prog_1_method_34_code 15 = .ok (.aload_n 0, 1) := by decide +kernel
theorem dU_explain_16 : decode prog_1_method_34_code 16 = .ok (.getfield 47, 3) := by decide +kernel
theorem dU_explain_19 : decode prog_1_method_34_code 19 = .ok (.getfield 314, 3) := by decide +kernel
theorem dU_explain_22 : decode prog_1_method_34_code 22 = .ok (.ireturn, 1) := by decide +kernel
theorem dU_fault_0 : decode prog_1_method_14_code 0 = .ok (.aload_n 0, 1) := by decide +kernel
theorem dU_fault_1 : decode prog_1_method_14_code 1 = .ok (.getfield 19, 3) := by decide +kernel
theorem dU_fault_4 : decode prog_1_method_14_code 4 = .ok (.invokevirtual 169, 3) := by decide +kernel
theorem dU_fault_7 : decode prog_1_method_14_code 7 = .ok (.ireturn, 1) := by decide +kernel
theorem dU_fee_0 : decode prog_1_method_20_code 0 = .ok (.aload_n 0, 1) := by decide +kernel
theorem dU_fee_1 : decode prog_1_method_20_code 1 = .ok (.iload_n 1, 1) := by decide +kernel
theorem dU_fee_2 : decode prog_1_method_20_code 2 = .ok (.iload_n 2, 1) := by decide +kernel
theorem dU_fee_3 : decode prog_1_method_20_code 3 = .ok (.invokevirtual 198, 3) := by decide +kernel
theorem dU_fee_6 : decode prog_1_method_20_code 6 = .ok (.ifCond .eq 12, 3) := by decide +kernel
theorem dU_fee_9 : decode prog_1_method_20_code 9 = .ok (.iload_n 3, 1) := by decide +kernel
theorem dU_fee_10 : decode prog_1_method_20_code 10 = .ok (.ifCond .lt 8, 3) := by decide +kernel
theorem dU_fee_13 : decode prog_1_method_20_code 13 = .ok (.iload_n 3, 1) := by decide +kernel
theorem dU_fee_14 : decode prog_1_method_20_code 14 = .ok (.iconst 1, 1) := by decide +kernel
theorem dU_fee_15 : decode prog_1_method_20_code 15 = .ok (.if_icmp .le 5, 3) := by decide +kernel
theorem dU_fee_18 : decode prog_1_method_20_code 18 = .ok (.iconst (-1), 1) := by decide +kernel
theorem dU_fee_19 : decode prog_1_method_20_code 19 = .ok (.ireturn, 1) := by decide +kernel
theorem dU_fee_20 : decode prog_1_method_20_code 20 = .ok (.iload_n 3, 1) := by decide +kernel
theorem dU_fee_21 : decode prog_1_method_20_code 21 = .ok (.ifCond .ne 20, 3) := by decide +kernel
theorem dU_fee_24 : decode prog_1_method_20_code 24 = .ok (.aload_n 0, 1) := by decide +kernel
theorem dU_fee_25 : decode prog_1_method_20_code 25 = .ok (.getfield 10, 3) := by decide +kernel
theorem dU_fee_28 : decode prog_1_method_20_code 28 = .ok (.getfield 216, 3) := by decide +kernel
theorem dU_fee_31 : decode prog_1_method_20_code 31 = .ok (.iload_n 1, 1) := by decide +kernel
theorem dU_fee_32 : decode prog_1_method_20_code 32 = .ok (.iload_n 2, 1) := by decide +kernel
theorem dU_fee_33 : decode prog_1_method_20_code 33 = .ok (.invokestatic 204, 3) := by decide +kernel
theorem dU_fee_36 : decode prog_1_method_20_code 36 = .ok (.laload, 1) := by decide +kernel
theorem dU_fee_37 : decode prog_1_method_20_code 37 = .ok (.invokestatic 219, 3) := by decide +kernel
theorem dU_fee_40 : decode prog_1_method_20_code 40 = .ok (.ireturn, 1) := by decide +kernel
theorem dU_fee_41 : decode prog_1_method_20_code 41 = .ok (.aload_n 0, 1) := by decide +kernel
theorem dU_fee_42 : decode prog_1_method_20_code 42 = .ok (.getfield 26, 3) := by decide +kernel
theorem dU_fee_45 : decode prog_1_method_20_code 45 = .ok (.aload_n 0, 1) := by decide +kernel
theorem dU_fee_46 : decode prog_1_method_20_code 46 = .ok (.getfield 10, 3) := by decide +kernel
theorem dU_fee_49 : decode prog_1_method_20_code 49 = .ok (.aload_n 0, 1) := by decide +kernel
theorem dU_fee_50 : decode prog_1_method_20_code 50 = .ok (.getfield 10, 3) := by decide +kernel
theorem dU_fee_53 : decode prog_1_method_20_code 53 = .ok (.invokevirtual 207, 3) := by decide +kernel
theorem dU_fee_56 : decode prog_1_method_20_code 56 = .ok (.invokevirtual 210, 3) := by decide +kernel
theorem dU_fee_59 : decode prog_1_method_20_code 59 = .ok (.aload_n 0, 1) := by decide +kernel
theorem dU_fee_60 : decode prog_1_method_20_code 60 = .ok (.getfield 26, 3) := by decide +kernel
theorem dU_fee_63 : decode prog_1_method_20_code 63 = .ok (.getfield 222, 3) := by decide +kernel
theorem dU_fee_66 : decode prog_1_method_20_code 66 = .ok (.iload_n 1, 1) := by decide +kernel
theorem dU_fee_67 : decode prog_1_method_20_code 67 = .ok (.iload_n 2, 1) := by decide +kernel
theorem dU_fee_68 : decode prog_1_method_20_code 68 = .ok (.invokestatic 204, 3) := by decide +kernel
theorem dU_fee_71 : decode prog_1_method_20_code 71 = .ok (.laload, 1) := by decide +kernel
theorem dU_fee_72 : decode prog_1_method_20_code 72 = .ok (.invokestatic 219, 3) := by decide +kernel
theorem dU_fee_75 : decode prog_1_method_20_code 75 = .ok (.ireturn, 1) := by decide +kernel
theorem dU_feed_0 : decode prog_1_method_12_code 0 = .ok (.aload_n 0, 1) := by decide +kernel
theorem dU_feed_1 : decode prog_1_method_12_code 1 = .ok (.getfield 19, 3) := by decide +kernel
theorem dU_feed_4 : decode prog_1_method_12_code 4 = .ok (.getfield 162, 3) := by decide +kernel
theorem dU_feed_7 : decode prog_1_method_12_code 7 = .ok (.bipush 20, 2) := by decide +kernel
theorem dU_feed_9 : decode prog_1_method_12_code 9 = .ok (.iadd, 1) := by decide +kernel
theorem dU_feed_10 : decode prog_1_method_12_code 10 = .ok (.sipush 600, 3) := by decide +kernel
theorem dU_feed_13 : decode prog_1_method_12_code 13 = .ok (.if_icmp .le 5, 3) := by decide +kernel
theorem dU_feed_16 : decode prog_1_method_12_code 16 = .ok (.iconst (-1), 1) := by decide +kernel
theorem dU_feed_17 : decode prog_1_method_12_code 17 = .ok (.ireturn, 1) := by decide +kernel
theorem dU_feed_18 : decode prog_1_method_12_code 18 = .ok (.aload_n 0, 1) := by decide +kernel
theorem dU_feed_19 : decode prog_1_method_12_code 19 = .ok (.getfield 19, 3) := by decide +kernel
theorem dU_feed_22 : decode prog_1_method_12_code 22 = .ok (.iload_n 1, 1) := by decide +kernel
theorem dU_feed_23 : decode prog_1_method_12_code 23 = .ok (.invokevirtual 165, 3) := by decide +kernel
theorem dU_feed_26 : decode prog_1_method_12_code 26 = .ok (.aload_n 0, 1) := by decide +kernel
theorem dU_feed_27 : decode prog_1_method_12_code 27 = .ok (.getfield 19, 3) := by decide +kernel
theorem dU_feed_30 : decode prog_1_method_12_code 30 = .ok (.iload_n 2, 1) := by decide +kernel
theorem dU_feed_31 : decode prog_1_method_12_code 31 = .ok (.invokevirtual 165, 3) := by decide +kernel
theorem dU_feed_34 : decode prog_1_method_12_code 34 = .ok (.aload_n 0, 1) := by decide +kernel
theorem dU_feed_35 : decode prog_1_method_12_code 35 = .ok (.getfield 19, 3) := by decide +kernel
theorem dU_feed_38 : decode prog_1_method_12_code 38 = .ok (.iload_n 3, 1) := by decide +kernel
theorem dU_feed_39 : decode prog_1_method_12_code 39 = .ok (.invokevirtual 165, 3) := by decide +kernel
theorem dU_feed_42 : decode prog_1_method_12_code 42 = .ok (.aload_n 0, 1) := by decide +kernel
theorem dU_feed_43 : decode prog_1_method_12_code 43 = .ok (.getfield 19, 3) := by decide +kernel
theorem dU_feed_46 : decode prog_1_method_12_code 46 = .ok (.iload 4, 2) := by decide +kernel
theorem dU_feed_48 : decode prog_1_method_12_code 48 = .ok (.invokevirtual 165, 3) := by decide +kernel
theorem dU_feed_51 : decode prog_1_method_12_code 51 = .ok (.aload_n 0, 1) := by decide +kernel
theorem dU_feed_52 : decode prog_1_method_12_code 52 = .ok (.getfield 19, 3) := by decide +kernel
theorem dU_feed_55 : decode prog_1_method_12_code 55 = .ok (.iload 5, 2) := by decide +kernel
theorem dU_feed_57 : decode prog_1_method_12_code 57 = .ok (.invokevirtual 165, 3) := by decide +kernel
theorem dU_feed_60 : decode prog_1_method_12_code 60 = .ok (.aload_n 0, 1) := by decide +kernel
theorem dU_feed_61 : decode prog_1_method_12_code 61 = .ok (.getfield 19, 3) := by decide +kernel
theorem dU_feed_64 : decode prog_1_method_12_code 64 = .ok (.getfield 162, 3) := by decide +kernel
theorem dU_feed_67 : decode prog_1_method_12_code 67 = .ok (.ireturn, 1) := by decide +kernel
theorem dU_forget_0 : decode prog_1_method_33_code 0 = .ok (.aload_n 0, 1) := by decide +kernel
theorem dU_forget_1 : decode prog_1_method_33_code 1 = .ok (.getfield 47, 3) := by decide +kernel
theorem dU_forget_4 : decode prog_1_method_33_code 4 = .ok (.getfield 309, 3) := by decide +kernel
theorem dU_forget_7 : decode prog_1_method_33_code 7 = .ok (.aload_n 0, 1) := by decide +kernel
theorem dU_forget_8 : decode prog_1_method_33_code 8 = .ok (.getfield 10, 3) := by decide +kernel
theorem dU_forget_11 : decode prog_1_method_33_code 11 = .ok (.getfield 306, 3) := by decide +kernel
theorem dU_forget_14 : decode prog_1_method_33_code 14 = .ok (.getfield 101, 3) := by decide +kernel
theorem dU_forget_17 : decode prog_1_method_33_code 17 = .ok (.getfield 105, 3) := by decide +kernel
theorem dU_forget_20 : decode prog_1_method_33_code 20 = .ok (.iadd, 1) := by decide +kernel
theorem dU_forget_21 : decode prog_1_method_33_code 21 = .ok (.istore_n 1, 1) := by decide +kernel
theorem dU_forget_22 : decode prog_1_method_33_code 22 = .ok (.aload_n 0, 1) := by decide +kernel
theorem dU_forget_23 : decode prog_1_method_33_code 23 = .ok (.getfield 47, 3) := by decide +kernel
theorem dU_forget_26 : decode prog_1_method_33_code 26 = .ok (.iconst 0, 1) := by decide +kernel
theorem dU_forget_27 : decode prog_1_method_33_code 27 = .ok (.putfield 309, 3) := by decide +kernel
theorem dU_forget_30 : decode prog_1_method_33_code 30 = .ok (.aload_n 0, 1) := by decide +kernel
theorem dU_forget_31 : decode prog_1_method_33_code 31 = .ok (.getfield 47, 3) := by decide +kernel
theorem dU_forget_34 : decode prog_1_method_33_code 34 = .ok (.iconst 0, 1) := by decide +kernel
theorem dU_forget_35 : decode prog_1_method_33_code 35 = .ok (.putfield 302, 3) := by decide +kernel
theorem dU_forget_38 : decode prog_1_method_33_code 38 = .ok (.aload_n 0, 1) := by decide +kernel
theorem dU_forget_39 : decode prog_1_method_33_code 39 = .ok (.getfield 10, 3) := by decide +kernel
theorem dU_forget_42 : decode prog_1_method_33_code 42 = .ok (.getfield 306, 3) := by decide +kernel
theorem dU_forget_45 : decode prog_1_method_33_code 45 = .ok (.getfield 101, 3) := by decide +kernel
theorem dU_forget_48 : decode prog_1_method_33_code 48 = .ok (.iconst 0, 1) := by decide +kernel
theorem dU_forget_49 : decode prog_1_method_33_code 49 = .ok (.putfield 105, 3) := by decide +kernel
theorem dU_forget_52 : decode prog_1_method_33_code 52 = .ok (.iload_n 1, 1) := by decide +kernel
theorem dU_forget_53 : decode prog_1_method_33_code 53 = .ok (.ireturn, 1) := by decide +kernel
theorem dU_found_0 : decode prog_1_method_29_code 0 = .ok (.aload_n 0, 1) := by decide +kernel
theorem dU_found_1 : decode prog_1_method_29_code 1 = .ok (.getfield 10, 3) := by decide +kernel
theorem dU_found_4 : decode prog_1_method_29_code 4 = .ok (.iload_n 1, 1) := by decide +kernel
theorem dU_found_5 : decode prog_1_method_29_code 5 = .ok (.invokevirtual 128, 3) := by decide +kernel
theorem dU_found_8 : decode prog_1_method_29_code 8 = .ok (.ifCond .eq 29, 3) := by decide +kernel
theorem dU_found_11 : decode prog_1_method_29_code 11 = .ok (.aload_n 0, 1) := by decide +kernel
theorem dU_found_12 : decode prog_1_method_29_code 12 = .ok (.getfield 10, 3) := by decide +kernel
theorem dU_found_15 : decode prog_1_method_29_code 15 = .ok (.getfield 293, 3) := by decide +kernel
theorem dU_found_18 : decode prog_1_method_29_code 18 = .ok (.iload_n 1, 1) := by decide +kernel
theorem dU_found_19 : decode prog_1_method_29_code 19 = .ok (.iaload, 1) := by decide +kernel
theorem dU_found_20 : decode prog_1_method_29_code 20 = .ok (.iconst (-1), 1) := by decide +kernel
theorem dU_found_21 : decode prog_1_method_29_code 21 = .ok (.if_icmp .ne 16, 3) := by decide +kernel
theorem dU_found_24 : decode prog_1_method_29_code 24 = .ok (.aload_n 0, 1) := by decide +kernel
theorem dU_found_25 : decode prog_1_method_29_code 25 = .ok (.getfield 10, 3) := by decide +kernel
theorem dU_found_28 : decode prog_1_method_29_code 28 = .ok (.getfield 51, 3) := by decide +kernel
theorem dU_found_31 : decode prog_1_method_29_code 31 = .ok (.sipush 260, 3) := by decide +kernel
theorem dU_found_34 : decode prog_1_method_29_code 34 = .ok (.if_icmp .lt 5, 3) := by decide +kernel
theorem dU_found_37 : decode prog_1_method_29_code 37 = .ok (.iconst 0, 1) := by decide +kernel
theorem dU_found_38 : decode prog_1_method_29_code 38 = .ok (.ireturn, 1) := by decide +kernel
theorem dU_found_39 : decode prog_1_method_29_code 39 = .ok (.aload_n 0, 1) := by decide +kernel
theorem dU_found_40 : decode prog_1_method_29_code 40 = .ok (.getfield 10, 3) := by decide +kernel
theorem dU_found_43 : decode prog_1_method_29_code 43 = .ok (.getfield 293, 3) := by decide +kernel
theorem dU_found_46 : decode prog_1_method_29_code 46 = .ok (.iload_n 1, 1) := by decide +kernel
theorem dU_found_47 : decode prog_1_method_29_code 47 = .ok (.aload_n 0, 1) := by decide +kernel
theorem dU_found_48 : decode prog_1_method_29_code 48 = .ok (.getfield 10, 3) := by decide +kernel
theorem dU_found_51 : decode prog_1_method_29_code 51 = .ok (.getfield 51, 3) := by decide +kernel
theorem dU_found_54 : decode prog_1_method_29_code 54 = .ok (.iastore, 1) := by decide +kernel
theorem dU_found_55 : decode prog_1_method_29_code 55 = .ok (.iconst 1, 1) := by decide +kernel
theorem dU_found_56 : decode prog_1_method_29_code 56 = .ok (.ireturn, 1) := by decide +kernel
theorem dU_fund_0 : decode prog_1_method_3_code 0 = .ok (.iload_n 1, 1) := by decide +kernel
theorem dU_fund_1 : decode prog_1_method_3_code 1 = .ok (.ifCond .lt 30, 3) := by decide +kernel
theorem dU_fund_4 : decode prog_1_method_3_code 4 = .ok (.iload_n 1, 1) := by decide +kernel
theorem dU_fund_5 : decode prog_1_method_3_code 5 = .ok (.ldc 59, 2) := by decide +kernel
theorem dU_fund_7 : decode prog_1_method_3_code 7 = .ok (.if_icmp .gt 24, 3) := by decide +kernel
theorem dU_fund_10 : decode prog_1_method_3_code 10 = .ok (.aload_n 0, 1) := by decide +kernel
theorem dU_fund_11 : decode prog_1_method_3_code 11 = .ok (.getfield 10, 3) := by decide +kernel
theorem dU_fund_14 : decode prog_1_method_3_code 14 = .ok (.getfield 60, 3) := by decide +kernel
theorem dU_fund_17 : decode prog_1_method_3_code 17 = .ok (.iconst 4, 1) := by decide +kernel
theorem dU_fund_18 : decode prog_1_method_3_code 18 = .ok (.if_icmp .ge 13, 3) := by decide +kernel
theorem dU_fund_21 : decode prog_1_method_3_code 21 = .ok (.aload_n 0, 1) := by decide +kernel
theorem dU_fund_22 : decode prog_1_method_3_code 22 = .ok (.getfield 10, 3) := by decide +kernel
theorem dU_fund_25 : decode prog_1_method_3_code 25 = .ok (.getfield 51, 3) := by decide +kernel
theorem dU_fund_28 : decode prog_1_method_3_code 28 = .ok (.ifCond .eq 5, 3) := by decide +kernel
theorem dU_fund_31 : decode prog_1_method_3_code 31 = .ok (.iconst (-1), 1) := by decide +kernel
theorem dU_fund_32 : decode prog_1_method_3_code 32 = .ok (.ireturn, 1) := by decide +kernel
theorem dU_fund_33 : decode prog_1_method_3_code 33 = .ok (.aload_n 0, 1) := by decide +kernel
theorem dU_fund_34 : decode prog_1_method_3_code 34 = .ok (.getfield 10, 3) := by decide +kernel
theorem dU_fund_37 : decode prog_1_method_3_code 37 = .ok (.getfield 60, 3) := by decide +kernel
theorem dU_fund_40 : decode prog_1_method_3_code 40 = .ok (.istore_n 2, 1) := by decide +kernel
theorem dU_fund_41 : decode prog_1_method_3_code 41 = .ok (.aload_n 0, 1) := by decide +kernel
theorem dU_fund_42 : decode prog_1_method_3_code 42 = .ok (.getfield 10, 3) := by decide +kernel
theorem dU_fund_45 : decode prog_1_method_3_code 45 = .ok (.getfield 63, 3) := by decide +kernel
theorem dU_fund_48 : decode prog_1_method_3_code 48 = .ok (.iload_n 2, 1) := by decide +kernel
theorem dU_fund_49 : decode prog_1_method_3_code 49 = .ok (.iload_n 1, 1) := by decide +kernel
theorem dU_fund_50 : decode prog_1_method_3_code 50 = .ok (.i2l, 1) := by decide +kernel
theorem dU_fund_51 : decode prog_1_method_3_code 51 = .ok (.lastore, 1) := by decide +kernel
theorem dU_fund_52 : decode prog_1_method_3_code 52 = .ok (.aload_n 0, 1) := by decide +kernel
theorem dU_fund_53 : decode prog_1_method_3_code 53 = .ok (.getfield 10, 3) := by decide +kernel
theorem dU_fund_56 : decode prog_1_method_3_code 56 = .ok (.iload_n 2, 1) := by decide +kernel
theorem dU_fund_57 : decode prog_1_method_3_code 57 = .ok (.iconst 1, 1) := by decide +kernel
theorem dU_fund_58 : decode prog_1_method_3_code 58 = .ok (.iadd, 1) := by decide +kernel
theorem dU_fund_59 : decode prog_1_method_3_code 59 = .ok (.putfield 60, 3) := by decide +kernel
theorem dU_fund_62 : decode prog_1_method_3_code 62 = .ok (.aload_n 0, 1) := by decide +kernel
theorem dU_fund_63 : decode prog_1_method_3_code 63 = .ok (.getfield 10, 3) := by decide +kernel
theorem dU_fund_66 : decode prog_1_method_3_code 66 = .ok (.dup, 1) := by decide +kernel
theorem dU_fund_67 : decode prog_1_method_3_code 67 = .ok (.getfield 67, 3) := by decide +kernel
theorem dU_fund_70 : decode prog_1_method_3_code 70 = .ok (.iconst 1, 1) := by decide +kernel
theorem dU_fund_71 : decode prog_1_method_3_code 71 = .ok (.iadd, 1) := by decide +kernel
theorem dU_fund_72 : decode prog_1_method_3_code 72 = .ok (.putfield 67, 3) := by decide +kernel
theorem dU_fund_75 : decode prog_1_method_3_code 75 = .ok (.iload_n 2, 1) := by decide +kernel
theorem dU_fund_76 : decode prog_1_method_3_code 76 = .ok (.ireturn, 1) := by decide +kernel
theorem dU_go_0 : decode prog_1_method_17_code 0 = .ok (.iload_n 1, 1) := by decide +kernel
theorem dU_go_1 : decode prog_1_method_17_code 1 = .ok (.ifCond .lt 9, 3) := by decide +kernel
theorem dU_go_4 : decode prog_1_method_17_code 4 = .ok (.iload_n 1, 1) := by decide +kernel
theorem dU_go_5 : decode prog_1_method_17_code 5 = .ok (.bipush 40, 2) := by decide +kernel
theorem dU_go_7 : decode prog_1_method_17_code 7 = .ok (.if_icmp .le 5, 3) := by decide +kernel
theorem dU_go_10 : decode prog_1_method_17_code 10 = .ok (.iconst (-1), 1) := by decide +kernel
theorem dU_go_11 : decode prog_1_method_17_code 11 = .ok (.ireturn, 1) := by decide +kernel
theorem dU_go_12 : decode prog_1_method_17_code 12 = .ok (.aload_n 0, 1) := by decide +kernel
theorem dU_go_13 : decode prog_1_method_17_code 13 = .ok (.getfield 10, 3) := by decide +kernel
theorem dU_go_16 : decode prog_1_method_17_code 16 = .ok (.getfield 51, 3) := by decide +kernel
theorem dU_go_19 : decode prog_1_method_17_code 19 = .ok (.iload_n 1, 1) := by decide +kernel
theorem dU_go_20 : decode prog_1_method_17_code 20 = .ok (.iadd, 1) := by decide +kernel
theorem dU_go_21 : decode prog_1_method_17_code 21 = .ok (.sipush 260, 3) := by decide +kernel
theorem dU_go_24 : decode prog_1_method_17_code 24 = .ok (.invokestatic 188, 3) := by decide +kernel
theorem dU_go_27 : decode prog_1_method_17_code 27 = .ok (.istore_n 2, 1) := by decide +kernel
theorem dU_go_28 : decode prog_1_method_17_code 28 = .ok (.aload_n 0, 1) := by decide +kernel
theorem dU_go_29 : decode prog_1_method_17_code 29 = .ok (.getfield 10, 3) := by decide +kernel
theorem dU_go_32 : decode prog_1_method_17_code 32 = .ok (.getfield 51, 3) := by decide +kernel
theorem dU_go_35 : decode prog_1_method_17_code 35 = .ok (.iload_n 2, 1) := by decide +kernel
theorem dU_go_36 : decode prog_1_method_17_code 36 = .ok (.if_icmp .ge 15, 3) := by decide +kernel
theorem dU_go_39 : decode prog_1_method_17_code 39 = .ok (.aload_n 0, 1) := by decide +kernel
theorem dU_go_40 : decode prog_1_method_17_code 40 = .ok (.getfield 26, 3) := by decide +kernel
theorem dU_go_43 : decode prog_1_method_17_code 43 = .ok (.aload_n 0, 1) := by decide +kernel
theorem dU_go_44 : decode prog_1_method_17_code 44 = .ok (.getfield 10, 3) := by decide +kernel
theorem dU_go_47 : decode prog_1_method_17_code 47 = .ok (.iload_n 2, 1) := by decide +kernel
theorem dU_go_48 : decode prog_1_method_17_code 48 = .ok (.invokevirtual 194, 3) := by decide +kernel
theorem dU_go_51 : decode prog_1_method_17_code 51 = .ok (.aload_n 0, 1) := by decide +kernel
theorem dU_go_52 : decode prog_1_method_17_code 52 = .ok (.getfield 10, 3) := by decide +kernel
theorem dU_go_55 : decode prog_1_method_17_code 55 = .ok (.getfield 51, 3) := by decide +kernel
theorem dU_go_58 : decode prog_1_method_17_code 58 = .ok (.ireturn, 1) := by decide +kernel
theorem dU_gone_0 : decode prog_1_method_28_code 0 = .ok (.aload_n 0, 1) := by decide +kernel
theorem dU_gone_1 : decode prog_1_method_28_code 1 = .ok (.getfield 10, 3) := by decide +kernel
theorem dU_gone_4 : decode prog_1_method_28_code 4 = .ok (.iload_n 1, 1) := by decide +kernel
theorem dU_gone_5 : decode prog_1_method_28_code 5 = .ok (.invokevirtual 287, 3) := by decide +kernel
theorem dU_gone_8 : decode prog_1_method_28_code 8 = .ok (.ifCond .eq 16, 3) := by decide +kernel
theorem dU_gone_11 : decode prog_1_method_28_code 11 = .ok (.aload_n 0, 1) := by decide +kernel
theorem dU_gone_12 : decode prog_1_method_28_code 12 = .ok (.getfield 10, 3) := by decide +kernel
theorem dU_gone_15 : decode prog_1_method_28_code 15 = .ok (.getfield 290, 3) := by decide +kernel
theorem dU_gone_18 : decode prog_1_method_28_code 18 = .ok (.iload_n 1, 1) := by decide +kernel
theorem dU_gone_19 : decode prog_1_method_28_code 19 = .ok (.iaload, 1) := by decide +kernel
theorem dU_gone_20 : decode prog_1_method_28_code 20 = .ok (.iconst (-1), 1) := by decide +kernel
theorem dU_gone_21 : decode prog_1_method_28_code 21 = .ok (.if_icmp .eq 5, 3) := by decide +kernel
theorem dU_gone_24 : decode prog_1_method_28_code 24 = .ok (.iconst 0, 1) := by decide +kernel
theorem dU_gone_25 : decode prog_1_method_28_code 25 = .ok (.ireturn, 1) := by decide +kernel
theorem dU_gone_26 : decode prog_1_method_28_code 26 = .ok (.aload_n 0, 1) := by decide +kernel
theorem dU_gone_27 : decode prog_1_method_28_code 27 = .ok (.getfield 10, 3) := by decide +kernel
theorem dU_gone_30 : decode prog_1_method_28_code 30 = .ok (.getfield 290, 3) := by decide +kernel
theorem dU_gone_33 : decode prog_1_method_28_code 33 = .ok (.iload_n 1, 1) := by decide +kernel
theorem dU_gone_34 : decode prog_1_method_28_code 34 = .ok (.aload_n 0, 1) := by decide +kernel
theorem dU_gone_35 : decode prog_1_method_28_code 35 = .ok (.getfield 10, 3) := by decide +kernel
theorem dU_gone_38 : decode prog_1_method_28_code 38 = .ok (.getfield 51, 3) := by decide +kernel
theorem dU_gone_41 : decode prog_1_method_28_code 41 = .ok (.iastore, 1) := by decide +kernel
theorem dU_gone_42 : decode prog_1_method_28_code 42 = .ok (.iconst 1, 1) := by decide +kernel
theorem dU_gone_43 : decode prog_1_method_28_code 43 = .ok (.ireturn, 1) := by decide +kernel
theorem dU_holder_0 : decode prog_1_method_4_code 0 = .ok (.iload_n 1, 1) := by decide +kernel
theorem dU_holder_1 : decode prog_1_method_4_code 1 = .ok (.bipush (-11), 2) := by decide +kernel
theorem dU_holder_3 : decode prog_1_method_4_code 3 = .ok (.if_icmp .lt 21, 3) := by decide +kernel
theorem dU_holder_6 : decode prog_1_method_4_code 6 = .ok (.iload_n 1, 1) := by decide +kernel
theorem dU_holder_7 : decode prog_1_method_4_code 7 = .ok (.bipush 12, 2) := by decide +kernel
theorem dU_holder_9 : decode prog_1_method_4_code 9 = .ok (.if_icmp .gt 15, 3) := by decide +kernel
theorem dU_holder_12 : decode prog_1_method_4_code 12 = .ok (.aload_n 0, 1) := by decide +kernel
theorem dU_holder_13 : decode prog_1_method_4_code 13 = .ok (.getfield 10, 3) := by decide +kernel
theorem dU_holder_16 : decode prog_1_method_4_code 16 = .ok (.getfield 70, 3) := by decide +kernel
theorem dU_holder_19 : decode prog_1_method_4_code 19 = .ok (.bipush 16, 2) := by decide +kernel
theorem dU_holder_21 : decode prog_1_method_4_code 21 = .ok (.if_icmp .lt 5, 3) := by decide +kernel
theorem dU_holder_24 : decode prog_1_method_4_code 24 = .ok (.iconst (-1), 1) := by decide +kernel
theorem dU_holder_25 : decode prog_1_method_4_code 25 = .ok (.ireturn, 1) := by decide +kernel
theorem dU_holder_26 : decode prog_1_method_4_code 26 = .ok (.aload_n 0, 1) := by decide +kernel
theorem dU_holder_27 : decode prog_1_method_4_code 27 = .ok (.getfield 10, 3) := by decide +kernel
theorem dU_holder_30 : decode prog_1_method_4_code 30 = .ok (.getfield 70, 3) := by decide +kernel
theorem dU_holder_33 : decode prog_1_method_4_code 33 = .ok (.istore_n 2, 1) := by decide +kernel
theorem dU_holder_34 : decode prog_1_method_4_code 34 = .ok (.aload_n 0, 1) := by decide +kernel
theorem dU_holder_35 : decode prog_1_method_4_code 35 = .ok (.getfield 10, 3) := by decide +kernel
theorem dU_holder_38 : decode prog_1_method_4_code 38 = .ok (.getfield 73, 3) := by decide +kernel
theorem dU_holder_41 : decode prog_1_method_4_code 41 = .ok (.iload_n 2, 1) := by decide +kernel
theorem dU_holder_42 : decode prog_1_method_4_code 42 = .ok (.iload_n 1, 1) := by decide +kernel
theorem dU_holder_43 : decode prog_1_method_4_code 43 = .ok (.iastore, 1) := by decide +kernel
theorem dU_holder_44 : decode prog_1_method_4_code 44 = .ok (.aload_n 0, 1) := by decide +kernel
theorem dU_holder_45 : decode prog_1_method_4_code 45 = .ok (.getfield 10, 3) := by decide +kernel
theorem dU_holder_48 : decode prog_1_method_4_code 48 = .ok (.iload_n 2, 1) := by decide +kernel
theorem dU_holder_49 : decode prog_1_method_4_code 49 = .ok (.iconst 1, 1) := by decide +kernel
theorem dU_holder_50 : decode prog_1_method_4_code 50 = .ok (.iadd, 1) := by decide +kernel
theorem dU_holder_51 : decode prog_1_method_4_code 51 = .ok (.putfield 70, 3) := by decide +kernel
theorem dU_holder_54 : decode prog_1_method_4_code 54 = .ok (.iload_n 2, 1) := by decide +kernel
theorem dU_holder_55 : decode prog_1_method_4_code 55 = .ok (.ireturn, 1) := by decide +kernel
theorem dU_holiday_0 : decode prog_1_method_5_code 0 = .ok (.iload_n 1, 1) := by decide +kernel
theorem dU_holiday_1 : decode prog_1_method_5_code 1 = .ok (.aload_n 0, 1) := by decide +kernel
theorem dU_holiday_2 : decode prog_1_method_5_code 2 = .ok (.getfield 10, 3) := by decide +kernel
theorem dU_holiday_5 : decode prog_1_method_5_code 5 = .ok (.getfield 51, 3) := by decide +kernel
theorem dU_holiday_8 : decode prog_1_method_5_code 8 = .ok (.if_icmp .le 22, 3) := by decide +kernel
theorem dU_holiday_11 : decode prog_1_method_5_code 11 = .ok (.iload_n 1, 1) := by decide +kernel
theorem dU_holiday_12 : decode prog_1_method_5_code 12 = .ok (.sipush 260, 3) := by decide +kernel
theorem dU_holiday_15 : decode prog_1_method_5_code 15 = .ok (.if_icmp .ge 15, 3) := by decide +kernel
theorem dU_holiday_18 : decode prog_1_method_5_code 18 = .ok (.aload_n 0, 1) := by decide +kernel
theorem dU_holiday_19 : decode prog_1_method_5_code 19 = .ok (.getfield 10, 3) := by decide +kernel
theorem dU_holiday_22 : decode prog_1_method_5_code 22 = .ok (.getfield 76, 3) := by decide +kernel
theorem dU_holiday_25 : decode prog_1_method_5_code 25 = .ok (.iload_n 1, 1) := by decide +kernel
theorem dU_holiday_26 : decode prog_1_method_5_code 26 = .ok (.baload, 1) := by decide +kernel
theorem dU_holiday_27 : decode prog_1_method_5_code 27 = .ok (.ifCond .eq 5, 3) := by decide +kernel
theorem dU_holiday_30 : decode prog_1_method_5_code 30 = .ok (.iconst 0, 1) := by decide +kernel
theorem dU_holiday_31 : decode prog_1_method_5_code 31 = .ok (.ireturn, 1) := by decide +kernel
theorem dU_holiday_32 : decode prog_1_method_5_code 32 = .ok (.aload_n 0, 1) := by decide +kernel
theorem dU_holiday_33 : decode prog_1_method_5_code 33 = .ok (.getfield 10, 3) := by decide +kernel
theorem dU_holiday_36 : decode prog_1_method_5_code 36 = .ok (.getfield 76, 3) := by decide +kernel
theorem dU_holiday_39 : decode prog_1_method_5_code 39 = .ok (.iload_n 1, 1) := by decide +kernel
theorem dU_holiday_40 : decode prog_1_method_5_code 40 = .ok (.iconst 1, 1) := by decide +kernel
theorem dU_holiday_41 : decode prog_1_method_5_code 41 = .ok (.bastore, 1) := by decide +kernel
theorem dU_holiday_42 : decode prog_1_method_5_code 42 = .ok (.aload_n 0, 1) := by decide +kernel
theorem dU_holiday_43 : decode prog_1_method_5_code 43 = .ok (.getfield 10, 3) := by decide +kernel
theorem dU_holiday_46 : decode prog_1_method_5_code 46 = .ok (.dup, 1) := by decide +kernel
theorem dU_holiday_47 : decode prog_1_method_5_code 47 = .ok (.getfield 80, 3) := by decide +kernel
theorem dU_holiday_50 : decode prog_1_method_5_code 50 = .ok (.iconst 1, 1) := by decide +kernel
theorem dU_holiday_51 : decode prog_1_method_5_code 51 = .ok (.iadd, 1) := by decide +kernel
theorem dU_holiday_52 : decode prog_1_method_5_code 52 = .ok (.putfield 80, 3) := by decide +kernel
theorem dU_holiday_55 : decode prog_1_method_5_code 55 = .ok (.iconst 1, 1) := by decide +kernel
theorem dU_holiday_56 : decode prog_1_method_5_code 56 = .ok (.ireturn, 1) := by decide +kernel
theorem dU_house_0 : decode prog_1_method_25_code 0 = .ok (.aload_n 0, 1) := by decide +kernel
theorem dU_house_1 : decode prog_1_method_25_code 1 = .ok (.getfield 10, 3) := by decide +kernel
theorem dU_house_4 : decode prog_1_method_25_code 4 = .ok (.iload_n 1, 1) := by decide +kernel
theorem dU_house_5 : decode prog_1_method_25_code 5 = .ok (.invokevirtual 128, 3) := by decide +kernel
theorem dU_house_8 : decode prog_1_method_25_code 8 = .ok (.ifCond .eq 18, 3) := by decide +kernel
theorem dU_house_11 : decode prog_1_method_25_code 11 = .ok (.iload_n 2, 1) := by decide +kernel
theorem dU_house_12 : decode prog_1_method_25_code 12 = .ok (.ifCond .lt 14, 3) := by decide +kernel
theorem dU_house_15 : decode prog_1_method_25_code 15 = .ok (.iload_n 2, 1) := by decide +kernel
theorem dU_house_16 : decode prog_1_method_25_code 16 = .ok (.aload_n 0, 1) := by decide +kernel
theorem dU_house_17 : decode prog_1_method_25_code 17 = .ok (.getfield 10, 3) := by decide +kernel
theorem dU_house_20 : decode prog_1_method_25_code 20 = .ok (.invokevirtual 207, 3) := by decide +kernel
theorem dU_house_23 : decode prog_1_method_25_code 23 = .ok (.if_icmp .le 6, 3) := by decide +kernel
theorem dU_house_26 : decode prog_1_method_25_code 26 = .ok (.ldc 117, 2) := by decide +kernel
theorem dU_house_28 : decode prog_1_method_25_code 28 = .ok (.ireturn, 1) := by decide +kernel
theorem dU_house_29 : decode prog_1_method_25_code 29 = .ok (.aload_n 0, 1) := by decide +kernel
theorem dU_house_30 : decode prog_1_method_25_code 30 = .ok (.getfield 26, 3) := by decide +kernel
theorem dU_house_33 : decode prog_1_method_25_code 33 = .ok (.aload_n 0, 1) := by decide +kernel
theorem dU_house_34 : decode prog_1_method_25_code 34 = .ok (.getfield 10, 3) := by decide +kernel
theorem dU_house_37 : decode prog_1_method_25_code 37 = .ok (.iload_n 2, 1) := by decide +kernel
theorem dU_house_38 : decode prog_1_method_25_code 38 = .ok (.invokevirtual 210, 3) := by decide +kernel
theorem dU_house_41 : decode prog_1_method_25_code 41 = .ok (.aload_n 0, 1) := by decide +kernel
theorem dU_house_42 : decode prog_1_method_25_code 42 = .ok (.getfield 33, 3) := by decide +kernel
theorem dU_house_45 : decode prog_1_method_25_code 45 = .ok (.aload_n 0, 1) := by decide +kernel
theorem dU_house_46 : decode prog_1_method_25_code 46 = .ok (.getfield 10, 3) := by decide +kernel
theorem dU_house_49 : decode prog_1_method_25_code 49 = .ok (.aload_n 0, 1) := by decide +kernel
theorem dU_house_50 : decode prog_1_method_25_code 50 = .ok (.getfield 26, 3) := by decide +kernel
theorem dU_house_53 : decode prog_1_method_25_code 53 = .ok (.iload_n 1, 1) := by decide +kernel
theorem dU_house_54 : decode prog_1_method_25_code 54 = .ok (.iload_n 2, 1) := by decide +kernel
theorem dU_house_55 : decode prog_1_method_25_code 55 = .ok (.invokevirtual 240, 3) := by decide +kernel
theorem dU_house_58 : decode prog_1_method_25_code 58 = .ok (.aload_n 0, 1) := by decide +kernel
theorem dU_house_59 : decode prog_1_method_25_code 59 = .ok (.getfield 33, 3) := by decide +kernel
theorem dU_house_62 : decode prog_1_method_25_code 62 = .ok (.aload_n 0, 1) := by decide +kernel
theorem dU_house_63 : decode prog_1_method_25_code 63 = .ok (.getfield 10, 3) := by decide +kernel
theorem dU_house_66 : decode prog_1_method_25_code 66 = .ok (.aload_n 0, 1) := by decide +kernel
theorem dU_house_67 : decode prog_1_method_25_code 67 = .ok (.getfield 26, 3) := by decide +kernel
theorem dU_house_70 : decode prog_1_method_25_code 70 = .ok (.invokevirtual 257, 3) := by decide +kernel
theorem dU_house_73 : decode prog_1_method_25_code 73 = .ok (.invokestatic 219, 3) := by decide +kernel
theorem dU_house_76 : decode prog_1_method_25_code 76 = .ok (.ireturn, 1) := by decide +kernel
theorem dU_isBooked_0 : decode prog_1_method_43_code 0 = .ok (.aload_n 0, 1) := by decide +kernel
theorem dU_isBooked_1 : decode prog_1_method_43_code 1 = .ok (.getfield 10, 3) := by decide +kernel
theorem dU_isBooked_4 : decode prog_1_method_43_code 4 = .ok (.iload_n 1, 1) := by decide +kernel
theorem dU_isBooked_5 : decode prog_1_method_43_code 5 = .ok (.invokevirtual 128, 3) := by decide +kernel
theorem dU_isBooked_8 : decode prog_1_method_43_code 8 = .ok (.ifCond .eq 29, 3) := by decide +kernel
theorem dU_isBooked_11 : decode prog_1_method_43_code 11 = .ok (.iload_n 2, 1) := by decide +kernel
theorem dU_isBooked_12 : decode prog_1_method_43_code 12 = .ok (.aload_n 0, 1) := by decide +kernel
theorem dU_isBooked_13 : decode prog_1_method_43_code 13 = .ok (.getfield 10, 3) := by decide +kernel
theorem dU_isBooked_16 : decode prog_1_method_43_code 16 = .ok (.getfield 51, 3) := by decide +kernel
theorem dU_isBooked_19 : decode prog_1_method_43_code 19 = .ok (.if_icmp .ge 18, 3) := by decide +kernel
theorem dU_isBooked_22 : decode prog_1_method_43_code 22 = .ok (.aload_n 0, 1) := by decide +kernel
theorem dU_isBooked_23 : decode prog_1_method_43_code 23 = .ok (.getfield 10, 3) := by decide +kernel
theorem dU_isBooked_26 : decode prog_1_method_43_code 26 = .ok (.iload_n 2, 1) := by decide +kernel
theorem dU_isBooked_27 : decode prog_1_method_43_code 27 = .ok (.invokevirtual 83, 3) := by decide +kernel
theorem dU_isBooked_30 : decode prog_1_method_43_code 30 = .ok (.ifCond .eq 7, 3) := by decide +kernel
theorem dU_isBooked_33 : decode prog_1_method_43_code 33 = .ok (.iconst 1, 1) := by decide +kernel
theorem dU_isBooked_34 : decode prog_1_method_43_code 34 = .ok (.goto 4, 3) := by decide +kernel
theorem dU_isBooked_37 : decode prog_1_method_43_code 37 = .ok (.iconst 0, 1) := by decide +kernel
theorem dU_isBooked_38 : decode prog_1_method_43_code 38 = .ok (.ireturn, 1) := by decide +kernel
theorem dU_isDay_0 : decode prog_1_method_44_code 0 = .ok (.iload_n 0, 1) := by decide +kernel
theorem dU_isDay_1 : decode prog_1_method_44_code 1 = .ok (.ifCond .lt 14, 3) := by decide +kernel
theorem dU_isDay_4 : decode prog_1_method_44_code 4 = .ok (.iload_n 0, 1) := by decide +kernel
theorem dU_isDay_5 : decode prog_1_method_44_code 5 = .ok (.sipush 260, 3) := by decide +kernel
theorem dU_isDay_8 : decode prog_1_method_44_code 8 = .ok (.if_icmp .ge 7, 3) := by decide +kernel
theorem dU_isDay_11 : decode prog_1_method_44_code 11 = .ok (.iconst 1, 1) := by decide +kernel
theorem dU_isDay_12 : decode prog_1_method_44_code 12 = .ok (.goto 4, 3) := by decide +kernel
theorem dU_isDay_15 : decode prog_1_method_44_code 15 = .ok (.iconst 0, 1) := by decide +kernel
theorem dU_isDay_16 : decode prog_1_method_44_code 16 = .ok (.ireturn, 1) := by decide +kernel
theorem dU_isSubject_0 : decode prog_1_method_48_code 0 = .ok (.iload_n 0, 1) := by decide +kernel
theorem dU_isSubject_1 : decode prog_1_method_48_code 1 = .ok (.tableswitch 63 0 3 #[31, 47, 31, 31], 31) := by decide +kernel
theorem dU_isSubject_32 : decode prog_1_method_48_code 32 = .ok (.iload_n 1, 1) := by decide +kernel
theorem dU_isSubject_33 : decode prog_1_method_48_code 33 = .ok (.ifCond .lt 13, 3) := by decide +kernel
theorem dU_isSubject_36 : decode prog_1_method_48_code 36 = .ok (.iload_n 1, 1) := by decide +kernel
theorem dU_isSubject_37 : decode prog_1_method_48_code 37 = .ok (.bipush 8, 2) := by decide +kernel
theorem dU_isSubject_39 : decode prog_1_method_48_code 39 = .ok (.if_icmp .ge 7, 3) := by decide +kernel
theorem dU_isSubject_42 : decode prog_1_method_48_code 42 = .ok (.iconst 1, 1) := by decide +kernel
theorem dU_isSubject_43 : decode prog_1_method_48_code 43 = .ok (.goto 4, 3) := by decide +kernel
theorem dU_isSubject_46 : decode prog_1_method_48_code 46 = .ok (.iconst 0, 1) := by decide +kernel
theorem dU_isSubject_47 : decode prog_1_method_48_code 47 = .ok (.ireturn, 1) := by decide +kernel
theorem dU_isSubject_48 : decode prog_1_method_48_code 48 = .ok (.iload_n 1, 1) := by decide +kernel
theorem dU_isSubject_49 : decode prog_1_method_48_code 49 = .ok (.iconst 1, 1) := by decide +kernel
theorem dU_isSubject_50 : decode prog_1_method_48_code 50 = .ok (.if_icmp .lt 12, 3) := by decide +kernel
theorem dU_isSubject_53 : decode prog_1_method_48_code 53 = .ok (.iload_n 1, 1) := by decide +kernel
theorem dU_isSubject_54 : decode prog_1_method_48_code 54 = .ok (.iconst 3, 1) := by decide +kernel
theorem dU_isSubject_55 : decode prog_1_method_48_code 55 = .ok (.if_icmp .ge 7, 3) := by decide +kernel
theorem dU_isSubject_58 : decode prog_1_method_48_code 58 = .ok (.iconst 1, 1) := by decide +kernel
theorem dU_isSubject_59 : decode prog_1_method_48_code 59 = .ok (.goto 4, 3) := by decide +kernel
theorem dU_isSubject_62 : decode prog_1_method_48_code 62 = .ok (.iconst 0, 1) := by decide +kernel
theorem dU_isSubject_63 : decode prog_1_method_48_code 63 = .ok (.ireturn, 1) := by decide +kernel
theorem dU_isSubject_64 : decode prog_1_method_48_code 64 = .ok (.iconst 0, 1) := by decide +kernel
theorem dU_isSubject_65 : decode prog_1_method_48_code 65 = .ok (.ireturn, 1) := by decide +kernel
theorem dU_isWithin_0 : decode prog_1_method_45_code 0 = .ok (.iload_n 0, 1) := by decide +kernel
theorem dU_isWithin_1 : decode prog_1_method_45_code 1 = .ok (.iload_n 1, 1) := by decide +kernel
theorem dU_isWithin_2 : decode prog_1_method_45_code 2 = .ok (.ineg, 1) := by decide +kernel
theorem dU_isWithin_3 : decode prog_1_method_45_code 3 = .ok (.if_icmp .lt 12, 3) := by decide +kernel
theorem dU_isWithin_6 : decode prog_1_method_45_code 6 = .ok (.iload_n 0, 1) := by decide +kernel
theorem dU_isWithin_7 : decode prog_1_method_45_code 7 = .ok (.iload_n 1, 1) := by decide +kernel
theorem dU_isWithin_8 : decode prog_1_method_45_code 8 = .ok (.if_icmp .gt 7, 3) := by decide +kernel
theorem dU_isWithin_11 : decode prog_1_method_45_code 11 = .ok (.iconst 1, 1) := by decide +kernel
theorem dU_isWithin_12 : decode prog_1_method_45_code 12 = .ok (.goto 4, 3) := by decide +kernel
theorem dU_isWithin_15 : decode prog_1_method_45_code 15 = .ok (.iconst 0, 1) := by decide +kernel
theorem dU_isWithin_16 : decode prog_1_method_45_code 16 = .ok (.ireturn, 1) := by decide +kernel
theorem dU_known_0 : decode prog_1_method_8_code 0 = .ok (.iload_n 1, 1) := by decide +kernel
theorem dU_known_1 : decode prog_1_method_8_code 1 = .ok (.iload_n 2, 1) := by decide +kernel
theorem dU_known_2 : decode prog_1_method_8_code 2 = .ok (.invokestatic 110, 3) := by decide +kernel
theorem dU_known_5 : decode prog_1_method_8_code 5 = .ok (.ifCond .eq 18, 3) := by decide +kernel
theorem dU_known_8 : decode prog_1_method_8_code 8 = .ok (.iload_n 3, 1) := by decide +kernel
theorem dU_known_9 : decode prog_1_method_8_code 9 = .ok (.invokestatic 114, 3) := by decide +kernel
theorem dU_known_12 : decode prog_1_method_8_code 12 = .ok (.ifCond .eq 11, 3) := by decide +kernel
theorem dU_known_15 : decode prog_1_method_8_code 15 = .ok (.iload 4, 2) := by decide +kernel
theorem dU_known_17 : decode prog_1_method_8_code 17 = .ok (.invokestatic 114, 3) := by decide +kernel
theorem dU_known_20 : decode prog_1_method_8_code 20 = .ok (.ifCond .ne 6, 3) := by decide +kernel
theorem dU_known_23 : decode prog_1_method_8_code 23 = .ok (.ldc 117, 2) := by decide +kernel
theorem dU_known_25 : decode prog_1_method_8_code 25 = .ok (.ireturn, 1) := by decide +kernel
theorem dU_known_26 : decode prog_1_method_8_code 26 = .ok (.aload_n 0, 1) := by decide +kernel
theorem dU_known_27 : decode prog_1_method_8_code 27 = .ok (.getfield 10, 3) := by decide +kernel
theorem dU_known_30 : decode prog_1_method_8_code 30 = .ok (.getfield 91, 3) := by decide +kernel
theorem dU_known_33 : decode prog_1_method_8_code 33 = .ok (.iload_n 1, 1) := by decide +kernel
theorem dU_known_34 : decode prog_1_method_8_code 34 = .ok (.iload_n 2, 1) := by decide +kernel
theorem dU_known_35 : decode prog_1_method_8_code 35 = .ok (.iload_n 3, 1) := by decide +kernel
theorem dU_known_36 : decode prog_1_method_8_code 36 = .ok (.iload 4, 2) := by decide +kernel
theorem dU_known_38 : decode prog_1_method_8_code 38 = .ok (.invokevirtual 118, 3) := by decide +kernel
theorem dU_known_41 : decode prog_1_method_8_code 41 = .ok (.istore 5, 2) := by decide +kernel
theorem dU_known_43 : decode prog_1_method_8_code 43 = .ok (.iload 5, 2) := by decide +kernel
theorem dU_known_45 : decode prog_1_method_8_code 45 = .ok (.iconst (-1), 1) := by decide +kernel
theorem dU_known_46 : decode prog_1_method_8_code 46 = .ok (.if_icmp .eq 17, 3) := by decide +kernel
theorem dU_known_49 : decode prog_1_method_8_code 49 = .ok (.aload_n 0, 1) := by decide +kernel
theorem dU_known_50 : decode prog_1_method_8_code 50 = .ok (.getfield 10, 3) := by decide +kernel
theorem dU_known_53 : decode prog_1_method_8_code 53 = .ok (.getfield 91, 3) := by decide +kernel
theorem dU_known_56 : decode prog_1_method_8_code 56 = .ok (.getfield 122, 3) := by decide +kernel
theorem dU_known_59 : decode prog_1_method_8_code 59 = .ok (.iload 5, 2) := by decide +kernel
theorem dU_known_61 : decode prog_1_method_8_code 61 = .ok (.iaload, 1) := by decide +kernel
theorem dU_known_62 : decode prog_1_method_8_code 62 = .ok (.ireturn, 1) := by decide +kernel
theorem dU_known_63 : decode prog_1_method_8_code 63 = .ok (.iload_n 1, 1) := by decide +kernel
theorem dU_known_64 : decode prog_1_method_8_code 64 = .ok (.ifCond .eq 8, 3) := by decide +kernel
theorem dU_known_67 : decode prog_1_method_8_code 67 = .ok (.iload_n 1, 1) := by decide +kernel
theorem dU_known_68 : decode prog_1_method_8_code 68 = .ok (.iconst 2, 1) := by decide +kernel
theorem dU_known_69 : decode prog_1_method_8_code 69 = .ok (.if_icmp .ne 7, 3) := by decide +kernel
theorem dU_known_72 : decode prog_1_method_8_code 72 = .ok (.iconst 0, 1) := by decide +kernel
theorem dU_known_73 : decode prog_1_method_8_code 73 = .ok (.goto 6, 3) := by decide +kernel
theorem dU_known_76 : decode prog_1_method_8_code 76 = .ok (.sipush 1000, 3) := by decide +kernel
theorem dU_known_79 : decode prog_1_method_8_code 79 = .ok (.ireturn, 1) := by decide +kernel
theorem dU_open_0 : decode prog_1_method_6_code 0 = .ok (.aload_n 0, 1) := by decide +kernel
theorem dU_open_1 : decode prog_1_method_6_code 1 = .ok (.getfield 10, 3) := by decide +kernel
theorem dU_open_4 : decode prog_1_method_6_code 4 = .ok (.iload_n 1, 1) := by decide +kernel
theorem dU_open_5 : decode prog_1_method_6_code 5 = .ok (.invokevirtual 83, 3) := by decide +kernel
theorem dU_open_8 : decode prog_1_method_6_code 8 = .ok (.ireturn, 1) := by decide +kernel
theorem dU_paper_0 : decode prog_1_method_2_code 0 = .ok (.iload_n 1, 1) := by decide +kernel
theorem dU_paper_1 : decode prog_1_method_2_code 1 = .ok (.ifCond .lt 28, 3) := by decide +kernel
theorem dU_paper_4 : decode prog_1_method_2_code 4 = .ok (.iload_n 1, 1) := by decide +kernel
theorem dU_paper_5 : decode prog_1_method_2_code 5 = .ok (.bipush 8, 2) := by decide +kernel
theorem dU_paper_7 : decode prog_1_method_2_code 7 = .ok (.if_icmp .ge 22, 3) := by decide +kernel
theorem dU_paper_10 : decode prog_1_method_2_code 10 = .ok (.iload_n 2, 1) := by decide +kernel
theorem dU_paper_11 : decode prog_1_method_2_code 11 = .ok (.ifCond .lt 18, 3) := by decide +kernel
theorem dU_paper_14 : decode prog_1_method_2_code 14 = .ok (.iload_n 2, 1) := by decide +kernel
theorem dU_paper_15 : decode prog_1_method_2_code 15 = .ok (.iconst 3, 1) := by decide +kernel
theorem dU_paper_16 : decode prog_1_method_2_code 16 = .ok (.if_icmp .ge 13, 3) := by decide +kernel
theorem dU_paper_19 : decode prog_1_method_2_code 19 = .ok (.aload_n 0, 1) := by decide +kernel
theorem dU_paper_20 : decode prog_1_method_2_code 20 = .ok (.getfield 10, 3) := by decide +kernel
theorem dU_paper_23 : decode prog_1_method_2_code 23 = .ok (.getfield 51, 3) := by decide +kernel
theorem dU_paper_26 : decode prog_1_method_2_code 26 = .ok (.ifCond .eq 5, 3) := by decide +kernel
theorem dU_paper_29 : decode prog_1_method_2_code 29 = .ok (.iconst 0, 1) := by decide +kernel
theorem dU_paper_30 : decode prog_1_method_2_code 30 = .ok (.ireturn, 1) := by decide +kernel
theorem dU_paper_31 : decode prog_1_method_2_code 31 = .ok (.aload_n 0, 1) := by decide +kernel
theorem dU_paper_32 : decode prog_1_method_2_code 32 = .ok (.getfield 10, 3) := by decide +kernel
theorem dU_paper_35 : decode prog_1_method_2_code 35 = .ok (.getfield 55, 3) := by decide +kernel
theorem dU_paper_38 : decode prog_1_method_2_code 38 = .ok (.iload_n 1, 1) := by decide +kernel
theorem dU_paper_39 : decode prog_1_method_2_code 39 = .ok (.iload_n 2, 1) := by decide +kernel
theorem dU_paper_40 : decode prog_1_method_2_code 40 = .ok (.iastore, 1) := by decide +kernel
theorem dU_paper_41 : decode prog_1_method_2_code 41 = .ok (.iconst 1, 1) := by decide +kernel
theorem dU_paper_42 : decode prog_1_method_2_code 42 = .ok (.ireturn, 1) := by decide +kernel
theorem dU_payment_0 : decode prog_1_method_40_code 0 = .ok (.aload_n 0, 1) := by decide +kernel
theorem dU_payment_1 : decode prog_1_method_40_code 1 = .ok (.getfield 10, 3) := by decide +kernel
theorem dU_payment_4 : decode prog_1_method_40_code 4 = .ok (.iload_n 1, 1) := by decide +kernel
theorem dU_payment_5 : decode prog_1_method_40_code 5 = .ok (.invokevirtual 128, 3) := by decide +kernel
theorem dU_payment_8 : decode prog_1_method_40_code 8 = .ok (.ifCond .ne 6, 3) := by decide +kernel
theorem dU_payment_11 : decode prog_1_method_40_code 11 = .ok (.ldc 117, 2) := by decide +kernel
theorem dU_payment_13 : decode prog_1_method_40_code 13 = .ok (.ireturn, 1) := by decide +kernel
theorem dU_payment_14 : decode prog_1_method_40_code 14 = .ok (.aload_n 0, 1) := by decide +kernel
theorem dU_payment_15 : decode prog_1_method_40_code 15 = .ok (.iload_n 1, 1) := by decide +kernel
theorem dU_payment_16 : decode prog_1_method_40_code 16 = .ok (.invokevirtual 336, 3) := by decide +kernel
theorem dU_payment_19 : decode prog_1_method_40_code 19 = .ok (.aload_n 0, 1) := by decide +kernel
theorem dU_payment_20 : decode prog_1_method_40_code 20 = .ok (.getfield 40, 3) := by decide +kernel
theorem dU_payment_23 : decode prog_1_method_40_code 23 = .ok (.aload_n 0, 1) := by decide +kernel
theorem dU_payment_24 : decode prog_1_method_40_code 24 = .ok (.getfield 33, 3) := by decide +kernel
theorem dU_payment_27 : decode prog_1_method_40_code 27 = .ok (.getfield 339, 3) := by decide +kernel
theorem dU_payment_30 : decode prog_1_method_40_code 30 = .ok (.invokevirtual 342, 3) := by decide +kernel
theorem dU_payment_33 : decode prog_1_method_40_code 33 = .ok (.ifCond .eq 18, 3) := by decide +kernel
theorem dU_payment_36 : decode prog_1_method_40_code 36 = .ok (.iload_n 2, 1) := by decide +kernel
theorem dU_payment_37 : decode prog_1_method_40_code 37 = .ok (.ifCond .lt 14, 3) := by decide +kernel
theorem dU_payment_40 : decode prog_1_method_40_code 40 = .ok (.iload_n 2, 1) := by decide +kernel
theorem dU_payment_41 : decode prog_1_method_40_code 41 = .ok (.aload_n 0, 1) := by decide +kernel
theorem dU_payment_42 : decode prog_1_method_40_code 42 = .ok (.getfield 40, 3) := by decide +kernel
theorem dU_payment_45 : decode prog_1_method_40_code 45 = .ok (.getfield 346, 3) := by decide +kernel
theorem dU_payment_48 : decode prog_1_method_40_code 48 = .ok (.if_icmp .lt 6, 3) := by decide +kernel
theorem dU_payment_51 : decode prog_1_method_40_code 51 = .ok (.ldc 117, 2) := by decide +kernel
theorem dU_payment_53 : decode prog_1_method_40_code 53 = .ok (.ireturn, 1) := by decide +kernel
theorem dU_payment_54 : decode prog_1_method_40_code 54 = .ok (.iload_n 3, 1) := by decide +kernel
theorem dU_payment_55 : decode prog_1_method_40_code 55 = .ok (.tableswitch 58 0 2 #[25, 35, 45], 25) := by decide +kernel
theorem dU_payment_80 : decode prog_1_method_40_code 80 = .ok (.aload_n 0, 1) := by decide +kernel
theorem dU_payment_81 : decode prog_1_method_40_code 81 = .ok (.getfield 40, 3) := by decide +kernel
theorem dU_payment_84 : decode prog_1_method_40_code 84 = .ok (.getfield 347, 3) := by decide +kernel
theorem dU_payment_87 : decode prog_1_method_40_code 87 = .ok (.iload_n 2, 1) := by decide +kernel
theorem dU_payment_88 : decode prog_1_method_40_code 88 = .ok (.iaload, 1) := by decide +kernel
theorem dU_payment_89 : decode prog_1_method_40_code 89 = .ok (.ireturn, 1) := by decide +kernel
theorem dU_payment_90 : decode prog_1_method_40_code 90 = .ok (.aload_n 0, 1) := by decide +kernel
theorem dU_payment_91 : decode prog_1_method_40_code 91 = .ok (.getfield 40, 3) := by decide +kernel
theorem dU_payment_94 : decode prog_1_method_40_code 94 = .ok (.getfield 350, 3) := by decide +kernel
theorem dU_payment_97 : decode prog_1_method_40_code 97 = .ok (.iload_n 2, 1) := by decide +kernel
theorem dU_payment_98 : decode prog_1_method_40_code 98 = .ok (.iaload, 1) := by decide +kernel
theorem dU_payment_99 : decode prog_1_method_40_code 99 = .ok (.ireturn, 1) := by decide +kernel
theorem dU_payment_100 : decode prog_1_method_40_code 100 = .ok (.aload_n 0, 1) := by decide +kernel
theorem dU_payment_101 : decode prog_1_method_40_code 101 = .ok (.getfield 40, 3) := by decide +kernel
theorem dU_payment_104 : decode prog_1_method_40_code 104 = .ok (.getfield 353, 3) := by decide +kernel
theorem dU_payment_107 : decode prog_1_method_40_code 107 = .ok (.iload_n 2, 1) := by decide +kernel
theorem dU_payment_108 : decode prog_1_method_40_code 108 = .ok (.laload, 1) := by decide +kernel
theorem dU_payment_109 : decode prog_1_method_40_code 109 = .ok (.invokestatic 219, 3) := by decide +kernel
theorem dU_payment_112 : decode prog_1_method_40_code 112 = .ok (.ireturn, 1) := by decide +kernel
theorem dU_payment_113 : decode prog_1_method_40_code 113 = .ok (.ldc 117, 2) := by decide +kernel
theorem dU_payment_115 : decode prog_1_method_40_code 115 = .ok (.ireturn, 1) := by decide +kernel
theorem dU_payments_0 : decode prog_1_method_39_code 0 = .ok (.aload_n 0, 1) := by decide +kernel
theorem dU_payments_1 : decode prog_1_method_39_code 1 = .ok (.getfield 10, 3) := by decide +kernel
theorem dU_payments_4 : decode prog_1_method_39_code 4 = .ok (.iload_n 1, 1) := by decide +kernel
theorem dU_payments_5 : decode prog_1_method_39_code 5 = .ok (.invokevirtual 128, 3) := by decide +kernel
theorem dU_payments_8 : decode prog_1_method_39_code 8 = .ok (.ifCond .ne 5, 3) := by decide +kernel
theorem dU_payments_11 : decode prog_1_method_39_code 11 = .ok (.iconst (-1), 1) := by decide +kernel
theorem dU_payments_12 : decode prog_1_method_39_code 12 = .ok (.ireturn, 1) := by decide +kernel
theorem dU_payments_13 : decode prog_1_method_39_code 13 = .ok (.aload_n 0, 1) := by decide +kernel
theorem dU_payments_14 : decode prog_1_method_39_code 14 = .ok (.iload_n 1, 1) := by decide +kernel
theorem dU_payments_15 : decode prog_1_method_39_code 15 = .ok (.invokevirtual 336, 3) := by decide +kernel
theorem dU_payments_18 : decode prog_1_method_39_code 18 = .ok (.aload_n 0, 1) := by decide +kernel
theorem dU_payments_19 : decode prog_1_method_39_code 19 = .ok (.getfield 40, 3) := by decide +kernel
theorem dU_payments_22 : decode prog_1_method_39_code 22 = .ok (.aload_n 0, 1) := by decide +kernel
theorem dU_payments_23 : decode prog_1_method_39_code 23 = .ok (.getfield 33, 3) := by decide +kernel
theorem dU_payments_26 : decode prog_1_method_39_code 26 = .ok (.getfield 339, 3) := by decide +kernel
theorem dU_payments_29 : decode prog_1_method_39_code 29 = .ok (.invokevirtual 342, 3) := by decide +kernel
theorem dU_payments_32 : decode prog_1_method_39_code 32 = .ok (.ifCond .eq 13, 3) := by decide +kernel
theorem dU_payments_35 : decode prog_1_method_39_code 35 = .ok (.aload_n 0, 1) := by decide +kernel
theorem dU_payments_36 : decode prog_1_method_39_code 36 = .ok (.getfield 40, 3) := by decide +kernel
theorem dU_payments_39 : decode prog_1_method_39_code 39 = .ok (.getfield 346, 3) := by decide +kernel
theorem dU_payments_42 : decode prog_1_method_39_code 42 = .ok (.goto 4, 3) := by decide +kernel
theorem dU_payments_45 : decode prog_1_method_39_code 45 = .ok (.iconst (-1), 1) := by decide +kernel
theorem dU_payments_46 : decode prog_1_method_39_code 46 = .ok (.ireturn, 1) := by decide +kernel
theorem dU_right_0 : decode prog_1_method_19_code 0 = .ok (.aload_n 0, 1) := by decide +kernel
theorem dU_right_1 : decode prog_1_method_19_code 1 = .ok (.iload_n 1, 1) := by decide +kernel
theorem dU_right_2 : decode prog_1_method_19_code 2 = .ok (.iload_n 2, 1) := by decide +kernel
theorem dU_right_3 : decode prog_1_method_19_code 3 = .ok (.invokevirtual 198, 3) := by decide +kernel
theorem dU_right_6 : decode prog_1_method_19_code 6 = .ok (.ifCond .eq 19, 3) := by decide +kernel
theorem dU_right_9 : decode prog_1_method_19_code 9 = .ok (.iload_n 3, 1) := by decide +kernel
theorem dU_right_10 : decode prog_1_method_19_code 10 = .ok (.iload_n 2, 1) := by decide +kernel
theorem dU_right_11 : decode prog_1_method_19_code 11 = .ok (.if_icmp .lt 14, 3) := by decide +kernel
theorem dU_right_14 : decode prog_1_method_19_code 14 = .ok (.iload_n 3, 1) := by decide +kernel
theorem dU_right_15 : decode prog_1_method_19_code 15 = .ok (.aload_n 0, 1) := by decide +kernel
theorem dU_right_16 : decode prog_1_method_19_code 16 = .ok (.getfield 10, 3) := by decide +kernel
theorem dU_right_19 : decode prog_1_method_19_code 19 = .ok (.invokevirtual 207, 3) := by decide +kernel
theorem dU_right_22 : decode prog_1_method_19_code 22 = .ok (.if_icmp .le 5, 3) := by decide +kernel
theorem dU_right_25 : decode prog_1_method_19_code 25 = .ok (.iconst (-1), 1) := by decide +kernel
theorem dU_right_26 : decode prog_1_method_19_code 26 = .ok (.ireturn, 1) := by decide +kernel
theorem dU_right_27 : decode prog_1_method_19_code 27 = .ok (.aload_n 0, 1) := by decide +kernel
theorem dU_right_28 : decode prog_1_method_19_code 28 = .ok (.getfield 26, 3) := by decide +kernel
theorem dU_right_31 : decode prog_1_method_19_code 31 = .ok (.aload_n 0, 1) := by decide +kernel
theorem dU_right_32 : decode prog_1_method_19_code 32 = .ok (.getfield 10, 3) := by decide +kernel
theorem dU_right_35 : decode prog_1_method_19_code 35 = .ok (.iload_n 3, 1) := by decide +kernel
theorem dU_right_36 : decode prog_1_method_19_code 36 = .ok (.invokevirtual 210, 3) := by decide +kernel
theorem dU_right_39 : decode prog_1_method_19_code 39 = .ok (.aload_n 0, 1) := by decide +kernel
theorem dU_right_40 : decode prog_1_method_19_code 40 = .ok (.getfield 26, 3) := by decide +kernel
theorem dU_right_43 : decode prog_1_method_19_code 43 = .ok (.getfield 213, 3) := by decide +kernel
theorem dU_right_46 : decode prog_1_method_19_code 46 = .ok (.iload_n 1, 1) := by decide +kernel
theorem dU_right_47 : decode prog_1_method_19_code 47 = .ok (.iload_n 2, 1) := by decide +kernel
theorem dU_right_48 : decode prog_1_method_19_code 48 = .ok (.invokestatic 204, 3) := by decide +kernel
theorem dU_right_51 : decode prog_1_method_19_code 51 = .ok (.iaload, 1) := by decide +kernel
theorem dU_right_52 : decode prog_1_method_19_code 52 = .ok (.ireturn, 1) := by decide +kernel
theorem dU_rivals_0 : decode prog_1_method_35_code 0 = .ok (.aload_n 0, 1) := by decide +kernel
theorem dU_rivals_1 : decode prog_1_method_35_code 1 = .ok (.getfield 47, 3) := by decide +kernel
theorem dU_rivals_4 : decode prog_1_method_35_code 4 = .ok (.aload_n 0, 1) := by decide +kernel
theorem dU_rivals_5 : decode prog_1_method_35_code 5 = .ok (.getfield 10, 3) := by decide +kernel
theorem dU_rivals_8 : decode prog_1_method_35_code 8 = .ok (.aload_n 0, 1) := by decide +kernel
theorem dU_rivals_9 : decode prog_1_method_35_code 9 = .ok (.getfield 26, 3) := by decide +kernel
theorem dU_rivals_12 : decode prog_1_method_35_code 12 = .ok (.invokevirtual 310, 3) := by decide +kernel
theorem dU_rivals_15 : decode prog_1_method_35_code 15 = .ok (.aload_n 0, 1) := by decide +kernel
theorem dU_rivals_16 : decode prog_1_method_35_code 16 = .ok (.getfield 47, 3) := by decide +kernel
theorem dU_rivals_19 : decode prog_1_method_35_code 19 = .ok (.getfield 317, 3) := by decide +kernel
theorem dU_rivals_22 : decode prog_1_method_35_code 22 = .ok (.ireturn, 1) := by decide +kernel
theorem dU_rule_0 : decode prog_1_method_16_code 0 = .ok (.aload_n 0, 1) := by decide +kernel
theorem dU_rule_1 : decode prog_1_method_16_code 1 = .ok (.getfield 10, 3) := by decide +kernel
theorem dU_rule_4 : decode prog_1_method_16_code 4 = .ok (.iload_n 1, 1) := by decide +kernel
theorem dU_rule_5 : decode prog_1_method_16_code 5 = .ok (.invokevirtual 128, 3) := by decide +kernel
theorem dU_rule_8 : decode prog_1_method_16_code 8 = .ok (.ifCond .eq 20, 3) := by decide +kernel
theorem dU_rule_11 : decode prog_1_method_16_code 11 = .ok (.iload_n 2, 1) := by decide +kernel
theorem dU_rule_12 : decode prog_1_method_16_code 12 = .ok (.invokestatic 114, 3) := by decide +kernel
theorem dU_rule_15 : decode prog_1_method_16_code 15 = .ok (.ifCond .eq 13, 3) := by decide +kernel
theorem dU_rule_18 : decode prog_1_method_16_code 18 = .ok (.iload_n 3, 1) := by decide +kernel
theorem dU_rule_19 : decode prog_1_method_16_code 19 = .ok (.ifCond .lt 9, 3) := by decide +kernel
theorem dU_rule_22 : decode prog_1_method_16_code 22 = .ok (.iload_n 3, 1) := by decide +kernel
theorem dU_rule_23 : decode prog_1_method_16_code 23 = .ok (.bipush 12, 2) := by decide +kernel
theorem dU_rule_25 : decode prog_1_method_16_code 25 = .ok (.if_icmp .lt 6, 3) := by decide +kernel
theorem dU_rule_28 : decode prog_1_method_16_code 28 = .ok (.ldc 117, 2) := by decide +kernel
theorem dU_rule_30 : decode prog_1_method_16_code 30 = .ok (.ireturn, 1) := by decide +kernel
theorem dU_rule_31 : decode prog_1_method_16_code 31 = .ok (.aload_n 0, 1) := by decide +kernel
theorem dU_rule_32 : decode prog_1_method_16_code 32 = .ok (.getfield 10, 3) := by decide +kernel
theorem dU_rule_35 : decode prog_1_method_16_code 35 = .ok (.getfield 173, 3) := by decide +kernel
theorem dU_rule_38 : decode prog_1_method_16_code 38 = .ok (.iload_n 1, 1) := by decide +kernel
theorem dU_rule_39 : decode prog_1_method_16_code 39 = .ok (.iload_n 2, 1) := by decide +kernel
theorem dU_rule_40 : decode prog_1_method_16_code 40 = .ok (.iload_n 3, 1) := by decide +kernel
theorem dU_rule_41 : decode prog_1_method_16_code 41 = .ok (.invokevirtual 186, 3) := by decide +kernel
theorem dU_rule_44 : decode prog_1_method_16_code 44 = .ok (.ireturn, 1) := by decide +kernel
theorem dU_settle_0 : decode prog_1_method_42_code 0 = .ok (.aload_n 0, 1) := by decide +kernel
theorem dU_settle_1 : decode prog_1_method_42_code 1 = .ok (.getfield 10, 3) := by decide +kernel
theorem dU_settle_4 : decode prog_1_method_42_code 4 = .ok (.invokevirtual 207, 3) := by decide +kernel
theorem dU_settle_7 : decode prog_1_method_42_code 7 = .ok (.istore_n 2, 1) := by decide +kernel
theorem dU_settle_8 : decode prog_1_method_42_code 8 = .ok (.aload_n 0, 1) := by decide +kernel
theorem dU_settle_9 : decode prog_1_method_42_code 9 = .ok (.getfield 26, 3) := by decide +kernel
theorem dU_settle_12 : decode prog_1_method_42_code 12 = .ok (.aload_n 0, 1) := by decide +kernel
theorem dU_settle_13 : decode prog_1_method_42_code 13 = .ok (.getfield 10, 3) := by decide +kernel
theorem dU_settle_16 : decode prog_1_method_42_code 16 = .ok (.iload_n 2, 1) := by decide +kernel
theorem dU_settle_17 : decode prog_1_method_42_code 17 = .ok (.invokevirtual 210, 3) := by decide +kernel
theorem dU_settle_20 : decode prog_1_method_42_code 20 = .ok (.aload_n 0, 1) := by decide +kernel
theorem dU_settle_21 : decode prog_1_method_42_code 21 = .ok (.getfield 33, 3) := by decide +kernel
theorem dU_settle_24 : decode prog_1_method_42_code 24 = .ok (.aload_n 0, 1) := by decide +kernel
theorem dU_settle_25 : decode prog_1_method_42_code 25 = .ok (.getfield 10, 3) := by decide +kernel
theorem dU_settle_28 : decode prog_1_method_42_code 28 = .ok (.aload_n 0, 1) := by decide +kernel
theorem dU_settle_29 : decode prog_1_method_42_code 29 = .ok (.getfield 26, 3) := by decide +kernel
theorem dU_settle_32 : decode prog_1_method_42_code 32 = .ok (.iload_n 1, 1) := by decide +kernel
theorem dU_settle_33 : decode prog_1_method_42_code 33 = .ok (.iload_n 2, 1) := by decide +kernel
theorem dU_settle_34 : decode prog_1_method_42_code 34 = .ok (.invokevirtual 240, 3) := by decide +kernel
theorem dU_settle_37 : decode prog_1_method_42_code 37 = .ok (.aload_n 0, 1) := by decide +kernel
theorem dU_settle_38 : decode prog_1_method_42_code 38 = .ok (.getfield 33, 3) := by decide +kernel
theorem dU_settle_41 : decode prog_1_method_42_code 41 = .ok (.aload_n 0, 1) := by decide +kernel
theorem dU_settle_42 : decode prog_1_method_42_code 42 = .ok (.getfield 10, 3) := by decide +kernel
theorem dU_settle_45 : decode prog_1_method_42_code 45 = .ok (.aload_n 0, 1) := by decide +kernel
theorem dU_settle_46 : decode prog_1_method_42_code 46 = .ok (.getfield 26, 3) := by decide +kernel
theorem dU_settle_49 : decode prog_1_method_42_code 49 = .ok (.invokevirtual 360, 3) := by decide +kernel
theorem dU_settle_52 : decode prog_1_method_42_code 52 = .ok (.return_, 1) := by decide +kernel
theorem dU_slot_0 : decode prog_1_method_46_code 0 = .ok (.iload_n 0, 1) := by decide +kernel
theorem dU_slot_1 : decode prog_1_method_46_code 1 = .ok (.sipush 260, 3) := by decide +kernel
theorem dU_slot_4 : decode prog_1_method_46_code 4 = .ok (.imul, 1) := by decide +kernel
theorem dU_slot_5 : decode prog_1_method_46_code 5 = .ok (.iload_n 1, 1) := by decide +kernel
theorem dU_slot_6 : decode prog_1_method_46_code 6 = .ok (.iadd, 1) := by decide +kernel
theorem dU_slot_7 : decode prog_1_method_46_code 7 = .ok (.ireturn, 1) := by decide +kernel
theorem dU_stale_0 : decode prog_1_method_9_code 0 = .ok (.iload_n 1, 1) := by decide +kernel
theorem dU_stale_1 : decode prog_1_method_9_code 1 = .ok (.iload_n 2, 1) := by decide +kernel
theorem dU_stale_2 : decode prog_1_method_9_code 2 = .ok (.invokestatic 110, 3) := by decide +kernel
theorem dU_stale_5 : decode prog_1_method_9_code 5 = .ok (.ifCond .eq 18, 3) := by decide +kernel
theorem dU_stale_8 : decode prog_1_method_9_code 8 = .ok (.iload_n 3, 1) := by decide +kernel
theorem dU_stale_9 : decode prog_1_method_9_code 9 = .ok (.invokestatic 114, 3) := by decide +kernel
theorem dU_stale_12 : decode prog_1_method_9_code 12 = .ok (.ifCond .eq 11, 3) := by decide +kernel
theorem dU_stale_15 : decode prog_1_method_9_code 15 = .ok (.iload 4, 2) := by decide +kernel
theorem dU_stale_17 : decode prog_1_method_9_code 17 = .ok (.invokestatic 114, 3) := by decide +kernel
theorem dU_stale_20 : decode prog_1_method_9_code 20 = .ok (.ifCond .ne 5, 3) := by decide +kernel
theorem dU_stale_23 : decode prog_1_method_9_code 23 = .ok (.iconst 0, 1) := by decide +kernel
theorem dU_stale_24 : decode prog_1_method_9_code 24 = .ok (.ireturn, 1) := by decide +kernel
theorem dU_stale_25 : decode prog_1_method_9_code 25 = .ok (.aload_n 0, 1) := by decide +kernel
theorem dU_stale_26 : decode prog_1_method_9_code 26 = .ok (.getfield 10, 3) := by decide +kernel
theorem dU_stale_29 : decode prog_1_method_9_code 29 = .ok (.getfield 91, 3) := by decide +kernel
theorem dU_stale_32 : decode prog_1_method_9_code 32 = .ok (.iload_n 1, 1) := by decide +kernel
theorem dU_stale_33 : decode prog_1_method_9_code 33 = .ok (.iload_n 2, 1) := by decide +kernel
theorem dU_stale_34 : decode prog_1_method_9_code 34 = .ok (.iload_n 3, 1) := by decide +kernel
theorem dU_stale_35 : decode prog_1_method_9_code 35 = .ok (.iload 4, 2) := by decide +kernel
theorem dU_stale_37 : decode prog_1_method_9_code 37 = .ok (.invokevirtual 118, 3) := by decide +kernel
theorem dU_stale_40 : decode prog_1_method_9_code 40 = .ok (.istore 5, 2) := by decide +kernel
theorem dU_stale_42 : decode prog_1_method_9_code 42 = .ok (.iload 5, 2) := by decide +kernel
theorem dU_stale_44 : decode prog_1_method_9_code 44 = .ok (.iconst (-1), 1) := by decide +kernel
theorem dU_stale_45 : decode prog_1_method_9_code 45 = .ok (.if_icmp .eq 27, 3) := by decide +kernel
theorem dU_stale_48 : decode prog_1_method_9_code 48 = .ok (.aload_n 0, 1) := by decide +kernel
theorem dU_stale_49 : decode prog_1_method_9_code 49 = .ok (.getfield 10, 3) := by decide +kernel
theorem dU_stale_52 : decode prog_1_method_9_code 52 = .ok (.getfield 91, 3) := by decide +kernel
theorem dU_stale_55 : decode prog_1_method_9_code 55 = .ok (.getfield 101, 3) := by decide +kernel
theorem dU_stale_58 : decode prog_1_method_9_code 58 = .ok (.getfield 125, 3) := by decide +kernel
theorem dU_stale_61 : decode prog_1_method_9_code 61 = .ok (.iload 5, 2) := by decide +kernel
theorem dU_stale_63 : decode prog_1_method_9_code 63 = .ok (.iaload, 1) := by decide +kernel
theorem dU_stale_64 : decode prog_1_method_9_code 64 = .ok (.iload_n 3, 1) := by decide +kernel
theorem dU_stale_65 : decode prog_1_method_9_code 65 = .ok (.if_icmp .eq 7, 3) := by decide +kernel
theorem dU_stale_68 : decode prog_1_method_9_code 68 = .ok (.iconst 1, 1) := by decide +kernel
theorem dU_stale_69 : decode prog_1_method_9_code 69 = .ok (.goto 4, 3) := by decide +kernel
theorem dU_stale_72 : decode prog_1_method_9_code 72 = .ok (.iconst 0, 1) := by decide +kernel
theorem dU_stale_73 : decode prog_1_method_9_code 73 = .ok (.ireturn, 1) := by decide +kernel
theorem dU_suspect_0 : decode prog_1_method_32_code 0 = .ok (.iload_n 1, 1) := by decide +kernel
theorem dU_suspect_1 : decode prog_1_method_32_code 1 = .ok (.iload_n 2, 1) := by decide +kernel
theorem dU_suspect_2 : decode prog_1_method_32_code 2 = .ok (.iload_n 3, 1) := by decide +kernel
theorem dU_suspect_3 : decode prog_1_method_32_code 3 = .ok (.iload 4, 2) := by decide +kernel
theorem dU_suspect_5 : decode prog_1_method_32_code 5 = .ok (.invokestatic 87, 3) := by decide +kernel
theorem dU_suspect_8 : decode prog_1_method_32_code 8 = .ok (.ifCond .ne 5, 3) := by decide +kernel
theorem dU_suspect_11 : decode prog_1_method_32_code 11 = .ok (.iconst (-1), 1) := by decide +kernel
theorem dU_suspect_12 : decode prog_1_method_32_code 12 = .ok (.ireturn, 1) := by decide +kernel
theorem dU_suspect_13 : decode prog_1_method_32_code 13 = .ok (.aload_n 0, 1) := by decide +kernel
theorem dU_suspect_14 : decode prog_1_method_32_code 14 = .ok (.getfield 47, 3) := by decide +kernel
theorem dU_suspect_17 : decode prog_1_method_32_code 17 = .ok (.iconst 0, 1) := by decide +kernel
theorem dU_suspect_18 : decode prog_1_method_32_code 18 = .ok (.putfield 302, 3) := by decide +kernel
theorem dU_suspect_21 : decode prog_1_method_32_code 21 = .ok (.aload_n 0, 1) := by decide +kernel
theorem dU_suspect_22 : decode prog_1_method_32_code 22 = .ok (.getfield 10, 3) := by decide +kernel
theorem dU_suspect_25 : decode prog_1_method_32_code 25 = .ok (.getfield 306, 3) := by decide +kernel
theorem dU_suspect_28 : decode prog_1_method_32_code 28 = .ok (.iload_n 1, 1) := by decide +kernel
theorem dU_suspect_29 : decode prog_1_method_32_code 29 = .ok (.iload_n 2, 1) := by decide +kernel
theorem dU_suspect_30 : decode prog_1_method_32_code 30 = .ok (.iload_n 3, 1) := by decide +kernel
theorem dU_suspect_31 : decode prog_1_method_32_code 31 = .ok (.iload 4, 2) := by decide +kernel
theorem dU_suspect_33 : decode prog_1_method_32_code 33 = .ok (.aload_n 0, 1) := by decide +kernel
theorem dU_suspect_34 : decode prog_1_method_32_code 34 = .ok (.getfield 10, 3) := by decide +kernel
theorem dU_suspect_37 : decode prog_1_method_32_code 37 = .ok (.getfield 51, 3) := by decide +kernel
theorem dU_suspect_40 : decode prog_1_method_32_code 40 = .ok (.invokevirtual 95, 3) := by decide +kernel
theorem dU_suspect_43 : decode prog_1_method_32_code 43 = .ok (.ireturn, 1) := by decide +kernel
theorem dU_take_0 : decode prog_1_method_15_code 0 = .ok (.aload_n 0, 1) := by decide +kernel
theorem dU_take_1 : decode prog_1_method_15_code 1 = .ok (.getfield 10, 3) := by decide +kernel
theorem dU_take_4 : decode prog_1_method_15_code 4 = .ok (.getfield 51, 3) := by decide +kernel
theorem dU_take_7 : decode prog_1_method_15_code 7 = .ok (.sipush 260, 3) := by decide +kernel
theorem dU_take_10 : decode prog_1_method_15_code 10 = .ok (.if_icmp .ge 29, 3) := by decide +kernel
theorem dU_take_13 : decode prog_1_method_15_code 13 = .ok (.aload_n 0, 1) := by decide +kernel
theorem dU_take_14 : decode prog_1_method_15_code 14 = .ok (.getfield 10, 3) := by decide +kernel
theorem dU_take_17 : decode prog_1_method_15_code 17 = .ok (.getfield 173, 3) := by decide +kernel
theorem dU_take_20 : decode prog_1_method_15_code 20 = .ok (.getfield 177, 3) := by decide +kernel
theorem dU_take_23 : decode prog_1_method_15_code 23 = .ok (.bipush 6, 2) := by decide +kernel
theorem dU_take_25 : decode prog_1_method_15_code 25 = .ok (.if_icmp .ge 14, 3) := by decide +kernel
theorem dU_take_28 : decode prog_1_method_15_code 28 = .ok (.aload_n 0, 1) := by decide +kernel
theorem dU_take_29 : decode prog_1_method_15_code 29 = .ok (.getfield 19, 3) := by decide +kernel
theorem dU_take_32 : decode prog_1_method_15_code 32 = .ok (.invokevirtual 169, 3) := by decide +kernel
theorem dU_take_35 : decode prog_1_method_15_code 35 = .ok (.iconst (-1), 1) := by decide +kernel
theorem dU_take_36 : decode prog_1_method_15_code 36 = .ok (.if_icmp .eq 5, 3) := by decide +kernel
theorem dU_take_39 : decode prog_1_method_15_code 39 = .ok (.iconst (-1), 1) := by decide +kernel
theorem dU_take_40 : decode prog_1_method_15_code 40 = .ok (.ireturn, 1) := by decide +kernel
theorem dU_take_41 : decode prog_1_method_15_code 41 = .ok (.aload_n 0, 1) := by decide +kernel
theorem dU_take_42 : decode prog_1_method_15_code 42 = .ok (.getfield 19, 3) := by decide +kernel
theorem dU_take_45 : decode prog_1_method_15_code 45 = .ok (.iconst 0, 1) := by decide +kernel
theorem dU_take_46 : decode prog_1_method_15_code 46 = .ok (.putfield 162, 3) := by decide +kernel
theorem dU_take_49 : decode prog_1_method_15_code 49 = .ok (.aload_n 0, 1) := by decide +kernel
theorem dU_take_50 : decode prog_1_method_15_code 50 = .ok (.getfield 10, 3) := by decide +kernel
theorem dU_take_53 : decode prog_1_method_15_code 53 = .ok (.getfield 173, 3) := by decide +kernel
theorem dU_take_56 : decode prog_1_method_15_code 56 = .ok (.aload_n 0, 1) := by decide +kernel
theorem dU_take_57 : decode prog_1_method_15_code 57 = .ok (.getfield 19, 3) := by decide +kernel
theorem dU_take_60 : decode prog_1_method_15_code 60 = .ok (.getfield 180, 3) := by decide +kernel
theorem dU_take_63 : decode prog_1_method_15_code 63 = .ok (.aload_n 0, 1) := by decide +kernel
theorem dU_take_64 : decode prog_1_method_15_code 64 = .ok (.getfield 10, 3) := by decide +kernel
theorem dU_take_67 : decode prog_1_method_15_code 67 = .ok (.getfield 51, 3) := by decide +kernel
theorem dU_take_70 : decode prog_1_method_15_code 70 = .ok (.invokevirtual 183, 3) := by decide +kernel
theorem dU_take_73 : decode prog_1_method_15_code 73 = .ok (.ireturn, 1) := by decide +kernel
theorem dU_tell_0 : decode prog_1_method_7_code 0 = .ok (.iload_n 1, 1) := by decide +kernel
theorem dU_tell_1 : decode prog_1_method_7_code 1 = .ok (.iload_n 2, 1) := by decide +kernel
theorem dU_tell_2 : decode prog_1_method_7_code 2 = .ok (.iload_n 3, 1) := by decide +kernel
theorem dU_tell_3 : decode prog_1_method_7_code 3 = .ok (.iload 4, 2) := by decide +kernel
theorem dU_tell_5 : decode prog_1_method_7_code 5 = .ok (.invokestatic 87, 3) := by decide +kernel
theorem dU_tell_8 : decode prog_1_method_7_code 8 = .ok (.ifCond .eq 16, 3) := by decide +kernel
theorem dU_tell_11 : decode prog_1_method_7_code 11 = .ok (.aload_n 0, 1) := by decide +kernel
theorem dU_tell_12 : decode prog_1_method_7_code 12 = .ok (.getfield 10, 3) := by decide +kernel
theorem dU_tell_15 : decode prog_1_method_7_code 15 = .ok (.getfield 51, 3) := by decide +kernel
theorem dU_tell_18 : decode prog_1_method_7_code 18 = .ok (.sipush 260, 3) := by decide +kernel
theorem dU_tell_21 : decode prog_1_method_7_code 21 = .ok (.if_icmp .lt 5, 3) := by decide +kernel
theorem dU_tell_24 : decode prog_1_method_7_code 24 = .ok (.iconst (-1), 1) := by decide +kernel
theorem dU_tell_25 : decode prog_1_method_7_code 25 = .ok (.ireturn, 1) := by decide +kernel
theorem dU_tell_26 : decode prog_1_method_7_code 26 = .ok (.aload_n 0, 1) := by decide +kernel
theorem dU_tell_27 : decode prog_1_method_7_code 27 = .ok (.getfield 10, 3) := by decide +kernel
theorem dU_tell_30 : decode prog_1_method_7_code 30 = .ok (.getfield 91, 3) := by decide +kernel
theorem dU_tell_33 : decode prog_1_method_7_code 33 = .ok (.iload_n 1, 1) := by decide +kernel
theorem dU_tell_34 : decode prog_1_method_7_code 34 = .ok (.iload_n 2, 1) := by decide +kernel
theorem dU_tell_35 : decode prog_1_method_7_code 35 = .ok (.iload_n 3, 1) := by decide +kernel
theorem dU_tell_36 : decode prog_1_method_7_code 36 = .ok (.iload 4, 2) := by decide +kernel
theorem dU_tell_38 : decode prog_1_method_7_code 38 = .ok (.aload_n 0, 1) := by decide +kernel
theorem dU_tell_39 : decode prog_1_method_7_code 39 = .ok (.getfield 10, 3) := by decide +kernel
theorem dU_tell_42 : decode prog_1_method_7_code 42 = .ok (.getfield 51, 3) := by decide +kernel
theorem dU_tell_45 : decode prog_1_method_7_code 45 = .ok (.invokevirtual 95, 3) := by decide +kernel
theorem dU_tell_48 : decode prog_1_method_7_code 48 = .ok (.iconst (-1), 1) := by decide +kernel
theorem dU_tell_49 : decode prog_1_method_7_code 49 = .ok (.if_icmp .ne 5, 3) := by decide +kernel
theorem dU_tell_52 : decode prog_1_method_7_code 52 = .ok (.iconst (-1), 1) := by decide +kernel
theorem dU_tell_53 : decode prog_1_method_7_code 53 = .ok (.ireturn, 1) := by decide +kernel
theorem dU_tell_54 : decode prog_1_method_7_code 54 = .ok (.aload_n 0, 1) := by decide +kernel
theorem dU_tell_55 : decode prog_1_method_7_code 55 = .ok (.getfield 10, 3) := by decide +kernel
theorem dU_tell_58 : decode prog_1_method_7_code 58 = .ok (.dup, 1) := by decide +kernel
theorem dU_tell_59 : decode prog_1_method_7_code 59 = .ok (.getfield 67, 3) := by decide +kernel
theorem dU_tell_62 : decode prog_1_method_7_code 62 = .ok (.iconst 1, 1) := by decide +kernel
theorem dU_tell_63 : decode prog_1_method_7_code 63 = .ok (.iadd, 1) := by decide +kernel
theorem dU_tell_64 : decode prog_1_method_7_code 64 = .ok (.putfield 67, 3) := by decide +kernel
theorem dU_tell_67 : decode prog_1_method_7_code 67 = .ok (.aload_n 0, 1) := by decide +kernel
theorem dU_tell_68 : decode prog_1_method_7_code 68 = .ok (.getfield 10, 3) := by decide +kernel
theorem dU_tell_71 : decode prog_1_method_7_code 71 = .ok (.getfield 91, 3) := by decide +kernel
theorem dU_tell_74 : decode prog_1_method_7_code 74 = .ok (.getfield 101, 3) := by decide +kernel
theorem dU_tell_77 : decode prog_1_method_7_code 77 = .ok (.getfield 105, 3) := by decide +kernel
theorem dU_tell_80 : decode prog_1_method_7_code 80 = .ok (.ireturn, 1) := by decide +kernel
theorem dU_told_0 : decode prog_1_method_47_code 0 = .ok (.ldc2_w 363, 3) := by decide +kernel
theorem dU_told_3 : decode prog_1_method_47_code 3 = .ok (.ldc2_w 365, 3) := by decide +kernel
theorem dU_told_6 : decode prog_1_method_47_code 6 = .ok (.lload_n 0, 1) := by decide +kernel
theorem dU_told_7 : decode prog_1_method_47_code 7 = .ok (.invokestatic 367, 3) := by decide +kernel
theorem dU_told_10 : decode prog_1_method_47_code 10 = .ok (.invokestatic 370, 3) := by decide +kernel
theorem dU_told_13 : decode prog_1_method_47_code 13 = .ok (.l2i, 1) := by decide +kernel
theorem dU_told_14 : decode prog_1_method_47_code 14 = .ok (.ireturn, 1) := by decide +kernel
theorem dU_trade_0 : decode prog_1_method_10_code 0 = .ok (.aload_n 0, 1) := by decide +kernel
theorem dU_trade_1 : decode prog_1_method_10_code 1 = .ok (.getfield 10, 3) := by decide +kernel
theorem dU_trade_4 : decode prog_1_method_10_code 4 = .ok (.iload_n 1, 1) := by decide +kernel
theorem dU_trade_5 : decode prog_1_method_10_code 5 = .ok (.invokevirtual 128, 3) := by decide +kernel
theorem dU_trade_8 : decode prog_1_method_10_code 8 = .ok (.ifCond .eq 41, 3) := by decide +kernel
theorem dU_trade_11 : decode prog_1_method_10_code 11 = .ok (.iload_n 2, 1) := by decide +kernel
theorem dU_trade_12 : decode prog_1_method_10_code 12 = .ok (.ifCond .lt 37, 3) := by decide +kernel
theorem dU_trade_15 : decode prog_1_method_10_code 15 = .ok (.iload_n 2, 1) := by decide +kernel
theorem dU_trade_16 : decode prog_1_method_10_code 16 = .ok (.bipush 8, 2) := by decide +kernel
theorem dU_trade_18 : decode prog_1_method_10_code 18 = .ok (.if_icmp .ge 31, 3) := by decide +kernel
theorem dU_trade_21 : decode prog_1_method_10_code 21 = .ok (.iload_n 3, 1) := by decide +kernel
theorem dU_trade_22 : decode prog_1_method_10_code 22 = .ok (.ifCond .lt 27, 3) := by decide +kernel
theorem dU_trade_25 : decode prog_1_method_10_code 25 = .ok (.iload_n 3, 1) := by decide +kernel
theorem dU_trade_26 : decode prog_1_method_10_code 26 = .ok (.aload_n 0, 1) := by decide +kernel
theorem dU_trade_27 : decode prog_1_method_10_code 27 = .ok (.getfield 10, 3) := by decide +kernel
theorem dU_trade_30 : decode prog_1_method_10_code 30 = .ok (.getfield 51, 3) := by decide +kernel
theorem dU_trade_33 : decode prog_1_method_10_code 33 = .ok (.if_icmp .gt 16, 3) := by decide +kernel
theorem dU_trade_36 : decode prog_1_method_10_code 36 = .ok (.aload_n 0, 1) := by decide +kernel
theorem dU_trade_37 : decode prog_1_method_10_code 37 = .ok (.getfield 10, 3) := by decide +kernel
theorem dU_trade_40 : decode prog_1_method_10_code 40 = .ok (.getfield 51, 3) := by decide +kernel
theorem dU_trade_43 : decode prog_1_method_10_code 43 = .ok (.sipush 260, 3) := by decide +kernel
theorem dU_trade_46 : decode prog_1_method_10_code 46 = .ok (.if_icmp .lt 5, 3) := by decide +kernel
theorem dU_trade_49 : decode prog_1_method_10_code 49 = .ok (.iconst (-1), 1) := by decide +kernel
theorem dU_trade_50 : decode prog_1_method_10_code 50 = .ok (.ireturn, 1) := by decide +kernel
theorem dU_trade_51 : decode prog_1_method_10_code 51 = .ok (.iload 4, 2) := by decide +kernel
theorem dU_trade_53 : decode prog_1_method_10_code 53 = .ok (.sipush 10000, 3) := by decide +kernel
theorem dU_trade_56 : decode prog_1_method_10_code 56 = .ok (.invokestatic 131, 3) := by decide +kernel
theorem dU_trade_59 : decode prog_1_method_10_code 59 = .ok (.ifCond .eq 13, 3) := by decide +kernel
theorem dU_trade_62 : decode prog_1_method_10_code 62 = .ok (.iload 5, 2) := by decide +kernel
theorem dU_trade_64 : decode prog_1_method_10_code 64 = .ok (.ldc 59, 2) := by decide +kernel
theorem dU_trade_66 : decode prog_1_method_10_code 66 = .ok (.invokestatic 131, 3) := by decide +kernel
theorem dU_trade_69 : decode prog_1_method_10_code 69 = .ok (.ifCond .ne 5, 3) := by decide +kernel
theorem dU_trade_72 : decode prog_1_method_10_code 72 = .ok (.iconst (-1), 1) := by decide +kernel
theorem dU_trade_73 : decode prog_1_method_10_code 73 = .ok (.ireturn, 1) := by decide +kernel
theorem dU_trade_74 : decode prog_1_method_10_code 74 = .ok (.aload_n 0, 1) := by decide +kernel
theorem dU_trade_75 : decode prog_1_method_10_code 75 = .ok (.getfield 10, 3) := by decide +kernel
theorem dU_trade_78 : decode prog_1_method_10_code 78 = .ok (.getfield 134, 3) := by decide +kernel
theorem dU_trade_81 : decode prog_1_method_10_code 81 = .ok (.iload_n 1, 1) := by decide +kernel
theorem dU_trade_82 : decode prog_1_method_10_code 82 = .ok (.iload_n 2, 1) := by decide +kernel
theorem dU_trade_83 : decode prog_1_method_10_code 83 = .ok (.iload_n 3, 1) := by decide +kernel
theorem dU_trade_84 : decode prog_1_method_10_code 84 = .ok (.aload_n 0, 1) := by decide +kernel
theorem dU_trade_85 : decode prog_1_method_10_code 85 = .ok (.getfield 10, 3) := by decide +kernel
theorem dU_trade_88 : decode prog_1_method_10_code 88 = .ok (.getfield 51, 3) := by decide +kernel
theorem dU_trade_91 : decode prog_1_method_10_code 91 = .ok (.invokevirtual 138, 3) := by decide +kernel
theorem dU_trade_94 : decode prog_1_method_10_code 94 = .ok (.istore 6, 2) := by decide +kernel
theorem dU_trade_96 : decode prog_1_method_10_code 96 = .ok (.iload 6, 2) := by decide +kernel
theorem dU_trade_98 : decode prog_1_method_10_code 98 = .ok (.iconst (-1), 1) := by decide +kernel
theorem dU_trade_99 : decode prog_1_method_10_code 99 = .ok (.if_icmp .eq 46, 3) := by decide +kernel
theorem dU_trade_102 : decode prog_1_method_10_code 102 = .ok (.aload_n 0, 1) := by decide +kernel
theorem dU_trade_103 : decode prog_1_method_10_code 103 = .ok (.getfield 10, 3) := by decide +kernel
theorem dU_trade_106 : decode prog_1_method_10_code 106 = .ok (.getfield 134, 3) := by decide +kernel
theorem dU_trade_109 : decode prog_1_method_10_code 109 = .ok (.getfield 142, 3) := by decide +kernel
theorem dU_trade_112 : decode prog_1_method_10_code 112 = .ok (.iload 6, 2) := by decide +kernel
theorem dU_trade_114 : decode prog_1_method_10_code 114 = .ok (.iload 4, 2) := by decide +kernel
theorem dU_trade_116 : decode prog_1_method_10_code 116 = .ok (.iastore, 1) := by decide +kernel
theorem dU_trade_117 : decode prog_1_method_10_code 117 = .ok (.aload_n 0, 1) := by decide +kernel
theorem dU_trade_118 : decode prog_1_method_10_code 118 = .ok (.getfield 10, 3) := by decide +kernel
theorem dU_trade_121 : decode prog_1_method_10_code 121 = .ok (.getfield 134, 3) := by decide +kernel
theorem dU_trade_124 : decode prog_1_method_10_code 124 = .ok (.getfield 145, 3) := by decide +kernel
theorem dU_trade_127 : decode prog_1_method_10_code 127 = .ok (.iload 6, 2) := by decide +kernel
theorem dU_trade_129 : decode prog_1_method_10_code 129 = .ok (.iload 5, 2) := by decide +kernel
theorem dU_trade_131 : decode prog_1_method_10_code 131 = .ok (.iastore, 1) := by decide +kernel
theorem dU_trade_132 : decode prog_1_method_10_code 132 = .ok (.aload_n 0, 1) := by decide +kernel
theorem dU_trade_133 : decode prog_1_method_10_code 133 = .ok (.getfield 10, 3) := by decide +kernel
theorem dU_trade_136 : decode prog_1_method_10_code 136 = .ok (.dup, 1) := by decide +kernel
theorem dU_trade_137 : decode prog_1_method_10_code 137 = .ok (.getfield 67, 3) := by decide +kernel
theorem dU_trade_140 : decode prog_1_method_10_code 140 = .ok (.iconst 1, 1) := by decide +kernel
theorem dU_trade_141 : decode prog_1_method_10_code 141 = .ok (.iadd, 1) := by decide +kernel
theorem dU_trade_142 : decode prog_1_method_10_code 142 = .ok (.putfield 67, 3) := by decide +kernel
theorem dU_trade_145 : decode prog_1_method_10_code 145 = .ok (.iload 6, 2) := by decide +kernel
theorem dU_trade_147 : decode prog_1_method_10_code 147 = .ok (.ireturn, 1) := by decide +kernel
theorem dU_units_0 : decode prog_1_method_23_code 0 = .ok (.aload_n 0, 1) := by decide +kernel
theorem dU_units_1 : decode prog_1_method_23_code 1 = .ok (.getfield 10, 3) := by decide +kernel
theorem dU_units_4 : decode prog_1_method_23_code 4 = .ok (.iload_n 1, 1) := by decide +kernel
theorem dU_units_5 : decode prog_1_method_23_code 5 = .ok (.iload_n 2, 1) := by decide +kernel
theorem dU_units_6 : decode prog_1_method_23_code 6 = .ok (.invokevirtual 148, 3) := by decide +kernel
theorem dU_units_9 : decode prog_1_method_23_code 9 = .ok (.ifCond .eq 22, 3) := by decide +kernel
theorem dU_units_12 : decode prog_1_method_23_code 12 = .ok (.aload_n 0, 1) := by decide +kernel
theorem dU_units_13 : decode prog_1_method_23_code 13 = .ok (.getfield 10, 3) := by decide +kernel
theorem dU_units_16 : decode prog_1_method_23_code 16 = .ok (.getfield 155, 3) := by decide +kernel
theorem dU_units_19 : decode prog_1_method_23_code 19 = .ok (.getfield 237, 3) := by decide +kernel
theorem dU_units_22 : decode prog_1_method_23_code 22 = .ok (.iload_n 1, 1) := by decide +kernel
theorem dU_units_23 : decode prog_1_method_23_code 23 = .ok (.iconst 4, 1) := by decide +kernel
theorem dU_units_24 : decode prog_1_method_23_code 24 = .ok (.imul, 1) := by decide +kernel
theorem dU_units_25 : decode prog_1_method_23_code 25 = .ok (.iload_n 2, 1) := by decide +kernel
theorem dU_units_26 : decode prog_1_method_23_code 26 = .ok (.iadd, 1) := by decide +kernel
theorem dU_units_27 : decode prog_1_method_23_code 27 = .ok (.iaload, 1) := by decide +kernel
theorem dU_units_28 : decode prog_1_method_23_code 28 = .ok (.goto 4, 3) := by decide +kernel
theorem dU_units_31 : decode prog_1_method_23_code 31 = .ok (.iconst (-1), 1) := by decide +kernel
theorem dU_units_32 : decode prog_1_method_23_code 32 = .ok (.ireturn, 1) := by decide +kernel
