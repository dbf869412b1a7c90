theorem dM_isOver_18 : decode prog_14_method_61_code 18 = .ok (.getfield 216, 3) := by decide +kernel
theorem dM_isOver_21 : decode prog_14_method_61_code 21 = .ok (.if_icmp .ge 7, 3) := by decide +kernel
theorem dM_isOver_24 : decode prog_14_method_61_code 24 = .ok (.iconst 1, 1) := by decide +kernel
theorem dM_isOver_25 : decode prog_14_method_61_code 25 = .ok (.goto 4, 3) := by decide +kernel
theorem dM_isOver_28 : decode prog_14_method_61_code 28 = .ok (.iconst 0, 1) := by decide +kernel
theorem dM_isOver_29 : decode prog_14_method_61_code 29 = .ok (.ireturn, 1) := by decide +kernel
theorem dM_isSubject_0 : decode prog_14_method_9_code 0 = .ok (.iload_n 0, 1) := by decide +kernel
theorem dM_isSubject_1 : decode prog_14_method_9_code 1 = .ok (.iconst 1, 1) := by decide +kernel
theorem dM_isSubject_2 : decode prog_14_method_9_code 2 = .ok (.if_icmp .ne 15, 3) := by decide +kernel
theorem dM_isSubject_5 : decode prog_14_method_9_code 5 = .ok (.iload_n 1, 1) := by decide +kernel
theorem dM_isSubject_6 : decode prog_14_method_9_code 6 = .ok (.i2l, 1) := by decide +kernel
theorem dM_isSubject_7 : decode prog_14_method_9_code 7 = .ok (.lconst 1, 1) := by decide +kernel
theorem dM_isSubject_8 : decode prog_14_method_9_code 8 = .ok (.ldc2_w 233, 3) := by decide +kernel
theorem dM_isSubject_11 : decode prog_14_method_9_code 11 = .ok (.invokestatic 222, 3) := by decide +kernel
theorem dM_isSubject_14 : decode prog_14_method_9_code 14 = .ok (.goto 32, 3) := by decide +kernel
theorem dM_isSubject_17 : decode prog_14_method_9_code 17 = .ok (.iload_n 0, 1) := by decide +kernel
theorem dM_isSubject_18 : decode prog_14_method_9_code 18 = .ok (.i2l, 1) := by decide +kernel
theorem dM_isSubject_19 : decode prog_14_method_9_code 19 = .ok (.lconst 0, 1) := by decide +kernel
theorem dM_isSubject_20 : decode prog_14_method_9_code 20 = .ok (.ldc2_w 235, 3) := by decide +kernel
theorem dM_isSubject_23 : decode prog_14_method_9_code 23 = .ok (.invokestatic 222, 3) := by decide +kernel
theorem dM_isSubject_26 : decode prog_14_method_9_code 26 = .ok (.ifCond .eq 19, 3) := by decide +kernel
theorem dM_isSubject_29 : decode prog_14_method_9_code 29 = .ok (.iload_n 1, 1) := by decide +kernel
theorem dM_isSubject_30 : decode prog_14_method_9_code 30 = .ok (.i2l, 1) := by decide +kernel
theorem dM_isSubject_31 : decode prog_14_method_9_code 31 = .ok (.lconst 0, 1) := by decide +kernel
theorem dM_isSubject_32 : decode prog_14_method_9_code 32 = .ok (.ldc2_w 237, 3) := by decide +kernel
theorem dM_isSubject_35 : decode prog_14_method_9_code 35 = .ok (.invokestatic 222, 3) := by decide +kernel
theorem dM_isSubject_38 : decode prog_14_method_9_code 38 = .ok (.ifCond .eq 7, 3) := by decide +kernel
theorem dM_isSubject_41 : decode prog_14_method_9_code 41 = .ok (.iconst 1, 1) := by decide +kernel
theorem dM_isSubject_42 : decode prog_14_method_9_code 42 = .ok (.goto 4, 3) := by decide +kernel
theorem dM_isSubject_45 : decode prog_14_method_9_code 45 = .ok (.iconst 0, 1) := by decide +kernel
theorem dM_isSubject_46 : decode prog_14_method_9_code 46 = .ok (.ireturn, 1) := by decide +kernel
theorem dM_isToParty_0 : decode prog_14_method_72_code 0 = .ok (.aload_n 0, 1) := by decide +kernel
theorem dM_isToParty_1 : decode prog_14_method_72_code 1 = .ok (.getfield 53, 3) := by decide +kernel
theorem dM_isToParty_4 : decode prog_14_method_72_code 4 = .ok (.iload_n 1, 1) := by decide +kernel
theorem dM_isToParty_5 : decode prog_14_method_72_code 5 = .ok (.iaload, 1) := by decide +kernel
theorem dM_isToParty_6 : decode prog_14_method_72_code 6 = .ok (.iconst (-1), 1) := by decide +kernel
theorem dM_isToParty_7 : decode prog_14_method_72_code 7 = .ok (.if_icmp .eq 26, 3) := by decide +kernel
theorem dM_isToParty_10 : decode prog_14_method_72_code 10 = .ok (.iload_n 2, 1) := by decide +kernel
theorem dM_isToParty_11 : decode prog_14_method_72_code 11 = .ok (.aload_n 0, 1) := by decide +kernel
theorem dM_isToParty_12 : decode prog_14_method_72_code 12 = .ok (.getfield 53, 3) := by decide +kernel
theorem dM_isToParty_15 : decode prog_14_method_72_code 15 = .ok (.iload_n 1, 1) := by decide +kernel
theorem dM_isToParty_16 : decode prog_14_method_72_code 16 = .ok (.iaload, 1) := by decide +kernel
theorem dM_isToParty_17 : decode prog_14_method_72_code 17 = .ok (.isub, 1) := by decide +kernel
theorem dM_isToParty_18 : decode prog_14_method_72_code 18 = .ok (.aload_n 0, 1) := by decide +kernel
theorem dM_isToParty_19 : decode prog_14_method_72_code 19 = .ok (.iload_n 1, 1) := by decide +kernel
theorem dM_isToParty_20 : decode prog_14_method_72_code 20 = .ok (.iload_n 2, 1) := by decide +kernel
theorem dM_isToParty_21 : decode prog_14_method_72_code 21 = .ok (.bipush 8, 2) := by decide +kernel
theorem dM_isToParty_23 : decode prog_14_method_72_code 23 = .ok (.invokevirtual 305, 3) := by decide +kernel
theorem dM_isToParty_26 : decode prog_14_method_72_code 26 = .ok (.if_icmp .lt 7, 3) := by decide +kernel
theorem dM_isToParty_29 : decode prog_14_method_72_code 29 = .ok (.iconst 1, 1) := by decide +kernel
theorem dM_isToParty_30 : decode prog_14_method_72_code 30 = .ok (.goto 4, 3) := by decide +kernel
theorem dM_isToParty_33 : decode prog_14_method_72_code 33 = .ok (.iconst 0, 1) := by decide +kernel
theorem dM_isToParty_34 : decode prog_14_method_72_code 34 = .ok (.ireturn, 1) := by decide +kernel
theorem dM_isWord_0 : decode prog_14_method_32_code 0 = .ok (.aload_n 0, 1) := by decide +kernel
theorem dM_isWord_1 : decode prog_14_method_32_code 1 = .ok (.invokevirtual 328, 3) := by decide +kernel
theorem dM_isWord_4 : decode prog_14_method_32_code 4 = .ok (.aload_n 0, 1) := by decide +kernel
theorem dM_isWord_5 : decode prog_14_method_32_code 5 = .ok (.getfield 319, 3) := by decide +kernel
theorem dM_isWord_8 : decode prog_14_method_32_code 8 = .ok (.isub, 1) := by decide +kernel
theorem dM_isWord_9 : decode prog_14_method_32_code 9 = .ok (.aload_n 1, 1) := by decide +kernel
theorem dM_isWord_10 : decode prog_14_method_32_code 10 = .ok (.invokevirtual 331, 3) := by decide +kernel
theorem dM_isWord_13 : decode prog_14_method_32_code 13 = .ok (.if_icmp .eq 5, 3) := by decide +kernel
theorem dM_isWord_16 : decode prog_14_method_32_code 16 = .ok (.iconst 0, 1) := by decide +kernel
theorem dM_isWord_17 : decode prog_14_method_32_code 17 = .ok (.ireturn, 1) := by decide +kernel
theorem dM_isWord_18 : decode prog_14_method_32_code 18 = .ok (.iconst 0, 1) := by decide +kernel
theorem dM_isWord_19 : decode prog_14_method_32_code 19 = .ok (.istore_n 2, 1) := by decide +kernel
theorem dM_isWord_20 : decode prog_14_method_32_code 20 = .ok (.iload_n 2, 1) := by decide +kernel
theorem dM_isWord_21 : decode prog_14_method_32_code 21 = .ok (.aload_n 1, 1) := by decide +kernel
theorem dM_isWord_22 : decode prog_14_method_32_code 22 = .ok (.invokevirtual 331, 3) := by decide +kernel
theorem dM_isWord_25 : decode prog_14_method_32_code 25 = .ok (.if_icmp .ge 30, 3) := by decide +kernel
theorem dM_isWord_28 : decode prog_14_method_32_code 28 = .ok (.aload_n 0, 1) := by decide +kernel
theorem dM_isWord_29 : decode prog_14_method_32_code 29 = .ok (.getfield 96, 3) := by decide +kernel
theorem dM_isWord_32 : decode prog_14_method_32_code 32 = .ok (.aload_n 0, 1) := by decide +kernel
theorem dM_isWord_33 : decode prog_14_method_32_code 33 = .ok (.getfield 319, 3) := by decide +kernel
theorem dM_isWord_36 : decode prog_14_method_32_code 36 = .ok (.iload_n 2, 1) := by decide +kernel
theorem dM_isWord_37 : decode prog_14_method_32_code 37 = .ok (.iadd, 1) := by decide +kernel
theorem dM_isWord_38 : decode prog_14_method_32_code 38 = .ok (.baload, 1) := by decide +kernel
theorem dM_isWord_39 : decode prog_14_method_32_code 39 = .ok (.aload_n 1, 1) := by decide +kernel
theorem dM_isWord_40 : decode prog_14_method_32_code 40 = .ok (.iload_n 2, 1) := by decide +kernel
theorem dM_isWord_41 : decode prog_14_method_32_code 41 = .ok (.invokevirtual 334, 3) := by decide +kernel
theorem dM_isWord_44 : decode prog_14_method_32_code 44 = .ok (.if_icmp .eq 5, 3) := by decide +kernel
theorem dM_isWord_47 : decode prog_14_method_32_code 47 = .ok (.iconst 0, 1) := by decide +kernel
theorem dM_isWord_48 : decode prog_14_method_32_code 48 = .ok (.ireturn, 1) := by decide +kernel
theorem dM_isWord_49 : decode prog_14_method_32_code 49 = .ok (.iinc 2 1, 3) := by decide +kernel
theorem dM_isWord_52 : decode prog_14_method_32_code 52 = .ok (.goto (-32), 3) := by decide +kernel
theorem dM_isWord_55 : decode prog_14_method_32_code 55 = .ok (.iconst 1, 1) := by decide +kernel
theorem dM_isWord_56 : decode prog_14_method_32_code 56 = .ok (.ireturn, 1) := by decide +kernel
theorem dM_judges_0 : decode prog_14_method_73_code 0 = .ok (.aload_n 0, 1) := by decide +kernel
theorem dM_judges_1 : decode prog_14_method_73_code 1 = .ok (.iload_n 1, 1) := by decide +kernel
theorem dM_judges_2 : decode prog_14_method_73_code 2 = .ok (.iload_n 3, 1) := by decide +kernel
theorem dM_judges_3 : decode prog_14_method_73_code 3 = .ok (.bipush 7, 2) := by decide +kernel
theorem dM_judges_5 : decode prog_14_method_73_code 5 = .ok (.invokevirtual 305, 3) := by decide +kernel
theorem dM_judges_8 : decode prog_14_method_73_code 8 = .ok (.istore 4, 2) := by decide +kernel
theorem dM_judges_10 : decode prog_14_method_73_code 10 = .ok (.aload_n 0, 1) := by decide +kernel
theorem dM_judges_11 : decode prog_14_method_73_code 11 = .ok (.getfield 178, 3) := by decide +kernel
theorem dM_judges_14 : decode prog_14_method_73_code 14 = .ok (.iload_n 2, 1) := by decide +kernel
theorem dM_judges_15 : decode prog_14_method_73_code 15 = .ok (.aload_n 0, 1) := by decide +kernel
theorem dM_judges_16 : decode prog_14_method_73_code 16 = .ok (.getfield 172, 3) := by decide +kernel
theorem dM_judges_19 : decode prog_14_method_73_code 19 = .ok (.iload_n 2, 1) := by decide +kernel
theorem dM_judges_20 : decode prog_14_method_73_code 20 = .ok (.laload, 1) := by decide +kernel
theorem dM_judges_21 : decode prog_14_method_73_code 21 = .ok (.lastore, 1) := by decide +kernel
theorem dM_judges_22 : decode prog_14_method_73_code 22 = .ok (.iload 4, 2) := by decide +kernel
theorem dM_judges_24 : decode prog_14_method_73_code 24 = .ok (.iconst (-1), 1) := by decide +kernel
theorem dM_judges_25 : decode prog_14_method_73_code 25 = .ok (.if_icmp .eq 54, 3) := by decide +kernel
theorem dM_judges_28 : decode prog_14_method_73_code 28 = .ok (.aload_n 0, 1) := by decide +kernel
theorem dM_judges_29 : decode prog_14_method_73_code 29 = .ok (.getfield 178, 3) := by decide +kernel
theorem dM_judges_32 : decode prog_14_method_73_code 32 = .ok (.iload_n 2, 1) := by decide +kernel
theorem dM_judges_33 : decode prog_14_method_73_code 33 = .ok (.aload_n 0, 1) := by decide +kernel
theorem dM_judges_34 : decode prog_14_method_73_code 34 = .ok (.getfield 172, 3) := by decide +kernel
theorem dM_judges_37 : decode prog_14_method_73_code 37 = .ok (.iload_n 2, 1) := by decide +kernel
theorem dM_judges_38 : decode prog_14_method_73_code 38 = .ok (.laload, 1) := by decide +kernel
theorem dM_judges_39 : decode prog_14_method_73_code 39 = .ok (.aload_n 0, 1) := by decide +kernel
theorem dM_judges_40 : decode prog_14_method_73_code 40 = .ok (.getfield 175, 3) := by decide +kernel
theorem dM_judges_43 : decode prog_14_method_73_code 43 = .ok (.iload_n 2, 1) := by decide +kernel
theorem dM_judges_44 : decode prog_14_method_73_code 44 = .ok (.laload, 1) := by decide +kernel
theorem dM_judges_45 : decode prog_14_method_73_code 45 = .ok (.lsub, 1) := by decide +kernel
theorem dM_judges_46 : decode prog_14_method_73_code 46 = .ok (.lastore, 1) := by decide +kernel
theorem dM_judges_47 : decode prog_14_method_73_code 47 = .ok (.aload_n 0, 1) := by decide +kernel
theorem dM_judges_48 : decode prog_14_method_73_code 48 = .ok (.getfield 178, 3) := by decide +kernel
theorem dM_judges_51 : decode prog_14_method_73_code 51 = .ok (.iload_n 2, 1) := by decide +kernel
theorem dM_judges_52 : decode prog_14_method_73_code 52 = .ok (.laload, 1) := by decide +kernel
theorem dM_judges_53 : decode prog_14_method_73_code 53 = .ok (.lconst 0, 1) := by decide +kernel
theorem dM_judges_54 : decode prog_14_method_73_code 54 = .ok (.lcmp, 1) := by decide +kernel
theorem dM_judges_55 : decode prog_14_method_73_code 55 = .ok (.ifCond .ge 24, 3) := by decide +kernel
theorem dM_judges_58 : decode prog_14_method_73_code 58 = .ok (.aload_n 0, 1) := by decide +kernel
theorem dM_judges_59 : decode prog_14_method_73_code 59 = .ok (.getfield 178, 3) := by decide +kernel
theorem dM_judges_62 : decode prog_14_method_73_code 62 = .ok (.iload_n 2, 1) := by decide +kernel
theorem dM_judges_63 : decode prog_14_method_73_code 63 = .ok (.laload, 1) := by decide +kernel
theorem dM_judges_64 : decode prog_14_method_73_code 64 = .ok (.iload 4, 2) := by decide +kernel
theorem dM_judges_66 : decode prog_14_method_73_code 66 = .ok (.ineg, 1) := by decide +kernel
theorem dM_judges_67 : decode prog_14_method_73_code 67 = .ok (.i2l, 1) := by decide +kernel
theorem dM_judges_68 : decode prog_14_method_73_code 68 = .ok (.lcmp, 1) := by decide +kernel
theorem dM_judges_69 : decode prog_14_method_73_code 69 = .ok (.ifCond .lt 10, 3) := by decide +kernel
theorem dM_judges_72 : decode prog_14_method_73_code 72 = .ok (.aload_n 0, 1) := by decide +kernel
theorem dM_judges_73 : decode prog_14_method_73_code 73 = .ok (.getfield 178, 3) := by decide +kernel
theorem dM_judges_76 : decode prog_14_method_73_code 76 = .ok (.iload_n 2, 1) := by decide +kernel
theorem dM_judges_77 : decode prog_14_method_73_code 77 = .ok (.lconst 0, 1) := by decide +kernel
theorem dM_judges_78 : decode prog_14_method_73_code 78 = .ok (.lastore, 1) := by decide +kernel
theorem dM_judges_79 : decode prog_14_method_73_code 79 = .ok (.aload_n 0, 1) := by decide +kernel
theorem dM_judges_80 : decode prog_14_method_73_code 80 = .ok (.getfield 181, 3) := by decide +kernel
theorem dM_judges_83 : decode prog_14_method_73_code 83 = .ok (.iload_n 2, 1) := by decide +kernel
theorem dM_judges_84 : decode prog_14_method_73_code 84 = .ok (.iconst 0, 1) := by decide +kernel
theorem dM_judges_85 : decode prog_14_method_73_code 85 = .ok (.iastore, 1) := by decide +kernel
theorem dM_judges_86 : decode prog_14_method_73_code 86 = .ok (.aload_n 0, 1) := by decide +kernel
theorem dM_judges_87 : decode prog_14_method_73_code 87 = .ok (.getfield 178, 3) := by decide +kernel
theorem dM_judges_90 : decode prog_14_method_73_code 90 = .ok (.iload_n 2, 1) := by decide +kernel
theorem dM_judges_91 : decode prog_14_method_73_code 91 = .ok (.laload, 1) := by decide +kernel
theorem dM_judges_92 : decode prog_14_method_73_code 92 = .ok (.lconst 0, 1) := by decide +kernel
theorem dM_judges_93 : decode prog_14_method_73_code 93 = .ok (.lcmp, 1) := by decide +kernel
theorem dM_judges_94 : decode prog_14_method_73_code 94 = .ok (.ifCond .gt 4, 3) := by decide +kernel
theorem dM_judges_97 : decode prog_14_method_73_code 97 = .ok (.return_, 1) := by decide +kernel
theorem dM_judges_98 : decode prog_14_method_73_code 98 = .ok (.iload_n 2, 1) := by decide +kernel
theorem dM_judges_99 : decode prog_14_method_73_code 99 = .ok (.bipush 16, 2) := by decide +kernel
theorem dM_judges_101 : decode prog_14_method_73_code 101 = .ok (.if_icmp .ge 27, 3) := by decide +kernel
theorem dM_judges_104 : decode prog_14_method_73_code 104 = .ok (.aload_n 0, 1) := by decide +kernel
theorem dM_judges_105 : decode prog_14_method_73_code 105 = .ok (.getfield 50, 3) := by decide +kernel
theorem dM_judges_108 : decode prog_14_method_73_code 108 = .ok (.iload_n 2, 1) := by decide +kernel
theorem dM_judges_109 : decode prog_14_method_73_code 109 = .ok (.iaload, 1) := by decide +kernel
theorem dM_judges_110 : decode prog_14_method_73_code 110 = .ok (.iconst (-1), 1) := by decide +kernel
theorem dM_judges_111 : decode prog_14_method_73_code 111 = .ok (.if_icmp .eq 17, 3) := by decide +kernel
theorem dM_judges_114 : decode prog_14_method_73_code 114 = .ok (.aload_n 0, 1) := by decide +kernel
theorem dM_judges_115 : decode prog_14_method_73_code 115 = .ok (.getfield 50, 3) := by decide +kernel
theorem dM_judges_118 : decode prog_14_method_73_code 118 = .ok (.iload_n 2, 1) := by decide +kernel
theorem dM_judges_119 : decode prog_14_method_73_code 119 = .ok (.iaload, 1) := by decide +kernel
theorem dM_judges_120 : decode prog_14_method_73_code 120 = .ok (.iload_n 3, 1) := by decide +kernel
theorem dM_judges_121 : decode prog_14_method_73_code 121 = .ok (.if_icmp .gt 7, 3) := by decide +kernel
theorem dM_judges_124 : decode prog_14_method_73_code 124 = .ok (.iconst 1, 1) := by decide +kernel
theorem dM_judges_125 : decode prog_14_method_73_code 125 = .ok (.goto 4, 3) := by decide +kernel
theorem dM_judges_128 : decode prog_14_method_73_code 128 = .ok (.iconst 0, 1) := by decide +kernel
theorem dM_judges_129 : decode prog_14_method_73_code 129 = .ok (.istore 5, 2) := by decide +kernel
theorem dM_judges_131 : decode prog_14_method_73_code 131 = .ok (.aload_n 0, 1) := by decide +kernel
theorem dM_judges_132 : decode prog_14_method_73_code 132 = .ok (.getfield 178, 3) := by decide +kernel
theorem dM_judges_135 : decode prog_14_method_73_code 135 = .ok (.iload_n 2, 1) := by decide +kernel
theorem dM_judges_136 : decode prog_14_method_73_code 136 = .ok (.laload, 1) := by decide +kernel
theorem dM_judges_137 : decode prog_14_method_73_code 137 = .ok (.aload_n 0, 1) := by decide +kernel
theorem dM_judges_138 : decode prog_14_method_73_code 138 = .ok (.iload_n 1, 1) := by decide +kernel
theorem dM_judges_139 : decode prog_14_method_73_code 139 = .ok (.iload_n 3, 1) := by decide +kernel
theorem dM_judges_140 : decode prog_14_method_73_code 140 = .ok (.iconst 5, 1) := by decide +kernel
theorem dM_judges_141 : decode prog_14_method_73_code 141 = .ok (.invokevirtual 305, 3) := by decide +kernel
theorem dM_judges_144 : decode prog_14_method_73_code 144 = .ok (.i2l, 1) := by decide +kernel
theorem dM_judges_145 : decode prog_14_method_73_code 145 = .ok (.lcmp, 1) := by decide +kernel
theorem dM_judges_146 : decode prog_14_method_73_code 146 = .ok (.ifCond .ge 13, 3) := by decide +kernel
theorem dM_judges_149 : decode prog_14_method_73_code 149 = .ok (.aload_n 0, 1) := by decide +kernel
theorem dM_judges_150 : decode prog_14_method_73_code 150 = .ok (.getfield 181, 3) := by decide +kernel
theorem dM_judges_153 : decode prog_14_method_73_code 153 = .ok (.iload_n 2, 1) := by decide +kernel
theorem dM_judges_154 : decode prog_14_method_73_code 154 = .ok (.iconst 1, 1) := by decide +kernel
theorem dM_judges_155 : decode prog_14_method_73_code 155 = .ok (.iastore, 1) := by decide +kernel
theorem dM_judges_156 : decode prog_14_method_73_code 156 = .ok (.goto 28, 3) := by decide +kernel
theorem dM_judges_159 : decode prog_14_method_73_code 159 = .ok (.iload 5, 2) := by decide +kernel
theorem dM_judges_161 : decode prog_14_method_73_code 161 = .ok (.ifCond .eq 23, 3) := by decide +kernel
theorem dM_judges_164 : decode prog_14_method_73_code 164 = .ok (.aload_n 0, 1) := by decide +kernel
theorem dM_judges_165 : decode prog_14_method_73_code 165 = .ok (.getfield 181, 3) := by decide +kernel
theorem dM_judges_168 : decode prog_14_method_73_code 168 = .ok (.iload_n 2, 1) := by decide +kernel
theorem dM_judges_169 : decode prog_14_method_73_code 169 = .ok (.aload_n 0, 1) := by decide +kernel
theorem dM_judges_170 : decode prog_14_method_73_code 170 = .ok (.iload_n 1, 1) := by decide +kernel
theorem dM_judges_171 : decode prog_14_method_73_code 171 = .ok (.iload_n 3, 1) := by decide +kernel
theorem dM_judges_172 : decode prog_14_method_73_code 172 = .ok (.invokevirtual 496, 3) := by decide +kernel
theorem dM_judges_175 : decode prog_14_method_73_code 175 = .ok (.ifCond .eq 7, 3) := by decide +kernel
theorem dM_judges_178 : decode prog_14_method_73_code 178 = .ok (.iconst 3, 1) := by decide +kernel
theorem dM_judges_179 : decode prog_14_method_73_code 179 = .ok (.goto 4, 3) := by decide +kernel
theorem dM_judges_182 : decode prog_14_method_73_code 182 = .ok (.iconst 2, 1) := by decide +kernel
theorem dM_judges_183 : decode prog_14_method_73_code 183 = .ok (.iastore, 1) := by decide +kernel
theorem dM_judges_184 : decode prog_14_method_73_code 184 = .ok (.return_, 1) := by decide +kernel
theorem dM_known0_0 : decode prog_14_method_5_code 0 = .ok (.aload_n 0, 1) := by decide +kernel
theorem dM_known0_1 : decode prog_14_method_5_code 1 = .ok (.getfield 216, 3) := by decide +kernel
theorem dM_known0_4 : decode prog_14_method_5_code 4 = .ok (.sipush 260, 3) := by decide +kernel
theorem dM_known0_7 : decode prog_14_method_5_code 7 = .ok (.if_icmp .ge 10, 3) := by decide +kernel
theorem dM_known0_10 : decode prog_14_method_5_code 10 = .ok (.aload_n 0, 1) := by decide +kernel
theorem dM_known0_11 : decode prog_14_method_5_code 11 = .ok (.getfield 216, 3) := by decide +kernel
theorem dM_known0_14 : decode prog_14_method_5_code 14 = .ok (.goto 6, 3) := by decide +kernel
theorem dM_known0_17 : decode prog_14_method_5_code 17 = .ok (.sipush 259, 3) := by decide +kernel
theorem dM_known0_20 : decode prog_14_method_5_code 20 = .ok (.ireturn, 1) := by decide +kernel
theorem dM_known1_0 : decode prog_14_method_15_code 0 = .ok (.iload_n 1, 1) := by decide +kernel
theorem dM_known1_1 : decode prog_14_method_15_code 1 = .ok (.iload_n 2, 1) := by decide +kernel
theorem dM_known1_2 : decode prog_14_method_15_code 2 = .ok (.invokestatic 239, 3) := by decide +kernel
theorem dM_known1_5 : decode prog_14_method_15_code 5 = .ok (.ifCond .eq 28, 3) := by decide +kernel
theorem dM_known1_8 : decode prog_14_method_15_code 8 = .ok (.iload_n 3, 1) := by decide +kernel
theorem dM_known1_9 : decode prog_14_method_15_code 9 = .ok (.i2l, 1) := by decide +kernel
theorem dM_known1_10 : decode prog_14_method_15_code 10 = .ok (.lconst 0, 1) := by decide +kernel
theorem dM_known1_11 : decode prog_14_method_15_code 11 = .ok (.ldc2_w 220, 3) := by decide +kernel
theorem dM_known1_14 : decode prog_14_method_15_code 14 = .ok (.invokestatic 222, 3) := by decide +kernel
theorem dM_known1_17 : decode prog_14_method_15_code 17 = .ok (.ifCond .eq 16, 3) := by decide +kernel
theorem dM_known1_20 : decode prog_14_method_15_code 20 = .ok (.iload 4, 2) := by decide +kernel
theorem dM_known1_22 : decode prog_14_method_15_code 22 = .ok (.i2l, 1) := by decide +kernel
theorem dM_known1_23 : decode prog_14_method_15_code 23 = .ok (.lconst 0, 1) := by decide +kernel
theorem dM_known1_24 : decode prog_14_method_15_code 24 = .ok (.ldc2_w 220, 3) := by decide +kernel
theorem dM_known1_27 : decode prog_14_method_15_code 27 = .ok (.invokestatic 222, 3) := by decide +kernel
theorem dM_known1_30 : decode prog_14_method_15_code 30 = .ok (.ifCond .ne 7, 3) := by decide +kernel
theorem dM_known1_33 : decode prog_14_method_15_code 33 = .ok (.ldc_w 266, 3) := by decide +kernel
theorem dM_known1_36 : decode prog_14_method_15_code 36 = .ok (.ireturn, 1) := by decide +kernel
theorem dM_known1_37 : decode prog_14_method_15_code 37 = .ok (.aload_n 0, 1) := by decide +kernel
theorem dM_known1_38 : decode prog_14_method_15_code 38 = .ok (.iload_n 1, 1) := by decide +kernel
theorem dM_known1_39 : decode prog_14_method_15_code 39 = .ok (.iload_n 2, 1) := by decide +kernel
theorem dM_known1_40 : decode prog_14_method_15_code 40 = .ok (.iload_n 3, 1) := by decide +kernel
theorem dM_known1_41 : decode prog_14_method_15_code 41 = .ok (.iload 4, 2) := by decide +kernel
theorem dM_known1_43 : decode prog_14_method_15_code 43 = .ok (.invokevirtual 267, 3) := by decide +kernel
theorem dM_known1_46 : decode prog_14_method_15_code 46 = .ok (.istore 5, 2) := by decide +kernel
theorem dM_known1_48 : decode prog_14_method_15_code 48 = .ok (.iload 5, 2) := by decide +kernel
theorem dM_known1_50 : decode prog_14_method_15_code 50 = .ok (.iconst (-1), 1) := by decide +kernel
theorem dM_known1_51 : decode prog_14_method_15_code 51 = .ok (.if_icmp .ne 10, 3) := by decide +kernel
theorem dM_known1_54 : decode prog_14_method_15_code 54 = .ok (.iload_n 1, 1) := by decide +kernel
theorem dM_known1_55 : decode prog_14_method_15_code 55 = .ok (.invokestatic 271, 3) := by decide +kernel
theorem dM_known1_58 : decode prog_14_method_15_code 58 = .ok (.goto 10, 3) := by decide +kernel
theorem dM_known1_61 : decode prog_14_method_15_code 61 = .ok (.aload_n 0, 1) := by decide +kernel
theorem dM_known1_62 : decode prog_14_method_15_code 62 = .ok (.getfield 23, 3) := by decide +kernel
theorem dM_known1_65 : decode prog_14_method_15_code 65 = .ok (.iload 5, 2) := by decide +kernel
theorem dM_known1_67 : decode prog_14_method_15_code 67 = .ok (.iaload, 1) := by decide +kernel
theorem dM_known1_68 : decode prog_14_method_15_code 68 = .ok (.ireturn, 1) := by decide +kernel
theorem dM_knows_0 : decode prog_14_method_47_code 0 = .ok (.aload_n 0, 1) := by decide +kernel
theorem dM_knows_1 : decode prog_14_method_47_code 1 = .ok (.iload_n 1, 1) := by decide +kernel
theorem dM_knows_2 : decode prog_14_method_47_code 2 = .ok (.putfield 418, 3) := by decide +kernel
theorem dM_knows_5 : decode prog_14_method_47_code 5 = .ok (.iconst 0, 1) := by decide +kernel
theorem dM_knows_6 : decode prog_14_method_47_code 6 = .ok (.istore_n 2, 1) := by decide +kernel
theorem dM_knows_7 : decode prog_14_method_47_code 7 = .ok (.iload_n 2, 1) := by decide +kernel
theorem dM_knows_8 : decode prog_14_method_47_code 8 = .ok (.bipush 8, 2) := by decide +kernel
theorem dM_knows_10 : decode prog_14_method_47_code 10 = .ok (.if_icmp .ge 45, 3) := by decide +kernel
theorem dM_knows_13 : decode prog_14_method_47_code 13 = .ok (.aload_n 0, 1) := by decide +kernel
theorem dM_knows_14 : decode prog_14_method_47_code 14 = .ok (.iconst 0, 1) := by decide +kernel
theorem dM_knows_15 : decode prog_14_method_47_code 15 = .ok (.iload_n 2, 1) := by decide +kernel
theorem dM_knows_16 : decode prog_14_method_47_code 16 = .ok (.aload_n 0, 1) := by decide +kernel
theorem dM_knows_17 : decode prog_14_method_47_code 17 = .ok (.getfield 125, 3) := by decide +kernel
theorem dM_knows_20 : decode prog_14_method_47_code 20 = .ok (.iload_n 2, 1) := by decide +kernel
theorem dM_knows_21 : decode prog_14_method_47_code 21 = .ok (.aaload, 1) := by decide +kernel
theorem dM_knows_22 : decode prog_14_method_47_code 22 = .ok (.invokevirtual 421, 3) := by decide +kernel
theorem dM_knows_25 : decode prog_14_method_47_code 25 = .ok (.aload_n 0, 1) := by decide +kernel
theorem dM_knows_26 : decode prog_14_method_47_code 26 = .ok (.iconst 2, 1) := by decide +kernel
theorem dM_knows_27 : decode prog_14_method_47_code 27 = .ok (.iload_n 2, 1) := by decide +kernel
theorem dM_knows_28 : decode prog_14_method_47_code 28 = .ok (.aload_n 0, 1) := by decide +kernel
theorem dM_knows_29 : decode prog_14_method_47_code 29 = .ok (.getfield 131, 3) := by decide +kernel
theorem dM_knows_32 : decode prog_14_method_47_code 32 = .ok (.iload_n 2, 1) := by decide +kernel
theorem dM_knows_33 : decode prog_14_method_47_code 33 = .ok (.aaload, 1) := by decide +kernel
theorem dM_knows_34 : decode prog_14_method_47_code 34 = .ok (.invokevirtual 421, 3) := by decide +kernel
theorem dM_knows_37 : decode prog_14_method_47_code 37 = .ok (.aload_n 0, 1) := by decide +kernel
theorem dM_knows_38 : decode prog_14_method_47_code 38 = .ok (.iconst 3, 1) := by decide +kernel
theorem dM_knows_39 : decode prog_14_method_47_code 39 = .ok (.iload_n 2, 1) := by decide +kernel
theorem dM_knows_40 : decode prog_14_method_47_code 40 = .ok (.aload_n 0, 1) := by decide +kernel
theorem dM_knows_41 : decode prog_14_method_47_code 41 = .ok (.getfield 134, 3) := by decide +kernel
theorem dM_knows_44 : decode prog_14_method_47_code 44 = .ok (.iload_n 2, 1) := by decide +kernel
theorem dM_knows_45 : decode prog_14_method_47_code 45 = .ok (.aaload, 1) := by decide +kernel
theorem dM_knows_46 : decode prog_14_method_47_code 46 = .ok (.invokevirtual 421, 3) := by decide +kernel
theorem dM_knows_49 : decode prog_14_method_47_code 49 = .ok (.iinc 2 1, 3) := by decide +kernel
theorem dM_knows_52 : decode prog_14_method_47_code 52 = .ok (.goto (-45), 3) := by decide +kernel
theorem dM_knows_55 : decode prog_14_method_47_code 55 = .ok (.iconst 0, 1) := by decide +kernel
theorem dM_knows_56 : decode prog_14_method_47_code 56 = .ok (.istore_n 2, 1) := by decide +kernel
theorem dM_knows_57 : decode prog_14_method_47_code 57 = .ok (.iload_n 2, 1) := by decide +kernel
theorem dM_knows_58 : decode prog_14_method_47_code 58 = .ok (.sipush 260, 3) := by decide +kernel
theorem dM_knows_61 : decode prog_14_method_47_code 61 = .ok (.if_icmp .ge 20, 3) := by decide +kernel
theorem dM_knows_64 : decode prog_14_method_47_code 64 = .ok (.aload_n 0, 1) := by decide +kernel
theorem dM_knows_65 : decode prog_14_method_47_code 65 = .ok (.getfield 128, 3) := by decide +kernel
theorem dM_knows_68 : decode prog_14_method_47_code 68 = .ok (.iconst 0, 1) := by decide +kernel
theorem dM_knows_69 : decode prog_14_method_47_code 69 = .ok (.aaload, 1) := by decide +kernel
theorem dM_knows_70 : decode prog_14_method_47_code 70 = .ok (.iload_n 2, 1) := by decide +kernel
theorem dM_knows_71 : decode prog_14_method_47_code 71 = .ok (.sipush 1000, 3) := by decide +kernel
theorem dM_knows_74 : decode prog_14_method_47_code 74 = .ok (.iastore, 1) := by decide +kernel
theorem dM_knows_75 : decode prog_14_method_47_code 75 = .ok (.iinc 2 1, 3) := by decide +kernel
theorem dM_knows_78 : decode prog_14_method_47_code 78 = .ok (.goto (-21), 3) := by decide +kernel
theorem dM_knows_81 : decode prog_14_method_47_code 81 = .ok (.aload_n 0, 1) := by decide +kernel
theorem dM_knows_82 : decode prog_14_method_47_code 82 = .ok (.iconst 1, 1) := by decide +kernel
theorem dM_knows_83 : decode prog_14_method_47_code 83 = .ok (.iconst 1, 1) := by decide +kernel
theorem dM_knows_84 : decode prog_14_method_47_code 84 = .ok (.aload_n 0, 1) := by decide +kernel
theorem dM_knows_85 : decode prog_14_method_47_code 85 = .ok (.getfield 128, 3) := by decide +kernel
theorem dM_knows_88 : decode prog_14_method_47_code 88 = .ok (.iconst 1, 1) := by decide +kernel
theorem dM_knows_89 : decode prog_14_method_47_code 89 = .ok (.aaload, 1) := by decide +kernel
theorem dM_knows_90 : decode prog_14_method_47_code 90 = .ok (.invokevirtual 421, 3) := by decide +kernel
theorem dM_knows_93 : decode prog_14_method_47_code 93 = .ok (.aload_n 0, 1) := by decide +kernel
theorem dM_knows_94 : decode prog_14_method_47_code 94 = .ok (.iconst 1, 1) := by decide +kernel
theorem dM_knows_95 : decode prog_14_method_47_code 95 = .ok (.iconst 2, 1) := by decide +kernel
theorem dM_knows_96 : decode prog_14_method_47_code 96 = .ok (.aload_n 0, 1) := by decide +kernel
theorem dM_knows_97 : decode prog_14_method_47_code 97 = .ok (.getfield 128, 3) := by decide +kernel
theorem dM_knows_100 : decode prog_14_method_47_code 100 = .ok (.iconst 2, 1) := by decide +kernel
theorem dM_knows_101 : decode prog_14_method_47_code 101 = .ok (.aaload, 1) := by decide +kernel
theorem dM_knows_102 : decode prog_14_method_47_code 102 = .ok (.invokevirtual 421, 3) := by decide +kernel
theorem dM_knows_105 : decode prog_14_method_47_code 105 = .ok (.return_, 1) := by decide +kernel
theorem dM_lastOver_0 : decode prog_14_method_67_code 0 = .ok (.aload_n 0, 1) := by decide +kernel
theorem dM_lastOver_1 : decode prog_14_method_67_code 1 = .ok (.getfield 216, 3) := by decide +kernel
theorem dM_lastOver_4 : decode prog_14_method_67_code 4 = .ok (.iconst 1, 1) := by decide +kernel
theorem dM_lastOver_5 : decode prog_14_method_67_code 5 = .ok (.isub, 1) := by decide +kernel
theorem dM_lastOver_6 : decode prog_14_method_67_code 6 = .ok (.iload_n 1, 1) := by decide +kernel
theorem dM_lastOver_7 : decode prog_14_method_67_code 7 = .ok (.if_icmp .ge 12, 3) := by decide +kernel
theorem dM_lastOver_10 : decode prog_14_method_67_code 10 = .ok (.aload_n 0, 1) := by decide +kernel
theorem dM_lastOver_11 : decode prog_14_method_67_code 11 = .ok (.getfield 216, 3) := by decide +kernel
theorem dM_lastOver_14 : decode prog_14_method_67_code 14 = .ok (.iconst 1, 1) := by decide +kernel
theorem dM_lastOver_15 : decode prog_14_method_67_code 15 = .ok (.isub, 1) := by decide +kernel
theorem dM_lastOver_16 : decode prog_14_method_67_code 16 = .ok (.goto 4, 3) := by decide +kernel
theorem dM_lastOver_19 : decode prog_14_method_67_code 19 = .ok (.iload_n 1, 1) := by decide +kernel
theorem dM_lastOver_20 : decode prog_14_method_67_code 20 = .ok (.ireturn, 1) := by decide +kernel
theorem dM_lays_0 : decode prog_14_method_11_code 0 = .ok (.aload_n 0, 1) := by decide +kernel
theorem dM_lays_1 : decode prog_14_method_11_code 1 = .ok (.getfield 13, 3) := by decide +kernel
theorem dM_lays_4 : decode prog_14_method_11_code 4 = .ok (.aload_n 0, 1) := by decide +kernel
theorem dM_lays_5 : decode prog_14_method_11_code 5 = .ok (.getfield 251, 3) := by decide +kernel
theorem dM_lays_8 : decode prog_14_method_11_code 8 = .ok (.iload_n 1, 1) := by decide +kernel
theorem dM_lays_9 : decode prog_14_method_11_code 9 = .ok (.iastore, 1) := by decide +kernel
theorem dM_lays_10 : decode prog_14_method_11_code 10 = .ok (.aload_n 0, 1) := by decide +kernel
theorem dM_lays_11 : decode prog_14_method_11_code 11 = .ok (.getfield 17, 3) := by decide +kernel
theorem dM_lays_14 : decode prog_14_method_11_code 14 = .ok (.aload_n 0, 1) := by decide +kernel
theorem dM_lays_15 : decode prog_14_method_11_code 15 = .ok (.getfield 251, 3) := by decide +kernel
theorem dM_lays_18 : decode prog_14_method_11_code 18 = .ok (.iload_n 2, 1) := by decide +kernel
theorem dM_lays_19 : decode prog_14_method_11_code 19 = .ok (.iastore, 1) := by decide +kernel
theorem dM_lays_20 : decode prog_14_method_11_code 20 = .ok (.aload_n 0, 1) := by decide +kernel
theorem dM_lays_21 : decode prog_14_method_11_code 21 = .ok (.getfield 20, 3) := by decide +kernel
theorem dM_lays_24 : decode prog_14_method_11_code 24 = .ok (.aload_n 0, 1) := by decide +kernel
theorem dM_lays_25 : decode prog_14_method_11_code 25 = .ok (.getfield 251, 3) := by decide +kernel
theorem dM_lays_28 : decode prog_14_method_11_code 28 = .ok (.iload_n 3, 1) := by decide +kernel
theorem dM_lays_29 : decode prog_14_method_11_code 29 = .ok (.iastore, 1) := by decide +kernel
theorem dM_lays_30 : decode prog_14_method_11_code 30 = .ok (.aload_n 0, 1) := by decide +kernel
theorem dM_lays_31 : decode prog_14_method_11_code 31 = .ok (.getfield 23, 3) := by decide +kernel
theorem dM_lays_34 : decode prog_14_method_11_code 34 = .ok (.aload_n 0, 1) := by decide +kernel
theorem dM_lays_35 : decode prog_14_method_11_code 35 = .ok (.getfield 251, 3) := by decide +kernel
theorem dM_lays_38 : decode prog_14_method_11_code 38 = .ok (.iload 4, 2) := by decide +kernel
theorem dM_lays_40 : decode prog_14_method_11_code 40 = .ok (.iastore, 1) := by decide +kernel
theorem dM_lays_41 : decode prog_14_method_11_code 41 = .ok (.aload_n 0, 1) := by decide +kernel
theorem dM_lays_42 : decode prog_14_method_11_code 42 = .ok (.getfield 26, 3) := by decide +kernel
theorem dM_lays_45 : decode prog_14_method_11_code 45 = .ok (.aload_n 0, 1) := by decide +kernel
theorem dM_lays_46 : decode prog_14_method_11_code 46 = .ok (.getfield 251, 3) := by decide +kernel
theorem dM_lays_49 : decode prog_14_method_11_code 49 = .ok (.aload_n 0, 1) := by decide +kernel
theorem dM_lays_50 : decode prog_14_method_11_code 50 = .ok (.invokevirtual 254, 3) := by decide +kernel
theorem dM_lays_53 : decode prog_14_method_11_code 53 = .ok (.iastore, 1) := by decide +kernel
theorem dM_lays_54 : decode prog_14_method_11_code 54 = .ok (.aload_n 0, 1) := by decide +kernel
theorem dM_lays_55 : decode prog_14_method_11_code 55 = .ok (.dup, 1) := by decide +kernel
theorem dM_lays_56 : decode prog_14_method_11_code 56 = .ok (.getfield 251, 3) := by decide +kernel
theorem dM_lays_59 : decode prog_14_method_11_code 59 = .ok (.iconst 1, 1) := by decide +kernel
theorem dM_lays_60 : decode prog_14_method_11_code 60 = .ok (.iadd, 1) := by decide +kernel
theorem dM_lays_61 : decode prog_14_method_11_code 61 = .ok (.putfield 251, 3) := by decide +kernel
theorem dM_lays_64 : decode prog_14_method_11_code 64 = .ok (.return_, 1) := by decide +kernel
theorem dM_line_0 : decode prog_14_method_40_code 0 = .ok (.aload_n 0, 1) := by decide +kernel
theorem dM_line_1 : decode prog_14_method_40_code 1 = .ok (.invokevirtual 338, 3) := by decide +kernel
theorem dM_line_4 : decode prog_14_method_40_code 4 = .ok (.aload_n 0, 1) := by decide +kernel
theorem dM_line_5 : decode prog_14_method_40_code 5 = .ok (.getfield 319, 3) := by decide +kernel
theorem dM_line_8 : decode prog_14_method_40_code 8 = .ok (.aload_n 0, 1) := by decide +kernel
theorem dM_line_9 : decode prog_14_method_40_code 9 = .ok (.getfield 322, 3) := by decide +kernel
theorem dM_line_12 : decode prog_14_method_40_code 12 = .ok (.if_icmp .ne 4, 3) := by decide +kernel
theorem dM_line_15 : decode prog_14_method_40_code 15 = .ok (.return_, 1) := by decide +kernel
theorem dM_line_16 : decode prog_14_method_40_code 16 = .ok (.iconst 4, 1) := by decide +kernel
theorem dM_line_17 : decode prog_14_method_40_code 17 = .ok (.istore_n 1, 1) := by decide +kernel
theorem dM_line_18 : decode prog_14_method_40_code 18 = .ok (.aload_n 0, 1) := by decide +kernel
theorem dM_line_19 : decode prog_14_method_40_code 19 = .ok (.ldc 113, 2) := by decide +kernel
theorem dM_line_21 : decode prog_14_method_40_code 21 = .ok (.invokevirtual 357, 3) := by decide +kernel
theorem dM_line_24 : decode prog_14_method_40_code 24 = .ok (.ifCond .eq 64, 3) := by decide +kernel
theorem dM_line_27 : decode prog_14_method_40_code 27 = .ok (.aload_n 0, 1) := by decide +kernel
theorem dM_line_28 : decode prog_14_method_40_code 28 = .ok (.iconst 3, 1) := by decide +kernel
theorem dM_line_29 : decode prog_14_method_40_code 29 = .ok (.invokevirtual 360, 3) := by decide +kernel
theorem dM_line_32 : decode prog_14_method_40_code 32 = .ok (.istore_n 1, 1) := by decide +kernel
theorem dM_line_33 : decode prog_14_method_40_code 33 = .ok (.aload_n 0, 1) := by decide +kernel
theorem dM_line_34 : decode prog_14_method_40_code 34 = .ok (.invokevirtual 338, 3) := by decide +kernel
theorem dM_line_37 : decode prog_14_method_40_code 37 = .ok (.aload_n 0, 1) := by decide +kernel
theorem dM_line_38 : decode prog_14_method_40_code 38 = .ok (.getfield 316, 3) := by decide +kernel
theorem dM_line_41 : decode prog_14_method_40_code 41 = .ok (.iconst (-1), 1) := by decide +kernel
theorem dM_line_42 : decode prog_14_method_40_code 42 = .ok (.if_icmp .ne 32, 3) := by decide +kernel
theorem dM_line_45 : decode prog_14_method_40_code 45 = .ok (.aload_n 0, 1) := by decide +kernel
theorem dM_line_46 : decode prog_14_method_40_code 46 = .ok (.getfield 319, 3) := by decide +kernel
theorem dM_line_49 : decode prog_14_method_40_code 49 = .ok (.aload_n 0, 1) := by decide +kernel
theorem dM_line_50 : decode prog_14_method_40_code 50 = .ok (.getfield 322, 3) := by decide +kernel
theorem dM_line_53 : decode prog_14_method_40_code 53 = .ok (.if_icmp .eq 17, 3) := by decide +kernel
theorem dM_line_56 : decode prog_14_method_40_code 56 = .ok (.aload_n 0, 1) := by decide +kernel
theorem dM_line_57 : decode prog_14_method_40_code 57 = .ok (.getfield 96, 3) := by decide +kernel
theorem dM_line_60 : decode prog_14_method_40_code 60 = .ok (.aload_n 0, 1) := by decide +kernel
theorem dM_line_61 : decode prog_14_method_40_code 61 = .ok (.getfield 319, 3) := by decide +kernel
theorem dM_line_64 : decode prog_14_method_40_code 64 = .ok (.baload, 1) := by decide +kernel
theorem dM_line_65 : decode prog_14_method_40_code 65 = .ok (.bipush 58, 2) := by decide +kernel
theorem dM_line_67 : decode prog_14_method_40_code 67 = .ok (.if_icmp .eq 7, 3) := by decide +kernel
theorem dM_line_70 : decode prog_14_method_40_code 70 = .ok (.aload_n 0, 1) := by decide +kernel
theorem dM_line_71 : decode prog_14_method_40_code 71 = .ok (.invokevirtual 345, 3) := by decide +kernel
theorem dM_line_74 : decode prog_14_method_40_code 74 = .ok (.aload_n 0, 1) := by decide +kernel
theorem dM_line_75 : decode prog_14_method_40_code 75 = .ok (.dup, 1) := by decide +kernel
theorem dM_line_76 : decode prog_14_method_40_code 76 = .ok (.getfield 319, 3) := by decide +kernel
theorem dM_line_79 : decode prog_14_method_40_code 79 = .ok (.iconst 1, 1) := by decide +kernel
theorem dM_line_80 : decode prog_14_method_40_code 80 = .ok (.iadd, 1) := by decide +kernel
theorem dM_line_81 : decode prog_14_method_40_code 81 = .ok (.putfield 319, 3) := by decide +kernel
theorem dM_line_84 : decode prog_14_method_40_code 84 = .ok (.aload_n 0, 1) := by decide +kernel
theorem dM_line_85 : decode prog_14_method_40_code 85 = .ok (.invokevirtual 338, 3) := by decide +kernel
theorem dM_line_88 : decode prog_14_method_40_code 88 = .ok (.aload_n 0, 1) := by decide +kernel
theorem dM_line_89 : decode prog_14_method_40_code 89 = .ok (.getfield 316, 3) := by decide +kernel
theorem dM_line_92 : decode prog_14_method_40_code 92 = .ok (.iconst (-1), 1) := by decide +kernel
theorem dM_line_93 : decode prog_14_method_40_code 93 = .ok (.if_icmp .eq 4, 3) := by decide +kernel
theorem dM_line_96 : decode prog_14_method_40_code 96 = .ok (.return_, 1) := by decide +kernel
theorem dM_line_97 : decode prog_14_method_40_code 97 = .ok (.aload_n 0, 1) := by decide +kernel
theorem dM_line_98 : decode prog_14_method_40_code 98 = .ok (.iload_n 1, 1) := by decide +kernel
theorem dM_line_99 : decode prog_14_method_40_code 99 = .ok (.invokevirtual 404, 3) := by decide +kernel
theorem dM_line_102 : decode prog_14_method_40_code 102 = .ok (.aload_n 0, 1) := by decide +kernel
theorem dM_line_103 : decode prog_14_method_40_code 103 = .ok (.invokevirtual 338, 3) := by decide +kernel
theorem dM_line_106 : decode prog_14_method_40_code 106 = .ok (.aload_n 0, 1) := by decide +kernel
theorem dM_line_107 : decode prog_14_method_40_code 107 = .ok (.getfield 319, 3) := by decide +kernel
theorem dM_line_110 : decode prog_14_method_40_code 110 = .ok (.aload_n 0, 1) := by decide +kernel
theorem dM_line_111 : decode prog_14_method_40_code 111 = .ok (.getfield 322, 3) := by decide +kernel
theorem dM_line_114 : decode prog_14_method_40_code 114 = .ok (.if_icmp .ge 7, 3) := by decide +kernel
theorem dM_line_117 : decode prog_14_method_40_code 117 = .ok (.aload_n 0, 1) := by decide +kernel
theorem dM_line_118 : decode prog_14_method_40_code 118 = .ok (.invokevirtual 345, 3) := by decide +kernel
theorem dM_line_121 : decode prog_14_method_40_code 121 = .ok (.return_, 1) := by decide +kernel
theorem dM_many_0 : decode prog_14_method_91_code 0 = .ok (.iconst 0, 1) := by decide +kernel
theorem dM_many_1 : decode prog_14_method_91_code 1 = .ok (.istore_n 1, 1) := by decide +kernel
theorem dM_many_2 : decode prog_14_method_91_code 2 = .ok (.iconst 0, 1) := by decide +kernel
theorem dM_many_3 : decode prog_14_method_91_code 3 = .ok (.istore_n 2, 1) := by decide +kernel
theorem dM_many_4 : decode prog_14_method_91_code 4 = .ok (.iload_n 2, 1) := by decide +kernel
theorem dM_many_5 : decode prog_14_method_91_code 5 = .ok (.bipush 7, 2) := by decide +kernel
theorem dM_many_7 : decode prog_14_method_91_code 7 = .ok (.if_icmp .ge 17, 3) := by decide +kernel
theorem dM_many_10 : decode prog_14_method_91_code 10 = .ok (.iload_n 1, 1) := by decide +kernel
theorem dM_many_11 : decode prog_14_method_91_code 11 = .ok (.iload_n 0, 1) := by decide +kernel
theorem dM_many_12 : decode prog_14_method_91_code 12 = .ok (.iload_n 2, 1) := by decide +kernel
theorem dM_many_13 : decode prog_14_method_91_code 13 = .ok (.ishr, 1) := by decide +kernel
theorem dM_many_14 : decode prog_14_method_91_code 14 = .ok (.iconst 1, 1) := by decide +kernel
theorem dM_many_15 : decode prog_14_method_91_code 15 = .ok (.iand, 1) := by decide +kernel
theorem dM_many_16 : decode prog_14_method_91_code 16 = .ok (.iadd, 1) := by decide +kernel
theorem dM_many_17 : decode prog_14_method_91_code 17 = .ok (.istore_n 1, 1) := by decide +kernel
theorem dM_many_18 : decode prog_14_method_91_code 18 = .ok (.iinc 2 1, 3) := by decide +kernel
theorem dM_many_21 : decode prog_14_method_91_code 21 = .ok (.goto (-17), 3) := by decide +kernel
theorem dM_many_24 : decode prog_14_method_91_code 24 = .ok (.iload_n 1, 1) := by decide +kernel
theorem dM_many_25 : decode prog_14_method_91_code 25 = .ok (.ireturn, 1) := by decide +kernel
theorem dM_mosts_0 : decode prog_14_method_101_code 0 = .ok (.aload_n 0, 1) := by decide +kernel
theorem dM_mosts_1 : decode prog_14_method_101_code 1 = .ok (.getfield 199, 3) := by decide +kernel
theorem dM_mosts_4 : decode prog_14_method_101_code 4 = .ok (.iload_n 1, 1) := by decide +kernel
theorem dM_mosts_5 : decode prog_14_method_101_code 5 = .ok (.iload_n 1, 1) := by decide +kernel
theorem dM_mosts_6 : decode prog_14_method_101_code 6 = .ok (.ifCond .ne 7, 3) := by decide +kernel
theorem dM_mosts_9 : decode prog_14_method_101_code 9 = .ok (.iconst 0, 1) := by decide +kernel
theorem dM_mosts_10 : decode prog_14_method_101_code 10 = .ok (.goto 4, 3) := by decide +kernel
theorem dM_mosts_13 : decode prog_14_method_101_code 13 = .ok (.iconst (-1), 1) := by decide +kernel
theorem dM_mosts_14 : decode prog_14_method_101_code 14 = .ok (.iastore, 1) := by decide +kernel
theorem dM_mosts_15 : decode prog_14_method_101_code 15 = .ok (.iload_n 1, 1) := by decide +kernel
theorem dM_mosts_16 : decode prog_14_method_101_code 16 = .ok (.iload_n 1, 1) := by decide +kernel
theorem dM_mosts_17 : decode prog_14_method_101_code 17 = .ok (.ineg, 1) := by decide +kernel
theorem dM_mosts_18 : decode prog_14_method_101_code 18 = .ok (.iand, 1) := by decide +kernel
theorem dM_mosts_19 : decode prog_14_method_101_code 19 = .ok (.istore_n 2, 1) := by decide +kernel
theorem dM_mosts_20 : decode prog_14_method_101_code 20 = .ok (.iload_n 1, 1) := by decide +kernel
theorem dM_mosts_21 : decode prog_14_method_101_code 21 = .ok (.istore_n 3, 1) := by decide +kernel
theorem dM_mosts_22 : decode prog_14_method_101_code 22 = .ok (.iload_n 3, 1) := by decide +kernel
theorem dM_mosts_23 : decode prog_14_method_101_code 23 = .ok (.ifCond .le 85, 3) := by decide +kernel
theorem dM_mosts_26 : decode prog_14_method_101_code 26 = .ok (.iload_n 3, 1) := by decide +kernel
theorem dM_mosts_27 : decode prog_14_method_101_code 27 = .ok (.iload_n 2, 1) := by decide +kernel
theorem dM_mosts_28 : decode prog_14_method_101_code 28 = .ok (.iand, 1) := by decide +kernel
theorem dM_mosts_29 : decode prog_14_method_101_code 29 = .ok (.ifCond .eq 70, 3) := by decide +kernel
theorem dM_mosts_32 : decode prog_14_method_101_code 32 = .ok (.aload_n 0, 1) := by decide +kernel
theorem dM_mosts_33 : decode prog_14_method_101_code 33 = .ok (.getfield 202, 3) := by decide +kernel
theorem dM_mosts_36 : decode prog_14_method_101_code 36 = .ok (.iload_n 3, 1) := by decide +kernel
theorem dM_mosts_37 : decode prog_14_method_101_code 37 = .ok (.laload, 1) := by decide +kernel
theorem dM_mosts_38 : decode prog_14_method_101_code 38 = .ok (.lconst 0, 1) := by decide +kernel
theorem dM_mosts_39 : decode prog_14_method_101_code 39 = .ok (.lcmp, 1) := by decide +kernel
theorem dM_mosts_40 : decode prog_14_method_101_code 40 = .ok (.ifCond .ne 59, 3) := by decide +kernel
theorem dM_mosts_43 : decode prog_14_method_101_code 43 = .ok (.aload_n 0, 1) := by decide +kernel
theorem dM_mosts_44 : decode prog_14_method_101_code 44 = .ok (.getfield 199, 3) := by decide +kernel
theorem dM_mosts_47 : decode prog_14_method_101_code 47 = .ok (.iload_n 1, 1) := by decide +kernel
theorem dM_mosts_48 : decode prog_14_method_101_code 48 = .ok (.iload_n 3, 1) := by decide +kernel
theorem dM_mosts_49 : decode prog_14_method_101_code 49 = .ok (.iconst (-1), 1) := by decide +kernel
theorem dM_mosts_50 : decode prog_14_method_101_code 50 = .ok (.ixor, 1) := by decide +kernel
theorem dM_mosts_51 : decode prog_14_method_101_code 51 = .ok (.iand, 1) := by decide +kernel
theorem dM_mosts_52 : decode prog_14_method_101_code 52 = .ok (.iaload, 1) := by decide +kernel
theorem dM_mosts_53 : decode prog_14_method_101_code 53 = .ok (.iconst (-1), 1) := by decide +kernel
theorem dM_mosts_54 : decode prog_14_method_101_code 54 = .ok (.if_icmp .ne 6, 3) := by decide +kernel
theorem dM_mosts_57 : decode prog_14_method_101_code 57 = .ok (.goto 42, 3) := by decide +kernel
theorem dM_mosts_60 : decode prog_14_method_101_code 60 = .ok (.aload_n 0, 1) := by decide +kernel
theorem dM_mosts_61 : decode prog_14_method_101_code 61 = .ok (.getfield 199, 3) := by decide +kernel
theorem dM_mosts_64 : decode prog_14_method_101_code 64 = .ok (.iload_n 1, 1) := by decide +kernel
theorem dM_mosts_65 : decode prog_14_method_101_code 65 = .ok (.iload_n 3, 1) := by decide +kernel
theorem dM_mosts_66 : decode prog_14_method_101_code 66 = .ok (.iconst (-1), 1) := by decide +kernel
theorem dM_mosts_67 : decode prog_14_method_101_code 67 = .ok (.ixor, 1) := by decide +kernel
theorem dM_mosts_68 : decode prog_14_method_101_code 68 = .ok (.iand, 1) := by decide +kernel
theorem dM_mosts_69 : decode prog_14_method_101_code 69 = .ok (.iaload, 1) := by decide +kernel
theorem dM_mosts_70 : decode prog_14_method_101_code 70 = .ok (.iconst 1, 1) := by decide +kernel
theorem dM_mosts_71 : decode prog_14_method_101_code 71 = .ok (.iadd, 1) := by decide +kernel
theorem dM_mosts_72 : decode prog_14_method_101_code 72 = .ok (.aload_n 0, 1) := by decide +kernel
theorem dM_mosts_73 : decode prog_14_method_101_code 73 = .ok (.getfield 199, 3) := by decide +kernel
theorem dM_mosts_76 : decode prog_14_method_101_code 76 = .ok (.iload_n 1, 1) := by decide +kernel
theorem dM_mosts_77 : decode prog_14_method_101_code 77 = .ok (.iaload, 1) := by decide +kernel
theorem dM_mosts_78 : decode prog_14_method_101_code 78 = .ok (.if_icmp .le 21, 3) := by decide +kernel
theorem dM_mosts_81 : decode prog_14_method_101_code 81 = .ok (.aload_n 0, 1) := by decide +kernel
theorem dM_mosts_82 : decode prog_14_method_101_code 82 = .ok (.getfield 199, 3) := by decide +kernel
theorem dM_mosts_85 : decode prog_14_method_101_code 85 = .ok (.iload_n 1, 1) := by decide +kernel
theorem dM_mosts_86 : decode prog_14_method_101_code 86 = .ok (.aload_n 0, 1) := by decide +kernel
theorem dM_mosts_87 : decode prog_14_method_101_code 87 = .ok (.getfield 199, 3) := by decide +kernel
theorem dM_mosts_90 : decode prog_14_method_101_code 90 = .ok (.iload_n 1, 1) := by decide +kernel
theorem dM_mosts_91 : decode prog_14_method_101_code 91 = .ok (.iload_n 3, 1) := by decide +kernel
theorem dM_mosts_92 : decode prog_14_method_101_code 92 = .ok (.iconst (-1), 1) := by decide +kernel
theorem dM_mosts_93 : decode prog_14_method_101_code 93 = .ok (.ixor, 1) := by decide +kernel
theorem dM_mosts_94 : decode prog_14_method_101_code 94 = .ok (.iand, 1) := by decide +kernel
theorem dM_mosts_95 : decode prog_14_method_101_code 95 = .ok (.iaload, 1) := by decide +kernel
theorem dM_mosts_96 : decode prog_14_method_101_code 96 = .ok (.iconst 1, 1) := by decide +kernel
theorem dM_mosts_97 : decode prog_14_method_101_code 97 = .ok (.iadd, 1) := by decide +kernel
theorem dM_mosts_98 : decode prog_14_method_101_code 98 = .ok (.iastore, 1) := by decide +kernel
theorem dM_mosts_99 : decode prog_14_method_101_code 99 = .ok (.iload_n 3, 1) := by decide +kernel
theorem dM_mosts_100 : decode prog_14_method_101_code 100 = .ok (.iconst 1, 1) := by decide +kernel
theorem dM_mosts_101 : decode prog_14_method_101_code 101 = .ok (.isub, 1) := by decide +kernel
theorem dM_mosts_102 : decode prog_14_method_101_code 102 = .ok (.iload_n 1, 1) := by decide +kernel
theorem dM_mosts_103 : decode prog_14_method_101_code 103 = .ok (.iand, 1) := by decide +kernel
theorem dM_mosts_104 : decode prog_14_method_101_code 104 = .ok (.istore_n 3, 1) := by decide +kernel
theorem dM_mosts_105 : decode prog_14_method_101_code 105 = .ok (.goto (-83), 3) := by decide +kernel
theorem dM_mosts_108 : decode prog_14_method_101_code 108 = .ok (.return_, 1) := by decide +kernel
theorem dM_nameOf_0 : decode prog_14_method_98_code 0 = .ok (.iload_n 0, 1) := by decide +kernel
theorem dM_nameOf_1 : decode prog_14_method_98_code 1 = .ok (.bipush 20, 2) := by decide +kernel
theorem dM_nameOf_3 : decode prog_14_method_98_code 3 = .ok (.if_icmp .ne 8, 3) := by decide +kernel
theorem dM_nameOf_6 : decode prog_14_method_98_code 6 = .ok (.bipush 40, 2) := by decide +kernel
theorem dM_nameOf_8 : decode prog_14_method_98_code 8 = .ok (.goto 31, 3) := by decide +kernel
theorem dM_nameOf_11 : decode prog_14_method_98_code 11 = .ok (.iload_n 0, 1) := by decide +kernel
theorem dM_nameOf_12 : decode prog_14_method_98_code 12 = .ok (.bipush 21, 2) := by decide +kernel
theorem dM_nameOf_14 : decode prog_14_method_98_code 14 = .ok (.if_icmp .ne 8, 3) := by decide +kernel
theorem dM_nameOf_17 : decode prog_14_method_98_code 17 = .ok (.bipush 41, 2) := by decide +kernel
theorem dM_nameOf_19 : decode prog_14_method_98_code 19 = .ok (.goto 20, 3) := by decide +kernel
theorem dM_nameOf_22 : decode prog_14_method_98_code 22 = .ok (.iload_n 0, 1) := by decide +kernel
theorem dM_nameOf_23 : decode prog_14_method_98_code 23 = .ok (.bipush 16, 2) := by decide +kernel
theorem dM_nameOf_25 : decode prog_14_method_98_code 25 = .ok (.if_icmp .ge 7, 3) := by decide +kernel
theorem dM_nameOf_28 : decode prog_14_method_98_code 28 = .ok (.iload_n 0, 1) := by decide +kernel
theorem dM_nameOf_29 : decode prog_14_method_98_code 29 = .ok (.goto 10, 3) := by decide +kernel
theorem dM_nameOf_32 : decode prog_14_method_98_code 32 = .ok (.iload_n 0, 1) := by decide +kernel
theorem dM_nameOf_33 : decode prog_14_method_98_code 33 = .ok (.bipush 16, 2) := by decide +kernel
theorem dM_nameOf_35 : decode prog_14_method_98_code 35 = .ok (.isub, 1) := by decide +kernel
theorem dM_nameOf_36 : decode prog_14_method_98_code 36 = .ok (.bipush 20, 2) := by decide +kernel
theorem dM_nameOf_38 : decode prog_14_method_98_code 38 = .ok (.iadd, 1) := by decide +kernel
theorem dM_nameOf_39 : decode prog_14_method_98_code 39 = .ok (.ireturn, 1) := by decide +kernel
theorem dM_near_0 : decode prog_14_method_3_code 0 = .ok (.lload_n 0, 1) := by decide +kernel
theorem dM_near_1 : decode prog_14_method_3_code 1 = .ok (.lload_n 2, 1) := by decide +kernel
theorem dM_near_2 : decode prog_14_method_3_code 2 = .ok (.lcmp, 1) := by decide +kernel
theorem dM_near_3 : decode prog_14_method_3_code 3 = .ok (.ifCond .ge 7, 3) := by decide +kernel
theorem dM_near_6 : decode prog_14_method_3_code 6 = .ok (.lload_n 2, 1) := by decide +kernel
theorem dM_near_7 : decode prog_14_method_3_code 7 = .ok (.goto 16, 3) := by decide +kernel
theorem dM_near_10 : decode prog_14_method_3_code 10 = .ok (.lload_n 0, 1) := by decide +kernel
theorem dM_near_11 : decode prog_14_method_3_code 11 = .ok (.lload 4, 2) := by decide +kernel
theorem dM_near_13 : decode prog_14_method_3_code 13 = .ok (.lcmp, 1) := by decide +kernel
theorem dM_near_14 : decode prog_14_method_3_code 14 = .ok (.ifCond .le 8, 3) := by decide +kernel
theorem dM_near_17 : decode prog_14_method_3_code 17 = .ok (.lload 4, 2) := by decide +kernel
theorem dM_near_19 : decode prog_14_method_3_code 19 = .ok (.goto 4, 3) := by decide +kernel
theorem dM_near_22 : decode prog_14_method_3_code 22 = .ok (.lload_n 0, 1) := by decide +kernel
theorem dM_near_23 : decode prog_14_method_3_code 23 = .ok (.lreturn, 1) := by decide +kernel
theorem dM_number_0 : decode prog_14_method_34_code 0 = .ok (.aload_n 0, 1) := by decide +kernel
theorem dM_number_1 : decode prog_14_method_34_code 1 = .ok (.invokevirtual 338, 3) := by decide +kernel
theorem dM_number_4 : decode prog_14_method_34_code 4 = .ok (.aload_n 0, 1) := by decide +kernel
theorem dM_number_5 : decode prog_14_method_34_code 5 = .ok (.getfield 316, 3) := by decide +kernel
theorem dM_number_8 : decode prog_14_method_34_code 8 = .ok (.iconst (-1), 1) := by decide +kernel
theorem dM_number_9 : decode prog_14_method_34_code 9 = .ok (.if_icmp .eq 5, 3) := by decide +kernel
theorem dM_number_12 : decode prog_14_method_34_code 12 = .ok (.iconst 0, 1) := by decide +kernel
theorem dM_number_13 : decode prog_14_method_34_code 13 = .ok (.ireturn, 1) := by decide +kernel
theorem dM_number_14 : decode prog_14_method_34_code 14 = .ok (.aload_n 0, 1) := by decide +kernel
theorem dM_number_15 : decode prog_14_method_34_code 15 = .ok (.getfield 319, 3) := by decide +kernel
theorem dM_number_18 : decode prog_14_method_34_code 18 = .ok (.istore_n 2, 1) := by decide +kernel
theorem dM_number_19 : decode prog_14_method_34_code 19 = .ok (.lconst 0, 1) := by decide +kernel
theorem dM_number_20 : decode prog_14_method_34_code 20 = .ok (.lstore_n 3, 1) := by decide +kernel
theorem dM_number_21 : decode prog_14_method_34_code 21 = .ok (.iload_n 2, 1) := by decide +kernel
theorem dM_number_22 : decode prog_14_method_34_code 22 = .ok (.aload_n 0, 1) := by decide +kernel
theorem dM_number_23 : decode prog_14_method_34_code 23 = .ok (.getfield 322, 3) := by decide +kernel
theorem dM_number_26 : decode prog_14_method_34_code 26 = .ok (.if_icmp .ge 46, 3) := by decide +kernel
theorem dM_number_29 : decode prog_14_method_34_code 29 = .ok (.aload_n 0, 1) := by decide +kernel
theorem dM_number_30 : decode prog_14_method_34_code 30 = .ok (.getfield 96, 3) := by decide +kernel
theorem dM_number_33 : decode prog_14_method_34_code 33 = .ok (.iload_n 2, 1) := by decide +kernel
theorem dM_number_34 : decode prog_14_method_34_code 34 = .ok (.baload, 1) := by decide +kernel
theorem dM_number_35 : decode prog_14_method_34_code 35 = .ok (.invokestatic 348, 3) := by decide +kernel
theorem dM_number_38 : decode prog_14_method_34_code 38 = .ok (.ifCond .eq 34, 3) := by decide +kernel
theorem dM_number_41 : decode prog_14_method_34_code 41 = .ok (.ldc2_w 351, 3) := by decide +kernel
theorem dM_number_44 : decode prog_14_method_34_code 44 = .ok (.lload_n 3, 1) := by decide +kernel
theorem dM_number_45 : decode prog_14_method_34_code 45 = .ok (.lmul, 1) := by decide +kernel
theorem dM_number_46 : decode prog_14_method_34_code 46 = .ok (.aload_n 0, 1) := by decide +kernel
theorem dM_number_47 : decode prog_14_method_34_code 47 = .ok (.getfield 96, 3) := by decide +kernel
theorem dM_number_50 : decode prog_14_method_34_code 50 = .ok (.iload_n 2, 1) := by decide +kernel
theorem dM_number_51 : decode prog_14_method_34_code 51 = .ok (.baload, 1) := by decide +kernel
theorem dM_number_52 : decode prog_14_method_34_code 52 = .ok (.i2l, 1) := by decide +kernel
theorem dM_number_53 : decode prog_14_method_34_code 53 = .ok (.ladd, 1) := by decide +kernel
theorem dM_number_54 : decode prog_14_method_34_code 54 = .ok (.ldc2_w 353, 3) := by decide +kernel
theorem dM_number_57 : decode prog_14_method_34_code 57 = .ok (.lsub, 1) := by decide +kernel
theorem dM_number_58 : decode prog_14_method_34_code 58 = .ok (.lconst 0, 1) := by decide +kernel
theorem dM_number_59 : decode prog_14_method_34_code 59 = .ok (.ldc2_w 210, 3) := by decide +kernel
theorem dM_number_62 : decode prog_14_method_34_code 62 = .ok (.invokestatic 212, 3) := by decide +kernel
theorem dM_number_65 : decode prog_14_method_34_code 65 = .ok (.lstore_n 3, 1) := by decide +kernel
theorem dM_number_66 : decode prog_14_method_34_code 66 = .ok (.iinc 2 1, 3) := by decide +kernel
theorem dM_number_69 : decode prog_14_method_34_code 69 = .ok (.goto (-48), 3) := by decide +kernel
theorem dM_number_72 : decode prog_14_method_34_code 72 = .ok (.iload_n 2, 1) := by decide +kernel
theorem dM_number_73 : decode prog_14_method_34_code 73 = .ok (.aload_n 0, 1) := by decide +kernel
theorem dM_number_74 : decode prog_14_method_34_code 74 = .ok (.getfield 319, 3) := by decide +kernel
theorem dM_number_77 : decode prog_14_method_34_code 77 = .ok (.if_icmp .eq 10, 3) := by decide +kernel
theorem dM_number_80 : decode prog_14_method_34_code 80 = .ok (.lload_n 3, 1) := by decide +kernel
theorem dM_number_81 : decode prog_14_method_34_code 81 = .ok (.iload_n 1, 1) := by decide +kernel
theorem dM_number_82 : decode prog_14_method_34_code 82 = .ok (.i2l, 1) := by decide +kernel
theorem dM_number_83 : decode prog_14_method_34_code 83 = .ok (.lcmp, 1) := by decide +kernel
theorem dM_number_84 : decode prog_14_method_34_code 84 = .ok (.ifCond .le 9, 3) := by decide +kernel
theorem dM_number_87 : decode prog_14_method_34_code 87 = .ok (.aload_n 0, 1) := by decide +kernel
theorem dM_number_88 : decode prog_14_method_34_code 88 = .ok (.invokevirtual 345, 3) := by decide +kernel
theorem dM_number_91 : decode prog_14_method_34_code 91 = .ok (.iconst 0, 1) := by decide +kernel
theorem dM_number_92 : decode prog_14_method_34_code 92 = .ok (.ireturn, 1) := by decide +kernel
theorem dM_number_93 : decode prog_14_method_34_code 93 = .ok (.aload_n 0, 1) := by decide +kernel
theorem dM_number_94 : decode prog_14_method_34_code 94 = .ok (.iload_n 2, 1) := by decide +kernel
theorem dM_number_95 : decode prog_14_method_34_code 95 = .ok (.putfield 319, 3) := by decide +kernel
theorem dM_number_98 : decode prog_14_method_34_code 98 = .ok (.lload_n 3, 1) := by decide +kernel
theorem dM_number_99 : decode prog_14_method_34_code 99 = .ok (.l2i, 1) := by decide +kernel
theorem dM_number_100 : decode prog_14_method_34_code 100 = .ok (.ireturn, 1) := by decide +kernel
theorem dM_open_0 : decode prog_14_method_8_code 0 = .ok (.aload_n 0, 1) := by decide +kernel
theorem dM_open_1 : decode prog_14_method_8_code 1 = .ok (.iload_n 1, 1) := by decide +kernel
theorem dM_open_2 : decode prog_14_method_8_code 2 = .ok (.invokevirtual 229, 3) := by decide +kernel
theorem dM_open_5 : decode prog_14_method_8_code 5 = .ok (.ireturn, 1) := by decide +kernel
theorem dM_paid_0 : decode prog_14_method_105_code 0 = .ok (.iload 4, 2) := by decide +kernel
theorem dM_paid_2 : decode prog_14_method_105_code 2 = .ok (.iconst 2, 1) := by decide +kernel
theorem dM_paid_3 : decode prog_14_method_105_code 3 = .ok (.if_icmp .ne 19, 3) := by decide +kernel
theorem dM_paid_6 : decode prog_14_method_105_code 6 = .ok (.lload_n 2, 1) := by decide +kernel
theorem dM_paid_7 : decode prog_14_method_105_code 7 = .ok (.lconst 0, 1) := by decide +kernel
theorem dM_paid_8 : decode prog_14_method_105_code 8 = .ok (.lcmp, 1) := by decide +kernel
theorem dM_paid_9 : decode prog_14_method_105_code 9 = .ok (.ifCond .ge 8, 3) := by decide +kernel
theorem dM_paid_12 : decode prog_14_method_105_code 12 = .ok (.lload_n 2, 1) := by decide +kernel
theorem dM_paid_13 : decode prog_14_method_105_code 13 = .ok (.lneg, 1) := by decide +kernel
theorem dM_paid_14 : decode prog_14_method_105_code 14 = .ok (.goto 4, 3) := by decide +kernel
theorem dM_paid_17 : decode prog_14_method_105_code 17 = .ok (.lload_n 2, 1) := by decide +kernel
theorem dM_paid_18 : decode prog_14_method_105_code 18 = .ok (.invokestatic 482, 3) := by decide +kernel
theorem dM_paid_21 : decode prog_14_method_105_code 21 = .ok (.ireturn, 1) := by decide +kernel
theorem dM_paid_22 : decode prog_14_method_105_code 22 = .ok (.lload_n 2, 1) := by decide +kernel
theorem dM_paid_23 : decode prog_14_method_105_code 23 = .ok (.lconst 0, 1) := by decide +kernel
theorem dM_paid_24 : decode prog_14_method_105_code 24 = .ok (.lcmp, 1) := by decide +kernel
theorem dM_paid_25 : decode prog_14_method_105_code 25 = .ok (.ifCond .ge 7, 3) := by decide +kernel
theorem dM_paid_28 : decode prog_14_method_105_code 28 = .ok (.iconst 1, 1) := by decide +kernel
theorem dM_paid_29 : decode prog_14_method_105_code 29 = .ok (.goto 4, 3) := by decide +kernel
theorem dM_paid_32 : decode prog_14_method_105_code 32 = .ok (.iconst 0, 1) := by decide +kernel
theorem dM_paid_33 : decode prog_14_method_105_code 33 = .ok (.iload 4, 2) := by decide +kernel
theorem dM_paid_35 : decode prog_14_method_105_code 35 = .ok (.ifCond .ne 7, 3) := by decide +kernel
theorem dM_paid_38 : decode prog_14_method_105_code 38 = .ok (.iconst 1, 1) := by decide +kernel
theorem dM_paid_39 : decode prog_14_method_105_code 39 = .ok (.goto 4, 3) := by decide +kernel
theorem dM_paid_42 : decode prog_14_method_105_code 42 = .ok (.iconst 0, 1) := by decide +kernel
theorem dM_paid_43 : decode prog_14_method_105_code 43 = .ok (.if_icmp .ne 7, 3) := by decide +kernel
theorem dM_paid_46 : decode prog_14_method_105_code 46 = .ok (.iload_n 0, 1) := by decide +kernel
theorem dM_paid_47 : decode prog_14_method_105_code 47 = .ok (.goto 4, 3) := by decide +kernel
theorem dM_paid_50 : decode prog_14_method_105_code 50 = .ok (.iload_n 1, 1) := by decide +kernel
theorem dM_paid_51 : decode prog_14_method_105_code 51 = .ok (.invokestatic 568, 3) := by decide +kernel
theorem dM_paid_54 : decode prog_14_method_105_code 54 = .ok (.ireturn, 1) := by decide +kernel
theorem dM_paper_0 : decode prog_14_method_17_code 0 = .ok (.iload_n 1, 1) := by decide +kernel
theorem dM_paper_1 : decode prog_14_method_17_code 1 = .ok (.i2l, 1) := by decide +kernel
theorem dM_paper_2 : decode prog_14_method_17_code 2 = .ok (.lconst 0, 1) := by decide +kernel
theorem dM_paper_3 : decode prog_14_method_17_code 3 = .ok (.ldc2_w 237, 3) := by decide +kernel
theorem dM_paper_6 : decode prog_14_method_17_code 6 = .ok (.invokestatic 222, 3) := by decide +kernel
theorem dM_paper_9 : decode prog_14_method_17_code 9 = .ok (.ifCond .eq 22, 3) := by decide +kernel
theorem dM_paper_12 : decode prog_14_method_17_code 12 = .ok (.iload_n 2, 1) := by decide +kernel
theorem dM_paper_13 : decode prog_14_method_17_code 13 = .ok (.i2l, 1) := by decide +kernel
theorem dM_paper_14 : decode prog_14_method_17_code 14 = .ok (.lconst 0, 1) := by decide +kernel
theorem dM_paper_15 : decode prog_14_method_17_code 15 = .ok (.ldc2_w 233, 3) := by decide +kernel
theorem dM_paper_18 : decode prog_14_method_17_code 18 = .ok (.invokestatic 222, 3) := by decide +kernel
theorem dM_paper_21 : decode prog_14_method_17_code 21 = .ok (.ifCond .eq 10, 3) := by decide +kernel
theorem dM_paper_24 : decode prog_14_method_17_code 24 = .ok (.aload_n 0, 1) := by decide +kernel
theorem dM_paper_25 : decode prog_14_method_17_code 25 = .ok (.getfield 216, 3) := by decide +kernel
theorem dM_paper_28 : decode prog_14_method_17_code 28 = .ok (.ifCond .eq 5, 3) := by decide +kernel
theorem dM_paper_31 : decode prog_14_method_17_code 31 = .ok (.iconst 0, 1) := by decide +kernel
theorem dM_paper_32 : decode prog_14_method_17_code 32 = .ok (.ireturn, 1) := by decide +kernel
theorem dM_paper_33 : decode prog_14_method_17_code 33 = .ok (.aload_n 0, 1) := by decide +kernel
theorem dM_paper_34 : decode prog_14_method_17_code 34 = .ok (.getfield 41, 3) := by decide +kernel
theorem dM_paper_37 : decode prog_14_method_17_code 37 = .ok (.iload_n 1, 1) := by decide +kernel
theorem dM_paper_38 : decode prog_14_method_17_code 38 = .ok (.iload_n 2, 1) := by decide +kernel
theorem dM_paper_39 : decode prog_14_method_17_code 39 = .ok (.iastore, 1) := by decide +kernel
theorem dM_paper_40 : decode prog_14_method_17_code 40 = .ok (.iconst 1, 1) := by decide +kernel
theorem dM_paper_41 : decode prog_14_method_17_code 41 = .ok (.ireturn, 1) := by decide +kernel
theorem dM_papers_0 : decode prog_14_method_49_code 0 = .ok (.iconst 0, 1) := by decide +kernel
theorem dM_papers_1 : decode prog_14_method_49_code 1 = .ok (.istore_n 3, 1) := by decide +kernel
theorem dM_papers_2 : decode prog_14_method_49_code 2 = .ok (.iload_n 3, 1) := by decide +kernel
theorem dM_papers_3 : decode prog_14_method_49_code 3 = .ok (.bipush 8, 2) := by decide +kernel
theorem dM_papers_5 : decode prog_14_method_49_code 5 = .ok (.if_icmp .ge 48, 3) := by decide +kernel
theorem dM_papers_8 : decode prog_14_method_49_code 8 = .ok (.aload_n 0, 1) := by decide +kernel
theorem dM_papers_9 : decode prog_14_method_49_code 9 = .ok (.getfield 145, 3) := by decide +kernel
theorem dM_papers_12 : decode prog_14_method_49_code 12 = .ok (.iload_n 1, 1) := by decide +kernel
theorem dM_papers_13 : decode prog_14_method_49_code 13 = .ok (.aaload, 1) := by decide +kernel
theorem dM_papers_14 : decode prog_14_method_49_code 14 = .ok (.iload_n 3, 1) := by decide +kernel
theorem dM_papers_15 : decode prog_14_method_49_code 15 = .ok (.aload_n 0, 1) := by decide +kernel
theorem dM_papers_16 : decode prog_14_method_49_code 16 = .ok (.getfield 145, 3) := by decide +kernel
theorem dM_papers_19 : decode prog_14_method_49_code 19 = .ok (.iload_n 1, 1) := by decide +kernel
theorem dM_papers_20 : decode prog_14_method_49_code 20 = .ok (.aaload, 1) := by decide +kernel
theorem dM_papers_21 : decode prog_14_method_49_code 21 = .ok (.iload_n 3, 1) := by decide +kernel
theorem dM_papers_22 : decode prog_14_method_49_code 22 = .ok (.laload, 1) := by decide +kernel
theorem dM_papers_23 : decode prog_14_method_49_code 23 = .ok (.aload_n 0, 1) := by decide +kernel
theorem dM_papers_24 : decode prog_14_method_49_code 24 = .ok (.getfield 134, 3) := by decide +kernel
theorem dM_papers_27 : decode prog_14_method_49_code 27 = .ok (.iload_n 3, 1) := by decide +kernel
theorem dM_papers_28 : decode prog_14_method_49_code 28 = .ok (.aaload, 1) := by decide +kernel
theorem dM_papers_29 : decode prog_14_method_49_code 29 = .ok (.iload_n 2, 1) := by decide +kernel
theorem dM_papers_30 : decode prog_14_method_49_code 30 = .ok (.iaload, 1) := by decide +kernel
theorem dM_papers_31 : decode prog_14_method_49_code 31 = .ok (.i2l, 1) := by decide +kernel
theorem dM_papers_32 : decode prog_14_method_49_code 32 = .ok (.lmul, 1) := by decide +kernel
theorem dM_papers_33 : decode prog_14_method_49_code 33 = .ok (.ldc2_w 247, 3) := by decide +kernel
theorem dM_papers_36 : decode prog_14_method_49_code 36 = .ok (.ldiv, 1) := by decide +kernel
theorem dM_papers_37 : decode prog_14_method_49_code 37 = .ok (.ldc2_w 425, 3) := by decide +kernel
theorem dM_papers_40 : decode prog_14_method_49_code 40 = .ok (.ldc2_w 427, 3) := by decide +kernel
theorem dM_papers_43 : decode prog_14_method_49_code 43 = .ok (.invokestatic 212, 3) := by decide +kernel
theorem dM_papers_46 : decode prog_14_method_49_code 46 = .ok (.lastore, 1) := by decide +kernel
theorem dM_papers_47 : decode prog_14_method_49_code 47 = .ok (.iinc 3 1, 3) := by decide +kernel
theorem dM_papers_50 : decode prog_14_method_49_code 50 = .ok (.goto (-48), 3) := by decide +kernel
theorem dM_papers_53 : decode prog_14_method_49_code 53 = .ok (.iconst 0, 1) := by decide +kernel
theorem dM_papers_54 : decode prog_14_method_49_code 54 = .ok (.istore_n 3, 1) := by decide +kernel
theorem dM_papers_55 : decode prog_14_method_49_code 55 = .ok (.iload_n 3, 1) := by decide +kernel
theorem dM_papers_56 : decode prog_14_method_49_code 56 = .ok (.bipush 8, 2) := by decide +kernel
theorem dM_papers_58 : decode prog_14_method_49_code 58 = .ok (.if_icmp .ge 55, 3) := by decide +kernel
theorem dM_papers_61 : decode prog_14_method_49_code 61 = .ok (.aload_n 0, 1) := by decide +kernel
theorem dM_papers_62 : decode prog_14_method_49_code 62 = .ok (.getfield 137, 3) := by decide +kernel
theorem dM_papers_65 : decode prog_14_method_49_code 65 = .ok (.iload_n 1, 1) := by decide +kernel
theorem dM_papers_66 : decode prog_14_method_49_code 66 = .ok (.dup2, 1) := by decide +kernel
theorem dM_papers_67 : decode prog_14_method_49_code 67 = .ok (.laload, 1) := by decide +kernel
theorem dM_papers_68 : decode prog_14_method_49_code 68 = .ok (.aload_n 0, 1) := by decide +kernel
theorem dM_papers_69 : decode prog_14_method_49_code 69 = .ok (.getfield 145, 3) := by decide +kernel
theorem dM_papers_72 : decode prog_14_method_49_code 72 = .ok (.iload_n 1, 1) := by decide +kernel
theorem dM_papers_73 : decode prog_14_method_49_code 73 = .ok (.aaload, 1) := by decide +kernel
theorem dM_papers_74 : decode prog_14_method_49_code 74 = .ok (.iload_n 3, 1) := by decide +kernel
theorem dM_papers_75 : decode prog_14_method_49_code 75 = .ok (.laload, 1) := by decide +kernel
theorem dM_papers_76 : decode prog_14_method_49_code 76 = .ok (.aload_n 0, 1) := by decide +kernel
theorem dM_papers_77 : decode prog_14_method_49_code 77 = .ok (.getfield 131, 3) := by decide +kernel
theorem dM_papers_80 : decode prog_14_method_49_code 80 = .ok (.iload_n 3, 1) := by decide +kernel
theorem dM_papers_81 : decode prog_14_method_49_code 81 = .ok (.aaload, 1) := by decide +kernel
theorem dM_papers_82 : decode prog_14_method_49_code 82 = .ok (.iload_n 2, 1) := by decide +kernel
theorem dM_papers_83 : decode prog_14_method_49_code 83 = .ok (.iaload, 1) := by decide +kernel
theorem dM_papers_84 : decode prog_14_method_49_code 84 = .ok (.i2l, 1) := by decide +kernel
theorem dM_papers_85 : decode prog_14_method_49_code 85 = .ok (.lmul, 1) := by decide +kernel
theorem dM_papers_86 : decode prog_14_method_49_code 86 = .ok (.aload_n 0, 1) := by decide +kernel
theorem dM_papers_87 : decode prog_14_method_49_code 87 = .ok (.getfield 128, 3) := by decide +kernel
theorem dM_papers_90 : decode prog_14_method_49_code 90 = .ok (.aload_n 0, 1) := by decide +kernel
theorem dM_papers_91 : decode prog_14_method_49_code 91 = .ok (.getfield 41, 3) := by decide +kernel
theorem dM_papers_94 : decode prog_14_method_49_code 94 = .ok (.iload_n 3, 1) := by decide +kernel
theorem dM_papers_95 : decode prog_14_method_49_code 95 = .ok (.iaload, 1) := by decide +kernel
theorem dM_papers_96 : decode prog_14_method_49_code 96 = .ok (.aaload, 1) := by decide +kernel
theorem dM_papers_97 : decode prog_14_method_49_code 97 = .ok (.iload_n 2, 1) := by decide +kernel
theorem dM_papers_98 : decode prog_14_method_49_code 98 = .ok (.iaload, 1) := by decide +kernel
theorem dM_papers_99 : decode prog_14_method_49_code 99 = .ok (.i2l, 1) := by decide +kernel
theorem dM_papers_100 : decode prog_14_method_49_code 100 = .ok (.lmul, 1) := by decide +kernel
theorem dM_papers_101 : decode prog_14_method_49_code 101 = .ok (.ldc2_w 247, 3) := by decide +kernel
theorem dM_papers_104 : decode prog_14_method_49_code 104 = .ok (.ldiv, 1) := by decide +kernel
theorem dM_papers_105 : decode prog_14_method_49_code 105 = .ok (.ladd, 1) := by decide +kernel
theorem dM_papers_106 : decode prog_14_method_49_code 106 = .ok (.lastore, 1) := by decide +kernel
theorem dM_papers_107 : decode prog_14_method_49_code 107 = .ok (.iinc 3 1, 3) := by decide +kernel
theorem dM_papers_110 : decode prog_14_method_49_code 110 = .ok (.goto (-55), 3) := by decide +kernel
theorem dM_papers_113 : decode prog_14_method_49_code 113 = .ok (.iconst 0, 1) := by decide +kernel
theorem dM_papers_114 : decode prog_14_method_49_code 114 = .ok (.istore_n 3, 1) := by decide +kernel
theorem dM_papers_115 : decode prog_14_method_49_code 115 = .ok (.iload_n 3, 1) := by decide +kernel
theorem dM_papers_116 : decode prog_14_method_49_code 116 = .ok (.aload_n 0, 1) := by decide +kernel
theorem dM_papers_117 : decode prog_14_method_49_code 117 = .ok (.getfield 294, 3) := by decide +kernel
theorem dM_papers_120 : decode prog_14_method_49_code 120 = .ok (.if_icmp .ge 104, 3) := by decide +kernel
theorem dM_papers_123 : decode prog_14_method_49_code 123 = .ok (.aload_n 0, 1) := by decide +kernel
theorem dM_papers_124 : decode prog_14_method_49_code 124 = .ok (.getfield 56, 3) := by decide +kernel
theorem dM_papers_127 : decode prog_14_method_49_code 127 = .ok (.iload_n 3, 1) := by decide +kernel
theorem dM_papers_128 : decode prog_14_method_49_code 128 = .ok (.iaload, 1) := by decide +kernel
theorem dM_papers_129 : decode prog_14_method_49_code 129 = .ok (.iload_n 1, 1) := by decide +kernel
theorem dM_papers_130 : decode prog_14_method_49_code 130 = .ok (.if_icmp .ne 88, 3) := by decide +kernel
theorem dM_papers_133 : decode prog_14_method_49_code 133 = .ok (.aload_n 0, 1) := by decide +kernel
theorem dM_papers_134 : decode prog_14_method_49_code 134 = .ok (.getfield 62, 3) := by decide +kernel
theorem dM_papers_137 : decode prog_14_method_49_code 137 = .ok (.iload_n 3, 1) := by decide +kernel
theorem dM_papers_138 : decode prog_14_method_49_code 138 = .ok (.iaload, 1) := by decide +kernel
theorem dM_papers_139 : decode prog_14_method_49_code 139 = .ok (.iload_n 2, 1) := by decide +kernel
theorem dM_papers_140 : decode prog_14_method_49_code 140 = .ok (.if_icmp .ne 78, 3) := by decide +kernel
theorem dM_papers_143 : decode prog_14_method_49_code 143 = .ok (.aload_n 0, 1) := by decide +kernel
theorem dM_papers_144 : decode prog_14_method_49_code 144 = .ok (.getfield 71, 3) := by decide +kernel
theorem dM_papers_147 : decode prog_14_method_49_code 147 = .ok (.iload_n 3, 1) := by decide +kernel
theorem dM_papers_148 : decode prog_14_method_49_code 148 = .ok (.iaload, 1) := by decide +kernel
theorem dM_papers_149 : decode prog_14_method_49_code 149 = .ok (.aload_n 0, 1) := by decide +kernel
theorem dM_papers_150 : decode prog_14_method_49_code 150 = .ok (.getfield 418, 3) := by decide +kernel
theorem dM_papers_153 : decode prog_14_method_49_code 153 = .ok (.if_icmp .le 6, 3) := by decide +kernel
theorem dM_papers_156 : decode prog_14_method_49_code 156 = .ok (.goto 62, 3) := by decide +kernel
theorem dM_papers_159 : decode prog_14_method_49_code 159 = .ok (.aload_n 0, 1) := by decide +kernel
theorem dM_papers_160 : decode prog_14_method_49_code 160 = .ok (.getfield 145, 3) := by decide +kernel
theorem dM_papers_163 : decode prog_14_method_49_code 163 = .ok (.iload_n 1, 1) := by decide +kernel
theorem dM_papers_164 : decode prog_14_method_49_code 164 = .ok (.aaload, 1) := by decide +kernel
theorem dM_papers_165 : decode prog_14_method_49_code 165 = .ok (.aload_n 0, 1) := by decide +kernel
theorem dM_papers_166 : decode prog_14_method_49_code 166 = .ok (.getfield 59, 3) := by decide +kernel
theorem dM_papers_169 : decode prog_14_method_49_code 169 = .ok (.iload_n 3, 1) := by decide +kernel
theorem dM_papers_170 : decode prog_14_method_49_code 170 = .ok (.iaload, 1) := by decide +kernel
theorem dM_papers_171 : decode prog_14_method_49_code 171 = .ok (.aload_n 0, 1) := by decide +kernel
theorem dM_papers_172 : decode prog_14_method_49_code 172 = .ok (.getfield 145, 3) := by decide +kernel
theorem dM_papers_175 : decode prog_14_method_49_code 175 = .ok (.iload_n 1, 1) := by decide +kernel
theorem dM_papers_176 : decode prog_14_method_49_code 176 = .ok (.aaload, 1) := by decide +kernel
theorem dM_papers_177 : decode prog_14_method_49_code 177 = .ok (.aload_n 0, 1) := by decide +kernel
theorem dM_papers_178 : decode prog_14_method_49_code 178 = .ok (.getfield 59, 3) := by decide +kernel
theorem dM_papers_181 : decode prog_14_method_49_code 181 = .ok (.iload_n 3, 1) := by decide +kernel
theorem dM_papers_182 : decode prog_14_method_49_code 182 = .ok (.iaload, 1) := by decide +kernel
theorem dM_papers_183 : decode prog_14_method_49_code 183 = .ok (.laload, 1) := by decide +kernel
theorem dM_papers_184 : decode prog_14_method_49_code 184 = .ok (.aload_n 0, 1) := by decide +kernel
theorem dM_papers_185 : decode prog_14_method_49_code 185 = .ok (.getfield 65, 3) := by decide +kernel
theorem dM_papers_188 : decode prog_14_method_49_code 188 = .ok (.iload_n 3, 1) := by decide +kernel
theorem dM_papers_189 : decode prog_14_method_49_code 189 = .ok (.iaload, 1) := by decide +kernel
theorem dM_papers_190 : decode prog_14_method_49_code 190 = .ok (.i2l, 1) := by decide +kernel
theorem dM_papers_191 : decode prog_14_method_49_code 191 = .ok (.ladd, 1) := by decide +kernel
theorem dM_papers_192 : decode prog_14_method_49_code 192 = .ok (.ldc2_w 425, 3) := by decide +kernel
theorem dM_papers_195 : decode prog_14_method_49_code 195 = .ok (.ldc2_w 427, 3) := by decide +kernel
theorem dM_papers_198 : decode prog_14_method_49_code 198 = .ok (.invokestatic 212, 3) := by decide +kernel
theorem dM_papers_201 : decode prog_14_method_49_code 201 = .ok (.lastore, 1) := by decide +kernel
theorem dM_papers_202 : decode prog_14_method_49_code 202 = .ok (.aload_n 0, 1) := by decide +kernel
theorem dM_papers_203 : decode prog_14_method_49_code 203 = .ok (.getfield 137, 3) := by decide +kernel
theorem dM_papers_206 : decode prog_14_method_49_code 206 = .ok (.iload_n 1, 1) := by decide +kernel
theorem dM_papers_207 : decode prog_14_method_49_code 207 = .ok (.dup2, 1) := by decide +kernel
theorem dM_papers_208 : decode prog_14_method_49_code 208 = .ok (.laload, 1) := by decide +kernel
theorem dM_papers_209 : decode prog_14_method_49_code 209 = .ok (.aload_n 0, 1) := by decide +kernel
theorem dM_papers_210 : decode prog_14_method_49_code 210 = .ok (.getfield 68, 3) := by decide +kernel
theorem dM_papers_213 : decode prog_14_method_49_code 213 = .ok (.iload_n 3, 1) := by decide +kernel
theorem dM_papers_214 : decode prog_14_method_49_code 214 = .ok (.iaload, 1) := by decide +kernel
theorem dM_papers_215 : decode prog_14_method_49_code 215 = .ok (.i2l, 1) := by decide +kernel
theorem dM_papers_216 : decode prog_14_method_49_code 216 = .ok (.ladd, 1) := by decide +kernel
theorem dM_papers_217 : decode prog_14_method_49_code 217 = .ok (.lastore, 1) := by decide +kernel
theorem dM_papers_218 : decode prog_14_method_49_code 218 = .ok (.iinc 3 1, 3) := by decide +kernel
theorem dM_papers_221 : decode prog_14_method_49_code 221 = .ok (.goto (-106), 3) := by decide +kernel
theorem dM_papers_224 : decode prog_14_method_49_code 224 = .ok (.return_, 1) := by decide +kernel
theorem dM_party_0 : decode prog_14_method_35_code 0 = .ok (.aload_n 0, 1) := by decide +kernel
theorem dM_party_1 : decode prog_14_method_35_code 1 = .ok (.invokevirtual 338, 3) := by decide +kernel
theorem dM_party_4 : decode prog_14_method_35_code 4 = .ok (.aload_n 0, 1) := by decide +kernel
theorem dM_party_5 : decode prog_14_method_35_code 5 = .ok (.getfield 316, 3) := by decide +kernel
theorem dM_party_8 : decode prog_14_method_35_code 8 = .ok (.iconst (-1), 1) := by decide +kernel
theorem dM_party_9 : decode prog_14_method_35_code 9 = .ok (.if_icmp .eq 5, 3) := by decide +kernel
theorem dM_party_12 : decode prog_14_method_35_code 12 = .ok (.iconst 0, 1) := by decide +kernel
theorem dM_party_13 : decode prog_14_method_35_code 13 = .ok (.ireturn, 1) := by decide +kernel
theorem dM_party_14 : decode prog_14_method_35_code 14 = .ok (.iconst 0, 1) := by decide +kernel
theorem dM_party_15 : decode prog_14_method_35_code 15 = .ok (.istore_n 1, 1) := by decide +kernel
theorem dM_party_16 : decode prog_14_method_35_code 16 = .ok (.iload_n 1, 1) := by decide +kernel
theorem dM_party_17 : decode prog_14_method_35_code 17 = .ok (.iconst 3, 1) := by decide +kernel
theorem dM_party_18 : decode prog_14_method_35_code 18 = .ok (.if_icmp .ge 35, 3) := by decide +kernel
theorem dM_party_21 : decode prog_14_method_35_code 21 = .ok (.aload_n 0, 1) := by decide +kernel
theorem dM_party_22 : decode prog_14_method_35_code 22 = .ok (.aload_n 0, 1) := by decide +kernel
theorem dM_party_23 : decode prog_14_method_35_code 23 = .ok (.getfield 119, 3) := by decide +kernel
theorem dM_party_26 : decode prog_14_method_35_code 26 = .ok (.iload_n 1, 1) := by decide +kernel
theorem dM_party_27 : decode prog_14_method_35_code 27 = .ok (.aaload, 1) := by decide +kernel
theorem dM_party_28 : decode prog_14_method_35_code 28 = .ok (.invokevirtual 341, 3) := by decide +kernel
theorem dM_party_31 : decode prog_14_method_35_code 31 = .ok (.ifCond .ne 6, 3) := by decide +kernel
theorem dM_party_34 : decode prog_14_method_35_code 34 = .ok (.goto 13, 3) := by decide +kernel
theorem dM_party_37 : decode prog_14_method_35_code 37 = .ok (.aload_n 0, 1) := by decide +kernel
theorem dM_party_38 : decode prog_14_method_35_code 38 = .ok (.aload_n 0, 1) := by decide +kernel
theorem dM_party_39 : decode prog_14_method_35_code 39 = .ok (.invokevirtual 328, 3) := by decide +kernel
theorem dM_party_42 : decode prog_14_method_35_code 42 = .ok (.putfield 319, 3) := by decide +kernel
theorem dM_party_45 : decode prog_14_method_35_code 45 = .ok (.iload_n 1, 1) := by decide +kernel
theorem dM_party_46 : decode prog_14_method_35_code 46 = .ok (.ireturn, 1) := by decide +kernel
theorem dM_party_47 : decode prog_14_method_35_code 47 = .ok (.iinc 1 1, 3) := by decide +kernel
theorem dM_party_50 : decode prog_14_method_35_code 50 = .ok (.goto (-34), 3) := by decide +kernel
theorem dM_party_53 : decode prog_14_method_35_code 53 = .ok (.aload_n 0, 1) := by decide +kernel
theorem dM_party_54 : decode prog_14_method_35_code 54 = .ok (.invokevirtual 345, 3) := by decide +kernel
theorem dM_party_57 : decode prog_14_method_35_code 57 = .ok (.iconst 0, 1) := by decide +kernel
theorem dM_party_58 : decode prog_14_method_35_code 58 = .ok (.ireturn, 1) := by decide +kernel
theorem dM_payment_0 : decode prog_14_method_104_code 0 = .ok (.iload_n 2, 1) := by decide +kernel
theorem dM_payment_1 : decode prog_14_method_104_code 1 = .ok (.ifCond .lt 23, 3) := by decide +kernel
theorem dM_payment_4 : decode prog_14_method_104_code 4 = .ok (.iload_n 3, 1) := by decide +kernel
theorem dM_payment_5 : decode prog_14_method_104_code 5 = .ok (.i2l, 1) := by decide +kernel
theorem dM_payment_6 : decode prog_14_method_104_code 6 = .ok (.lconst 0, 1) := by decide +kernel
theorem dM_payment_7 : decode prog_14_method_104_code 7 = .ok (.ldc2_w 233, 3) := by decide +kernel
theorem dM_payment_10 : decode prog_14_method_104_code 10 = .ok (.invokestatic 222, 3) := by decide +kernel
theorem dM_payment_13 : decode prog_14_method_104_code 13 = .ok (.ifCond .eq 11, 3) := by decide +kernel
theorem dM_payment_16 : decode prog_14_method_104_code 16 = .ok (.aload_n 0, 1) := by decide +kernel
theorem dM_payment_17 : decode prog_14_method_104_code 17 = .ok (.iload_n 1, 1) := by decide +kernel
theorem dM_payment_18 : decode prog_14_method_104_code 18 = .ok (.invokevirtual 561, 3) := by decide +kernel
theorem dM_payment_21 : decode prog_14_method_104_code 21 = .ok (.ifCond .ne 7, 3) := by decide +kernel
theorem dM_payment_24 : decode prog_14_method_104_code 24 = .ok (.ldc_w 266, 3) := by decide +kernel
theorem dM_payment_27 : decode prog_14_method_104_code 27 = .ok (.ireturn, 1) := by decide +kernel
theorem dM_payment_28 : decode prog_14_method_104_code 28 = .ok (.iconst 0, 1) := by decide +kernel
theorem dM_payment_29 : decode prog_14_method_104_code 29 = .ok (.istore 4, 2) := by decide +kernel
theorem dM_payment_31 : decode prog_14_method_104_code 31 = .ok (.iconst 0, 1) := by decide +kernel
theorem dM_payment_32 : decode prog_14_method_104_code 32 = .ok (.istore 5, 2) := by decide +kernel
theorem dM_payment_34 : decode prog_14_method_104_code 34 = .ok (.iload 5, 2) := by decide +kernel
theorem dM_payment_36 : decode prog_14_method_104_code 36 = .ok (.aload_n 0, 1) := by decide +kernel
theorem dM_payment_37 : decode prog_14_method_104_code 37 = .ok (.getfield 558, 3) := by decide +kernel
theorem dM_payment_40 : decode prog_14_method_104_code 40 = .ok (.if_icmp .ge 108, 3) := by decide +kernel
theorem dM_payment_43 : decode prog_14_method_104_code 43 = .ok (.lconst 0, 1) := by decide +kernel
theorem dM_payment_44 : decode prog_14_method_104_code 44 = .ok (.lstore 6, 2) := by decide +kernel
theorem dM_payment_46 : decode prog_14_method_104_code 46 = .ok (.iconst (-1), 1) := by decide +kernel
theorem dM_payment_47 : decode prog_14_method_104_code 47 = .ok (.istore 8, 2) := by decide +kernel
theorem dM_payment_49 : decode prog_14_method_104_code 49 = .ok (.iconst 0, 1) := by decide +kernel
theorem dM_payment_50 : decode prog_14_method_104_code 50 = .ok (.istore 9, 2) := by decide +kernel
theorem dM_payment_52 : decode prog_14_method_104_code 52 = .ok (.iload 9, 2) := by decide +kernel
theorem dM_payment_54 : decode prog_14_method_104_code 54 = .ok (.aload_n 0, 1) := by decide +kernel
theorem dM_payment_55 : decode prog_14_method_104_code 55 = .ok (.getfield 549, 3) := by decide +kernel
theorem dM_payment_58 : decode prog_14_method_104_code 58 = .ok (.if_icmp .ge 84, 3) := by decide +kernel
theorem dM_payment_61 : decode prog_14_method_104_code 61 = .ok (.aload_n 0, 1) := by decide +kernel
theorem dM_payment_62 : decode prog_14_method_104_code 62 = .ok (.getfield 205, 3) := by decide +kernel
theorem dM_payment_65 : decode prog_14_method_104_code 65 = .ok (.iload 5, 2) := by decide +kernel
theorem dM_payment_67 : decode prog_14_method_104_code 67 = .ok (.iaload, 1) := by decide +kernel
theorem dM_payment_68 : decode prog_14_method_104_code 68 = .ok (.iload 9, 2) := by decide +kernel
theorem dM_payment_70 : decode prog_14_method_104_code 70 = .ok (.ishr, 1) := by decide +kernel
theorem dM_payment_71 : decode prog_14_method_104_code 71 = .ok (.iconst 1, 1) := by decide +kernel
theorem dM_payment_72 : decode prog_14_method_104_code 72 = .ok (.iand, 1) := by decide +kernel
theorem dM_payment_73 : decode prog_14_method_104_code 73 = .ok (.ifCond .ne 6, 3) := by decide +kernel
theorem dM_payment_76 : decode prog_14_method_104_code 76 = .ok (.goto 60, 3) := by decide +kernel
theorem dM_payment_79 : decode prog_14_method_104_code 79 = .ok (.iload 8, 2) := by decide +kernel
theorem dM_payment_81 : decode prog_14_method_104_code 81 = .ok (.iconst (-1), 1) := by decide +kernel
theorem dM_payment_82 : decode prog_14_method_104_code 82 = .ok (.if_icmp .eq 28, 3) := by decide +kernel
theorem dM_payment_85 : decode prog_14_method_104_code 85 = .ok (.iload 4, 2) := by decide +kernel
theorem dM_payment_87 : decode prog_14_method_104_code 87 = .ok (.iload_n 2, 1) := by decide +kernel
theorem dM_payment_88 : decode prog_14_method_104_code 88 = .ok (.if_icmp .ne 19, 3) := by decide +kernel
theorem dM_payment_91 : decode prog_14_method_104_code 91 = .ok (.iload 8, 2) := by decide +kernel
theorem dM_payment_93 : decode prog_14_method_104_code 93 = .ok (.aload_n 0, 1) := by decide +kernel
theorem dM_payment_94 : decode prog_14_method_104_code 94 = .ok (.getfield 196, 3) := by decide +kernel
theorem dM_payment_97 : decode prog_14_method_104_code 97 = .ok (.iload 9, 2) := by decide +kernel
theorem dM_payment_99 : decode prog_14_method_104_code 99 = .ok (.iaload, 1) := by decide +kernel
theorem dM_payment_100 : decode prog_14_method_104_code 100 = .ok (.lload 6, 2) := by decide +kernel
theorem dM_payment_102 : decode prog_14_method_104_code 102 = .ok (.iload_n 3, 1) := by decide +kernel
theorem dM_payment_103 : decode prog_14_method_104_code 103 = .ok (.invokestatic 564, 3) := by decide +kernel
theorem dM_payment_106 : decode prog_14_method_104_code 106 = .ok (.ireturn, 1) := by decide +kernel
theorem dM_payment_107 : decode prog_14_method_104_code 107 = .ok (.iinc 4 1, 3) := by decide +kernel
theorem dM_payment_110 : decode prog_14_method_104_code 110 = .ok (.lload 6, 2) := by decide +kernel
theorem dM_payment_112 : decode prog_14_method_104_code 112 = .ok (.aload_n 0, 1) := by decide +kernel
theorem dM_payment_113 : decode prog_14_method_104_code 113 = .ok (.getfield 193, 3) := by decide +kernel
theorem dM_payment_116 : decode prog_14_method_104_code 116 = .ok (.aload_n 0, 1) := by decide +kernel
theorem dM_payment_117 : decode prog_14_method_104_code 117 = .ok (.getfield 196, 3) := by decide +kernel
theorem dM_payment_120 : decode prog_14_method_104_code 120 = .ok (.iload 9, 2) := by decide +kernel
theorem dM_payment_122 : decode prog_14_method_104_code 122 = .ok (.iaload, 1) := by decide +kernel
theorem dM_payment_123 : decode prog_14_method_104_code 123 = .ok (.laload, 1) := by decide +kernel
theorem dM_payment_124 : decode prog_14_method_104_code 124 = .ok (.ladd, 1) := by decide +kernel
theorem dM_payment_125 : decode prog_14_method_104_code 125 = .ok (.lstore 6, 2) := by decide +kernel
theorem dM_payment_127 : decode prog_14_method_104_code 127 = .ok (.aload_n 0, 1) := by decide +kernel
theorem dM_payment_128 : decode prog_14_method_104_code 128 = .ok (.getfield 196, 3) := by decide +kernel
theorem dM_payment_131 : decode prog_14_method_104_code 131 = .ok (.iload 9, 2) := by decide +kernel
theorem dM_payment_133 : decode prog_14_method_104_code 133 = .ok (.iaload, 1) := by decide +kernel
theorem dM_payment_134 : decode prog_14_method_104_code 134 = .ok (.istore 8, 2) := by decide +kernel
theorem dM_payment_136 : decode prog_14_method_104_code 136 = .ok (.iinc 9 1, 3) := by decide +kernel
theorem dM_payment_139 : decode prog_14_method_104_code 139 = .ok (.goto (-87), 3) := by decide +kernel
theorem dM_payment_142 : decode prog_14_method_104_code 142 = .ok (.iinc 5 1, 3) := by decide +kernel
theorem dM_payment_145 : decode prog_14_method_104_code 145 = .ok (.goto (-111), 3) := by decide +kernel
theorem dM_payment_148 : decode prog_14_method_104_code 148 = .ok (.ldc_w 266, 3) := by decide +kernel
theorem dM_payment_151 : decode prog_14_method_104_code 151 = .ok (.ireturn, 1) := by decide +kernel
theorem dM_payments_0 : decode prog_14_method_103_code 0 = .ok (.aload_n 0, 1) := by decide +kernel
theorem dM_payments_1 : decode prog_14_method_103_code 1 = .ok (.iload_n 1, 1) := by decide +kernel
theorem dM_payments_2 : decode prog_14_method_103_code 2 = .ok (.invokevirtual 561, 3) := by decide +kernel
theorem dM_payments_5 : decode prog_14_method_103_code 5 = .ok (.ifCond .eq 15, 3) := by decide +kernel
theorem dM_payments_8 : decode prog_14_method_103_code 8 = .ok (.aload_n 0, 1) := by decide +kernel
theorem dM_payments_9 : decode prog_14_method_103_code 9 = .ok (.getfield 549, 3) := by decide +kernel
theorem dM_payments_12 : decode prog_14_method_103_code 12 = .ok (.aload_n 0, 1) := by decide +kernel
theorem dM_payments_13 : decode prog_14_method_103_code 13 = .ok (.getfield 558, 3) := by decide +kernel
theorem dM_payments_16 : decode prog_14_method_103_code 16 = .ok (.isub, 1) := by decide +kernel
theorem dM_payments_17 : decode prog_14_method_103_code 17 = .ok (.goto 4, 3) := by decide +kernel
theorem dM_payments_20 : decode prog_14_method_103_code 20 = .ok (.iconst (-1), 1) := by decide +kernel
theorem dM_payments_21 : decode prog_14_method_103_code 21 = .ok (.ireturn, 1) := by decide +kernel
theorem dM_picks_0 : decode prog_14_method_102_code 0 = .ok (.aload_n 0, 1) := by decide +kernel
theorem dM_picks_1 : decode prog_14_method_102_code 1 = .ok (.iconst 0, 1) := by decide +kernel
theorem dM_picks_2 : decode prog_14_method_102_code 2 = .ok (.putfield 558, 3) := by decide +kernel
theorem dM_picks_5 : decode prog_14_method_102_code 5 = .ok (.iconst 1, 1) := by decide +kernel
theorem dM_picks_6 : decode prog_14_method_102_code 6 = .ok (.aload_n 0, 1) := by decide +kernel
theorem dM_picks_7 : decode prog_14_method_102_code 7 = .ok (.getfield 549, 3) := by decide +kernel
theorem dM_picks_10 : decode prog_14_method_102_code 10 = .ok (.ishl, 1) := by decide +kernel
theorem dM_picks_11 : decode prog_14_method_102_code 11 = .ok (.iconst 1, 1) := by decide +kernel
theorem dM_picks_12 : decode prog_14_method_102_code 12 = .ok (.isub, 1) := by decide +kernel
theorem dM_picks_13 : decode prog_14_method_102_code 13 = .ok (.istore_n 1, 1) := by decide +kernel
theorem dM_picks_14 : decode prog_14_method_102_code 14 = .ok (.iload_n 1, 1) := by decide +kernel
theorem dM_picks_15 : decode prog_14_method_102_code 15 = .ok (.ifCond .eq 91, 3) := by decide +kernel
theorem dM_picks_18 : decode prog_14_method_102_code 18 = .ok (.iload_n 1, 1) := by decide +kernel
theorem dM_picks_19 : decode prog_14_method_102_code 19 = .ok (.iload_n 1, 1) := by decide +kernel
theorem dM_picks_20 : decode prog_14_method_102_code 20 = .ok (.ineg, 1) := by decide +kernel
theorem dM_picks_21 : decode prog_14_method_102_code 21 = .ok (.iand, 1) := by decide +kernel
theorem dM_picks_22 : decode prog_14_method_102_code 22 = .ok (.istore_n 2, 1) := by decide +kernel
theorem dM_picks_23 : decode prog_14_method_102_code 23 = .ok (.iload_n 2, 1) := by decide +kernel
theorem dM_picks_24 : decode prog_14_method_102_code 24 = .ok (.istore_n 3, 1) := by decide +kernel
theorem dM_picks_25 : decode prog_14_method_102_code 25 = .ok (.iload_n 3, 1) := by decide +kernel
theorem dM_picks_26 : decode prog_14_method_102_code 26 = .ok (.iload_n 1, 1) := by decide +kernel
theorem dM_picks_27 : decode prog_14_method_102_code 27 = .ok (.iconst (-1), 1) := by decide +kernel
theorem dM_picks_28 : decode prog_14_method_102_code 28 = .ok (.ixor, 1) := by decide +kernel
theorem dM_picks_29 : decode prog_14_method_102_code 29 = .ok (.iand, 1) := by decide +kernel
theorem dM_picks_30 : decode prog_14_method_102_code 30 = .ok (.ifCond .ne 41, 3) := by decide +kernel
theorem dM_picks_33 : decode prog_14_method_102_code 33 = .ok (.iload_n 3, 1) := by decide +kernel
theorem dM_picks_34 : decode prog_14_method_102_code 34 = .ok (.iload_n 2, 1) := by decide +kernel
theorem dM_picks_35 : decode prog_14_method_102_code 35 = .ok (.iand, 1) := by decide +kernel
theorem dM_picks_36 : decode prog_14_method_102_code 36 = .ok (.ifCond .eq 35, 3) := by decide +kernel
theorem dM_picks_39 : decode prog_14_method_102_code 39 = .ok (.aload_n 0, 1) := by decide +kernel
theorem dM_picks_40 : decode prog_14_method_102_code 40 = .ok (.getfield 202, 3) := by decide +kernel
theorem dM_picks_43 : decode prog_14_method_102_code 43 = .ok (.iload_n 3, 1) := by decide +kernel
theorem dM_picks_44 : decode prog_14_method_102_code 44 = .ok (.laload, 1) := by decide +kernel
theorem dM_picks_45 : decode prog_14_method_102_code 45 = .ok (.lconst 0, 1) := by decide +kernel
theorem dM_picks_46 : decode prog_14_method_102_code 46 = .ok (.lcmp, 1) := by decide +kernel
theorem dM_picks_47 : decode prog_14_method_102_code 47 = .ok (.ifCond .ne 24, 3) := by decide +kernel
theorem dM_picks_50 : decode prog_14_method_102_code 50 = .ok (.aload_n 0, 1) := by decide +kernel
theorem dM_picks_51 : decode prog_14_method_102_code 51 = .ok (.getfield 199, 3) := by decide +kernel
theorem dM_picks_54 : decode prog_14_method_102_code 54 = .ok (.iload_n 1, 1) := by decide +kernel
theorem dM_picks_55 : decode prog_14_method_102_code 55 = .ok (.iload_n 3, 1) := by decide +kernel
theorem dM_picks_56 : decode prog_14_method_102_code 56 = .ok (.iconst (-1), 1) := by decide +kernel
theorem dM_picks_57 : decode prog_14_method_102_code 57 = .ok (.ixor, 1) := by decide +kernel
theorem dM_picks_58 : decode prog_14_method_102_code 58 = .ok (.iand, 1) := by decide +kernel
theorem dM_picks_59 : decode prog_14_method_102_code 59 = .ok (.iaload, 1) := by decide +kernel
theorem dM_picks_60 : decode prog_14_method_102_code 60 = .ok (.aload_n 0, 1) := by decide +kernel
theorem dM_picks_61 : decode prog_14_method_102_code 61 = .ok (.getfield 199, 3) := by decide +kernel
theorem dM_picks_64 : decode prog_14_method_102_code 64 = .ok (.iload_n 1, 1) := by decide +kernel
theorem dM_picks_65 : decode prog_14_method_102_code 65 = .ok (.iaload, 1) := by decide +kernel
theorem dM_picks_66 : decode prog_14_method_102_code 66 = .ok (.iconst 1, 1) := by decide +kernel
theorem dM_picks_67 : decode prog_14_method_102_code 67 = .ok (.isub, 1) := by decide +kernel
theorem dM_picks_68 : decode prog_14_method_102_code 68 = .ok (.if_icmp .eq 9, 3) := by decide +kernel
theorem dM_picks_71 : decode prog_14_method_102_code 71 = .ok (.iinc 3 1, 3) := by decide +kernel
theorem dM_picks_74 : decode prog_14_method_102_code 74 = .ok (.goto (-49), 3) := by decide +kernel
theorem dM_picks_77 : decode prog_14_method_102_code 77 = .ok (.aload_n 0, 1) := by decide +kernel
theorem dM_picks_78 : decode prog_14_method_102_code 78 = .ok (.getfield 205, 3) := by decide +kernel
theorem dM_picks_81 : decode prog_14_method_102_code 81 = .ok (.aload_n 0, 1) := by decide +kernel
theorem dM_picks_82 : decode prog_14_method_102_code 82 = .ok (.getfield 558, 3) := by decide +kernel
theorem dM_picks_85 : decode prog_14_method_102_code 85 = .ok (.iload_n 3, 1) := by decide +kernel
theorem dM_picks_86 : decode prog_14_method_102_code 86 = .ok (.iastore, 1) := by decide +kernel
theorem dM_picks_87 : decode prog_14_method_102_code 87 = .ok (.aload_n 0, 1) := by decide +kernel
theorem dM_picks_88 : decode prog_14_method_102_code 88 = .ok (.dup, 1) := by decide +kernel
theorem dM_picks_89 : decode prog_14_method_102_code 89 = .ok (.getfield 558, 3) := by decide +kernel
theorem dM_picks_92 : decode prog_14_method_102_code 92 = .ok (.iconst 1, 1) := by decide +kernel
theorem dM_picks_93 : decode prog_14_method_102_code 93 = .ok (.iadd, 1) := by decide +kernel
theorem dM_picks_94 : decode prog_14_method_102_code 94 = .ok (.putfield 558, 3) := by decide +kernel
theorem dM_picks_97 : decode prog_14_method_102_code 97 = .ok (.iload_n 1, 1) := by decide +kernel
theorem dM_picks_98 : decode prog_14_method_102_code 98 = .ok (.iload_n 3, 1) := by decide +kernel
theorem dM_picks_99 : decode prog_14_method_102_code 99 = .ok (.iconst (-1), 1) := by decide +kernel
theorem dM_picks_100 : decode prog_14_method_102_code 100 = .ok (.ixor, 1) := by decide +kernel
theorem dM_picks_101 : decode prog_14_method_102_code 101 = .ok (.iand, 1) := by decide +kernel
theorem dM_picks_102 : decode prog_14_method_102_code 102 = .ok (.istore_n 1, 1) := by decide +kernel
theorem dM_picks_103 : decode prog_14_method_102_code 103 = .ok (.goto (-89), 3) := by decide +kernel
theorem dM_picks_106 : decode prog_14_method_102_code 106 = .ok (.return_, 1) := by decide +kernel
theorem dM_placeOf_0 : decode prog_14_method_21_code 0 = .ok (.iload_n 1, 1) := by decide +kernel
theorem dM_placeOf_1 : decode prog_14_method_21_code 1 = .ok (.i2l, 1) := by decide +kernel
theorem dM_placeOf_2 : decode prog_14_method_21_code 2 = .ok (.lconst 0, 1) := by decide +kernel
theorem dM_placeOf_3 : decode prog_14_method_21_code 3 = .ok (.aload_n 0, 1) := by decide +kernel
theorem dM_placeOf_4 : decode prog_14_method_21_code 4 = .ok (.getfield 284, 3) := by decide +kernel
theorem dM_placeOf_7 : decode prog_14_method_21_code 7 = .ok (.iconst 1, 1) := by decide +kernel
theorem dM_placeOf_8 : decode prog_14_method_21_code 8 = .ok (.isub, 1) := by decide +kernel
theorem dM_placeOf_9 : decode prog_14_method_21_code 9 = .ok (.i2l, 1) := by decide +kernel
theorem dM_placeOf_10 : decode prog_14_method_21_code 10 = .ok (.invokestatic 222, 3) := by decide +kernel
theorem dM_placeOf_13 : decode prog_14_method_21_code 13 = .ok (.ifCond .eq 5, 3) := by decide +kernel
theorem dM_placeOf_16 : decode prog_14_method_21_code 16 = .ok (.iload_n 1, 1) := by decide +kernel
theorem dM_placeOf_17 : decode prog_14_method_21_code 17 = .ok (.ireturn, 1) := by decide +kernel
theorem dM_placeOf_18 : decode prog_14_method_21_code 18 = .ok (.aload_n 0, 1) := by decide +kernel
theorem dM_placeOf_19 : decode prog_14_method_21_code 19 = .ok (.iload_n 1, 1) := by decide +kernel
theorem dM_placeOf_20 : decode prog_14_method_21_code 20 = .ok (.bipush 20, 2) := by decide +kernel
theorem dM_placeOf_22 : decode prog_14_method_21_code 22 = .ok (.isub, 1) := by decide +kernel
theorem dM_placeOf_23 : decode prog_14_method_21_code 23 = .ok (.invokevirtual 287, 3) := by decide +kernel
theorem dM_placeOf_26 : decode prog_14_method_21_code 26 = .ok (.ifCond .eq 13, 3) := by decide +kernel
theorem dM_placeOf_29 : decode prog_14_method_21_code 29 = .ok (.bipush 16, 2) := by decide +kernel
theorem dM_placeOf_31 : decode prog_14_method_21_code 31 = .ok (.iload_n 1, 1) := by decide +kernel
theorem dM_placeOf_32 : decode prog_14_method_21_code 32 = .ok (.iadd, 1) := by decide +kernel
theorem dM_placeOf_33 : decode prog_14_method_21_code 33 = .ok (.bipush 20, 2) := by decide +kernel
theorem dM_placeOf_35 : decode prog_14_method_21_code 35 = .ok (.isub, 1) := by decide +kernel
theorem dM_placeOf_36 : decode prog_14_method_21_code 36 = .ok (.goto 4, 3) := by decide +kernel
theorem dM_placeOf_39 : decode prog_14_method_21_code 39 = .ok (.iconst (-1), 1) := by decide +kernel
theorem dM_placeOf_40 : decode prog_14_method_21_code 40 = .ok (.ireturn, 1) := by decide +kernel
theorem dM_plain_0 : decode prog_14_method_14_code 0 = .ok (.iload_n 0, 1) := by decide +kernel
theorem dM_plain_1 : decode prog_14_method_14_code 1 = .ok (.iconst 1, 1) := by decide +kernel
theorem dM_plain_2 : decode prog_14_method_14_code 2 = .ok (.if_icmp .eq 8, 3) := by decide +kernel
theorem dM_plain_5 : decode prog_14_method_14_code 5 = .ok (.iload_n 0, 1) := by decide +kernel
theorem dM_plain_6 : decode prog_14_method_14_code 6 = .ok (.iconst 3, 1) := by decide +kernel
theorem dM_plain_7 : decode prog_14_method_14_code 7 = .ok (.if_icmp .ne 9, 3) := by decide +kernel
theorem dM_plain_10 : decode prog_14_method_14_code 10 = .ok (.sipush 1000, 3) := by decide +kernel
theorem dM_plain_13 : decode prog_14_method_14_code 13 = .ok (.goto 4, 3) := by decide +kernel
theorem dM_plain_16 : decode prog_14_method_14_code 16 = .ok (.iconst 0, 1) := by decide +kernel
theorem dM_plain_17 : decode prog_14_method_14_code 17 = .ok (.ireturn, 1) := by decide +kernel
theorem dM_prices_0 : decode prog_14_method_55_code 0 = .ok (.aload_n 0, 1) := by decide +kernel
theorem dM_prices_1 : decode prog_14_method_55_code 1 = .ok (.iload_n 1, 1) := by decide +kernel
theorem dM_prices_2 : decode prog_14_method_55_code 2 = .ok (.iload_n 2, 1) := by decide +kernel
theorem dM_prices_3 : decode prog_14_method_55_code 3 = .ok (.invokevirtual 435, 3) := by decide +kernel
theorem dM_prices_6 : decode prog_14_method_55_code 6 = .ok (.lstore 4, 2) := by decide +kernel
theorem dM_prices_8 : decode prog_14_method_55_code 8 = .ok (.lload 4, 2) := by decide +kernel
theorem dM_prices_10 : decode prog_14_method_55_code 10 = .ok (.lconst 0, 1) := by decide +kernel
theorem dM_prices_11 : decode prog_14_method_55_code 11 = .ok (.lcmp, 1) := by decide +kernel
theorem dM_prices_12 : decode prog_14_method_55_code 12 = .ok (.ifCond .ge 7, 3) := by decide +kernel
theorem dM_prices_15 : decode prog_14_method_55_code 15 = .ok (.lconst 0, 1) := by decide +kernel
theorem dM_prices_16 : decode prog_14_method_55_code 16 = .ok (.goto 18, 3) := by decide +kernel
theorem dM_prices_19 : decode prog_14_method_55_code 19 = .ok (.lload 4, 2) := by decide +kernel
theorem dM_prices_21 : decode prog_14_method_55_code 21 = .ok (.aload_n 0, 1) := by decide +kernel
theorem dM_prices_22 : decode prog_14_method_55_code 22 = .ok (.iload_n 1, 1) := by decide +kernel
theorem dM_prices_23 : decode prog_14_method_55_code 23 = .ok (.iload_n 2, 1) := by decide +kernel
theorem dM_prices_24 : decode prog_14_method_55_code 24 = .ok (.iconst 0, 1) := by decide +kernel
theorem dM_prices_25 : decode prog_14_method_55_code 25 = .ok (.invokevirtual 305, 3) := by decide +kernel
theorem dM_prices_28 : decode prog_14_method_55_code 28 = .ok (.i2l, 1) := by decide +kernel
theorem dM_prices_29 : decode prog_14_method_55_code 29 = .ok (.lmul, 1) := by decide +kernel
theorem dM_prices_30 : decode prog_14_method_55_code 30 = .ok (.ldc2_w 427, 3) := by decide +kernel
theorem dM_prices_33 : decode prog_14_method_55_code 33 = .ok (.ldiv, 1) := by decide +kernel
theorem dM_prices_34 : decode prog_14_method_55_code 34 = .ok (.lstore 6, 2) := by decide +kernel
theorem dM_prices_36 : decode prog_14_method_55_code 36 = .ok (.aload_n 0, 1) := by decide +kernel
theorem dM_prices_37 : decode prog_14_method_55_code 37 = .ok (.getfield 137, 3) := by decide +kernel
theorem dM_prices_40 : decode prog_14_method_55_code 40 = .ok (.iload_n 1, 1) := by decide +kernel
theorem dM_prices_41 : decode prog_14_method_55_code 41 = .ok (.dup2, 1) := by decide +kernel
theorem dM_prices_42 : decode prog_14_method_55_code 42 = .ok (.laload, 1) := by decide +kernel
theorem dM_prices_43 : decode prog_14_method_55_code 43 = .ok (.lload 6, 2) := by decide +kernel
theorem dM_prices_45 : decode prog_14_method_55_code 45 = .ok (.lsub, 1) := by decide +kernel
theorem dM_prices_46 : decode prog_14_method_55_code 46 = .ok (.lastore, 1) := by decide +kernel
theorem dM_prices_47 : decode prog_14_method_55_code 47 = .ok (.aload_n 0, 1) := by decide +kernel
theorem dM_prices_48 : decode prog_14_method_55_code 48 = .ok (.getfield 151, 3) := by decide +kernel
theorem dM_prices_51 : decode prog_14_method_55_code 51 = .ok (.iload_n 1, 1) := by decide +kernel
theorem dM_prices_52 : decode prog_14_method_55_code 52 = .ok (.aaload, 1) := by decide +kernel
theorem dM_prices_53 : decode prog_14_method_55_code 53 = .ok (.iload_n 2, 1) := by decide +kernel
theorem dM_prices_54 : decode prog_14_method_55_code 54 = .ok (.lload 6, 2) := by decide +kernel
theorem dM_prices_56 : decode prog_14_method_55_code 56 = .ok (.lastore, 1) := by decide +kernel
theorem dM_prices_57 : decode prog_14_method_55_code 57 = .ok (.aload_n 0, 1) := by decide +kernel
theorem dM_prices_58 : decode prog_14_method_55_code 58 = .ok (.getfield 157, 3) := by decide +kernel
theorem dM_prices_61 : decode prog_14_method_55_code 61 = .ok (.iload_n 1, 1) := by decide +kernel
theorem dM_prices_62 : decode prog_14_method_55_code 62 = .ok (.laload, 1) := by decide +kernel
theorem dM_prices_63 : decode prog_14_method_55_code 63 = .ok (.lconst 0, 1) := by decide +kernel
theorem dM_prices_64 : decode prog_14_method_55_code 64 = .ok (.lcmp, 1) := by decide +kernel
theorem dM_prices_65 : decode prog_14_method_55_code 65 = .ok (.ifCond .ne 9, 3) := by decide +kernel
theorem dM_prices_68 : decode prog_14_method_55_code 68 = .ok (.ldc2_w 243, 3) := by decide +kernel
theorem dM_prices_71 : decode prog_14_method_55_code 71 = .ok (.goto 26, 3) := by decide +kernel
theorem dM_prices_74 : decode prog_14_method_55_code 74 = .ok (.lload 4, 2) := by decide +kernel
theorem dM_prices_76 : decode prog_14_method_55_code 76 = .ok (.lload 6, 2) := by decide +kernel
theorem dM_prices_78 : decode prog_14_method_55_code 78 = .ok (.lsub, 1) := by decide +kernel
theorem dM_prices_79 : decode prog_14_method_55_code 79 = .ok (.ldc2_w 249, 3) := by decide +kernel
theorem dM_prices_82 : decode prog_14_method_55_code 82 = .ok (.lmul, 1) := by decide +kernel
theorem dM_prices_83 : decode prog_14_method_55_code 83 = .ok (.aload_n 0, 1) := by decide +kernel
theorem dM_prices_84 : decode prog_14_method_55_code 84 = .ok (.getfield 157, 3) := by decide +kernel
theorem dM_prices_87 : decode prog_14_method_55_code 87 = .ok (.iload_n 1, 1) := by decide +kernel
theorem dM_prices_88 : decode prog_14_method_55_code 88 = .ok (.laload, 1) := by decide +kernel
theorem dM_prices_89 : decode prog_14_method_55_code 89 = .ok (.ldiv, 1) := by decide +kernel
theorem dM_prices_90 : decode prog_14_method_55_code 90 = .ok (.lconst 0, 1) := by decide +kernel
theorem dM_prices_91 : decode prog_14_method_55_code 91 = .ok (.ldc2_w 433, 3) := by decide +kernel
theorem dM_prices_94 : decode prog_14_method_55_code 94 = .ok (.invokestatic 212, 3) := by decide +kernel
theorem dM_prices_97 : decode prog_14_method_55_code 97 = .ok (.lstore 8, 2) := by decide +kernel
theorem dM_prices_99 : decode prog_14_method_55_code 99 = .ok (.aload_n 0, 1) := by decide +kernel
theorem dM_prices_100 : decode prog_14_method_55_code 100 = .ok (.getfield 148, 3) := by decide +kernel
theorem dM_prices_103 : decode prog_14_method_55_code 103 = .ok (.iload_n 1, 1) := by decide +kernel
theorem dM_prices_104 : decode prog_14_method_55_code 104 = .ok (.aaload, 1) := by decide +kernel
theorem dM_prices_105 : decode prog_14_method_55_code 105 = .ok (.iload_n 2, 1) := by decide +kernel
theorem dM_prices_106 : decode prog_14_method_55_code 106 = .ok (.aload_n 0, 1) := by decide +kernel
theorem dM_prices_107 : decode prog_14_method_55_code 107 = .ok (.iload_n 1, 1) := by decide +kernel
theorem dM_prices_108 : decode prog_14_method_55_code 108 = .ok (.iload_n 2, 1) := by decide +kernel
theorem dM_prices_109 : decode prog_14_method_55_code 109 = .ok (.lload 8, 2) := by decide +kernel
theorem dM_prices_111 : decode prog_14_method_55_code 111 = .ok (.aload_n 0, 1) := by decide +kernel
theorem dM_prices_112 : decode prog_14_method_55_code 112 = .ok (.iload_n 1, 1) := by decide +kernel
theorem dM_prices_113 : decode prog_14_method_55_code 113 = .ok (.iload_n 2, 1) := by decide +kernel
theorem dM_prices_114 : decode prog_14_method_55_code 114 = .ok (.iload_n 3, 1) := by decide +kernel
theorem dM_prices_115 : decode prog_14_method_55_code 115 = .ok (.invokevirtual 439, 3) := by decide +kernel
theorem dM_prices_118 : decode prog_14_method_55_code 118 = .ok (.invokevirtual 443, 3) := by decide +kernel
theorem dM_prices_121 : decode prog_14_method_55_code 121 = .ok (.lastore, 1) := by decide +kernel
theorem dM_prices_122 : decode prog_14_method_55_code 122 = .ok (.return_, 1) := by decide +kernel
theorem dM_reads_0 : decode prog_14_method_41_code 0 = .ok (.aload_n 0, 1) := by decide +kernel
theorem dM_reads_1 : decode prog_14_method_41_code 1 = .ok (.iconst (-1), 1) := by decide +kernel
theorem dM_reads_2 : decode prog_14_method_41_code 2 = .ok (.putfield 316, 3) := by decide +kernel
theorem dM_reads_5 : decode prog_14_method_41_code 5 = .ok (.iconst 0, 1) := by decide +kernel
theorem dM_reads_6 : decode prog_14_method_41_code 6 = .ok (.istore_n 1, 1) := by decide +kernel
theorem dM_reads_7 : decode prog_14_method_41_code 7 = .ok (.iload_n 1, 1) := by decide +kernel
theorem dM_reads_8 : decode prog_14_method_41_code 8 = .ok (.iconst 4, 1) := by decide +kernel
theorem dM_reads_9 : decode prog_14_method_41_code 9 = .ok (.if_icmp .gt 37, 3) := by decide +kernel
theorem dM_reads_12 : decode prog_14_method_41_code 12 = .ok (.iconst 0, 1) := by decide +kernel
theorem dM_reads_13 : decode prog_14_method_41_code 13 = .ok (.istore_n 2, 1) := by decide +kernel
theorem dM_reads_14 : decode prog_14_method_41_code 14 = .ok (.iload_n 2, 1) := by decide +kernel
theorem dM_reads_15 : decode prog_14_method_41_code 15 = .ok (.bipush 12, 2) := by decide +kernel
theorem dM_reads_17 : decode prog_14_method_41_code 17 = .ok (.if_icmp .ge 23, 3) := by decide +kernel
theorem dM_reads_20 : decode prog_14_method_41_code 20 = .ok (.aload_n 0, 1) := by decide +kernel
theorem dM_reads_21 : decode prog_14_method_41_code 21 = .ok (.getfield 102, 3) := by decide +kernel
theorem dM_reads_24 : decode prog_14_method_41_code 24 = .ok (.bipush 6, 2) := by decide +kernel
theorem dM_reads_26 : decode prog_14_method_41_code 26 = .ok (.aaload, 1) := by decide +kernel
theorem dM_reads_27 : decode prog_14_method_41_code 27 = .ok (.iload_n 1, 1) := by decide +kernel
theorem dM_reads_28 : decode prog_14_method_41_code 28 = .ok (.aaload, 1) := by decide +kernel
theorem dM_reads_29 : decode prog_14_method_41_code 29 = .ok (.iload_n 2, 1) := by decide +kernel
theorem dM_reads_30 : decode prog_14_method_41_code 30 = .ok (.ldc_w 266, 3) := by decide +kernel
theorem dM_reads_33 : decode prog_14_method_41_code 33 = .ok (.iastore, 1) := by decide +kernel
theorem dM_reads_34 : decode prog_14_method_41_code 34 = .ok (.iinc 2 1, 3) := by decide +kernel
theorem dM_reads_37 : decode prog_14_method_41_code 37 = .ok (.goto (-23), 3) := by decide +kernel
theorem dM_reads_40 : decode prog_14_method_41_code 40 = .ok (.iinc 1 1, 3) := by decide +kernel
theorem dM_reads_43 : decode prog_14_method_41_code 43 = .ok (.goto (-36), 3) := by decide +kernel
theorem dM_reads_46 : decode prog_14_method_41_code 46 = .ok (.aload_n 0, 1) := by decide +kernel
theorem dM_reads_47 : decode prog_14_method_41_code 47 = .ok (.iconst 0, 1) := by decide +kernel
theorem dM_reads_48 : decode prog_14_method_41_code 48 = .ok (.putfield 319, 3) := by decide +kernel
theorem dM_reads_51 : decode prog_14_method_41_code 51 = .ok (.aload_n 0, 1) := by decide +kernel
theorem dM_reads_52 : decode prog_14_method_41_code 52 = .ok (.getfield 319, 3) := by decide +kernel
theorem dM_reads_55 : decode prog_14_method_41_code 55 = .ok (.aload_n 0, 1) := by decide +kernel
theorem dM_reads_56 : decode prog_14_method_41_code 56 = .ok (.getfield 309, 3) := by decide +kernel
theorem dM_reads_59 : decode prog_14_method_41_code 59 = .ok (.if_icmp .ge 74, 3) := by decide +kernel
theorem dM_reads_62 : decode prog_14_method_41_code 62 = .ok (.aload_n 0, 1) := by decide +kernel
theorem dM_reads_63 : decode prog_14_method_41_code 63 = .ok (.getfield 316, 3) := by decide +kernel
theorem dM_reads_66 : decode prog_14_method_41_code 66 = .ok (.iconst (-1), 1) := by decide +kernel
theorem dM_reads_67 : decode prog_14_method_41_code 67 = .ok (.if_icmp .ne 66, 3) := by decide +kernel
theorem dM_reads_70 : decode prog_14_method_41_code 70 = .ok (.aload_n 0, 1) := by decide +kernel
theorem dM_reads_71 : decode prog_14_method_41_code 71 = .ok (.aload_n 0, 1) := by decide +kernel
theorem dM_reads_72 : decode prog_14_method_41_code 72 = .ok (.getfield 319, 3) := by decide +kernel
theorem dM_reads_75 : decode prog_14_method_41_code 75 = .ok (.putfield 322, 3) := by decide +kernel
theorem dM_reads_78 : decode prog_14_method_41_code 78 = .ok (.aload_n 0, 1) := by decide +kernel
theorem dM_reads_79 : decode prog_14_method_41_code 79 = .ok (.getfield 322, 3) := by decide +kernel
theorem dM_reads_82 : decode prog_14_method_41_code 82 = .ok (.aload_n 0, 1) := by decide +kernel
theorem dM_reads_83 : decode prog_14_method_41_code 83 = .ok (.getfield 309, 3) := by decide +kernel
theorem dM_reads_86 : decode prog_14_method_41_code 86 = .ok (.if_icmp .ge 30, 3) := by decide +kernel
theorem dM_reads_89 : decode prog_14_method_41_code 89 = .ok (.aload_n 0, 1) := by decide +kernel
theorem dM_reads_90 : decode prog_14_method_41_code 90 = .ok (.getfield 96, 3) := by decide +kernel
theorem dM_reads_93 : decode prog_14_method_41_code 93 = .ok (.aload_n 0, 1) := by decide +kernel
theorem dM_reads_94 : decode prog_14_method_41_code 94 = .ok (.getfield 322, 3) := by decide +kernel
theorem dM_reads_97 : decode prog_14_method_41_code 97 = .ok (.baload, 1) := by decide +kernel
theorem dM_reads_98 : decode prog_14_method_41_code 98 = .ok (.bipush 10, 2) := by decide +kernel
theorem dM_reads_100 : decode prog_14_method_41_code 100 = .ok (.if_icmp .eq 16, 3) := by decide +kernel
theorem dM_reads_103 : decode prog_14_method_41_code 103 = .ok (.aload_n 0, 1) := by decide +kernel
theorem dM_reads_104 : decode prog_14_method_41_code 104 = .ok (.dup, 1) := by decide +kernel
theorem dM_reads_105 : decode prog_14_method_41_code 105 = .ok (.getfield 322, 3) := by decide +kernel
theorem dM_reads_108 : decode prog_14_method_41_code 108 = .ok (.iconst 1, 1) := by decide +kernel
theorem dM_reads_109 : decode prog_14_method_41_code 109 = .ok (.iadd, 1) := by decide +kernel
theorem dM_reads_110 : decode prog_14_method_41_code 110 = .ok (.putfield 322, 3) := by decide +kernel
theorem dM_reads_113 : decode prog_14_method_41_code 113 = .ok (.goto (-35), 3) := by decide +kernel
theorem dM_reads_116 : decode prog_14_method_41_code 116 = .ok (.aload_n 0, 1) := by decide +kernel
theorem dM_reads_117 : decode prog_14_method_41_code 117 = .ok (.invokevirtual 407, 3) := by decide +kernel
theorem dM_reads_120 : decode prog_14_method_41_code 120 = .ok (.aload_n 0, 1) := by decide +kernel
theorem dM_reads_121 : decode prog_14_method_41_code 121 = .ok (.aload_n 0, 1) := by decide +kernel
theorem dM_reads_122 : decode prog_14_method_41_code 122 = .ok (.getfield 322, 3) := by decide +kernel
theorem dM_reads_125 : decode prog_14_method_41_code 125 = .ok (.iconst 1, 1) := by decide +kernel
theorem dM_reads_126 : decode prog_14_method_41_code 126 = .ok (.iadd, 1) := by decide +kernel
theorem dM_reads_127 : decode prog_14_method_41_code 127 = .ok (.putfield 319, 3) := by decide +kernel
theorem dM_reads_130 : decode prog_14_method_41_code 130 = .ok (.goto (-79), 3) := by decide +kernel
theorem dM_reads_133 : decode prog_14_method_41_code 133 = .ok (.return_, 1) := by decide +kernel
theorem dM_right_0 : decode prog_14_method_63_code 0 = .ok (.aload_n 0, 1) := by decide +kernel
theorem dM_right_1 : decode prog_14_method_63_code 1 = .ok (.iload_n 1, 1) := by decide +kernel
theorem dM_right_2 : decode prog_14_method_63_code 2 = .ok (.iload_n 2, 1) := by decide +kernel
theorem dM_right_3 : decode prog_14_method_63_code 3 = .ok (.invokevirtual 479, 3) := by decide +kernel
theorem dM_right_6 : decode prog_14_method_63_code 6 = .ok (.ifCond .eq 18, 3) := by decide +kernel
theorem dM_right_9 : decode prog_14_method_63_code 9 = .ok (.iload_n 3, 1) := by decide +kernel
theorem dM_right_10 : decode prog_14_method_63_code 10 = .ok (.i2l, 1) := by decide +kernel
theorem dM_right_11 : decode prog_14_method_63_code 11 = .ok (.iload_n 2, 1) := by decide +kernel
theorem dM_right_12 : decode prog_14_method_63_code 12 = .ok (.i2l, 1) := by decide +kernel
theorem dM_right_13 : decode prog_14_method_63_code 13 = .ok (.aload_n 0, 1) := by decide +kernel
theorem dM_right_14 : decode prog_14_method_63_code 14 = .ok (.invokevirtual 254, 3) := by decide +kernel
theorem dM_right_17 : decode prog_14_method_63_code 17 = .ok (.i2l, 1) := by decide +kernel
theorem dM_right_18 : decode prog_14_method_63_code 18 = .ok (.invokestatic 222, 3) := by decide +kernel
theorem dM_right_21 : decode prog_14_method_63_code 21 = .ok (.ifCond .ne 5, 3) := by decide +kernel
theorem dM_right_24 : decode prog_14_method_63_code 24 = .ok (.iconst (-1), 1) := by decide +kernel
theorem dM_right_25 : decode prog_14_method_63_code 25 = .ok (.ireturn, 1) := by decide +kernel
theorem dM_right_26 : decode prog_14_method_63_code 26 = .ok (.aload_n 0, 1) := by decide +kernel
theorem dM_right_27 : decode prog_14_method_63_code 27 = .ok (.iload_n 2, 1) := by decide +kernel
theorem dM_right_28 : decode prog_14_method_63_code 28 = .ok (.iload_n 3, 1) := by decide +kernel
theorem dM_right_29 : decode prog_14_method_63_code 29 = .ok (.iconst 0, 1) := by decide +kernel
theorem dM_right_30 : decode prog_14_method_63_code 30 = .ok (.invokevirtual 471, 3) := by decide +kernel
theorem dM_right_33 : decode prog_14_method_63_code 33 = .ok (.aload_n 0, 1) := by decide +kernel
theorem dM_right_34 : decode prog_14_method_63_code 34 = .ok (.getfield 148, 3) := by decide +kernel
theorem dM_right_37 : decode prog_14_method_63_code 37 = .ok (.iload_n 1, 1) := by decide +kernel
theorem dM_right_38 : decode prog_14_method_63_code 38 = .ok (.aaload, 1) := by decide +kernel
theorem dM_right_39 : decode prog_14_method_63_code 39 = .ok (.iload_n 2, 1) := by decide +kernel
theorem dM_right_40 : decode prog_14_method_63_code 40 = .ok (.laload, 1) := by decide +kernel
theorem dM_right_41 : decode prog_14_method_63_code 41 = .ok (.invokestatic 482, 3) := by decide +kernel
theorem dM_right_44 : decode prog_14_method_63_code 44 = .ok (.ireturn, 1) := by decide +kernel
theorem dM_rivals_0 : decode prog_14_method_94_code 0 = .ok (.aload_n 0, 1) := by decide +kernel
theorem dM_rivals_1 : decode prog_14_method_94_code 1 = .ok (.invokevirtual 541, 3) := by decide +kernel
theorem dM_rivals_4 : decode prog_14_method_94_code 4 = .ok (.aload_n 0, 1) := by decide +kernel
theorem dM_rivals_5 : decode prog_14_method_94_code 5 = .ok (.getfield 529, 3) := by decide +kernel
theorem dM_rivals_8 : decode prog_14_method_94_code 8 = .ok (.iconst (-1), 1) := by decide +kernel
theorem dM_rivals_9 : decode prog_14_method_94_code 9 = .ok (.if_icmp .ne 7, 3) := by decide +kernel
theorem dM_rivals_12 : decode prog_14_method_94_code 12 = .ok (.iconst (-1), 1) := by decide +kernel
theorem dM_rivals_13 : decode prog_14_method_94_code 13 = .ok (.goto 9, 3) := by decide +kernel
theorem dM_rivals_16 : decode prog_14_method_94_code 16 = .ok (.aload_n 0, 1) := by decide +kernel
theorem dM_rivals_17 : decode prog_14_method_94_code 17 = .ok (.getfield 532, 3) := by decide +kernel
theorem dM_rivals_20 : decode prog_14_method_94_code 20 = .ok (.iconst 1, 1) := by decide +kernel
theorem dM_rivals_21 : decode prog_14_method_94_code 21 = .ok (.isub, 1) := by decide +kernel
theorem dM_rivals_22 : decode prog_14_method_94_code 22 = .ok (.ireturn, 1) := by decide +kernel
theorem dM_rule0_0 : decode prog_14_method_38_code 0 = .ok (.aload_n 0, 1) := by decide +kernel
theorem dM_rule0_1 : decode prog_14_method_38_code 1 = .ok (.ldc_w 355, 3) := by decide +kernel
theorem dM_rule0_4 : decode prog_14_method_38_code 4 = .ok (.invokevirtual 357, 3) := by decide +kernel
theorem dM_rule0_7 : decode prog_14_method_38_code 7 = .ok (.ifCond .eq 19, 3) := by decide +kernel
theorem dM_rule0_10 : decode prog_14_method_38_code 10 = .ok (.aload_n 0, 1) := by decide +kernel
theorem dM_rule0_11 : decode prog_14_method_38_code 11 = .ok (.iload_n 1, 1) := by decide +kernel
theorem dM_rule0_12 : decode prog_14_method_38_code 12 = .ok (.iconst 0, 1) := by decide +kernel
theorem dM_rule0_13 : decode prog_14_method_38_code 13 = .ok (.aload_n 0, 1) := by decide +kernel
theorem dM_rule0_14 : decode prog_14_method_38_code 14 = .ok (.sipush 5000, 3) := by decide +kernel
theorem dM_rule0_17 : decode prog_14_method_38_code 17 = .ok (.invokevirtual 360, 3) := by decide +kernel
theorem dM_rule0_20 : decode prog_14_method_38_code 20 = .ok (.invokevirtual 362, 3) := by decide +kernel
theorem dM_rule0_23 : decode prog_14_method_38_code 23 = .ok (.goto 284, 3) := by decide +kernel
theorem dM_rule0_26 : decode prog_14_method_38_code 26 = .ok (.aload_n 0, 1) := by decide +kernel
theorem dM_rule0_27 : decode prog_14_method_38_code 27 = .ok (.ldc_w 366, 3) := by decide +kernel
theorem dM_rule0_30 : decode prog_14_method_38_code 30 = .ok (.invokevirtual 357, 3) := by decide +kernel
theorem dM_rule0_33 : decode prog_14_method_38_code 33 = .ok (.ifCond .eq 39, 3) := by decide +kernel
theorem dM_rule0_36 : decode prog_14_method_38_code 36 = .ok (.aload_n 0, 1) := by decide +kernel
theorem dM_rule0_37 : decode prog_14_method_38_code 37 = .ok (.iload_n 1, 1) := by decide +kernel
theorem dM_rule0_38 : decode prog_14_method_38_code 38 = .ok (.iconst 1, 1) := by decide +kernel
theorem dM_rule0_39 : decode prog_14_method_38_code 39 = .ok (.aload_n 0, 1) := by decide +kernel
theorem dM_rule0_40 : decode prog_14_method_38_code 40 = .ok (.sipush 1000, 3) := by decide +kernel
theorem dM_rule0_43 : decode prog_14_method_38_code 43 = .ok (.invokevirtual 360, 3) := by decide +kernel
theorem dM_rule0_46 : decode prog_14_method_38_code 46 = .ok (.invokevirtual 362, 3) := by decide +kernel
theorem dM_rule0_49 : decode prog_14_method_38_code 49 = .ok (.aload_n 0, 1) := by decide +kernel
theorem dM_rule0_50 : decode prog_14_method_38_code 50 = .ok (.ldc_w 368, 3) := by decide +kernel
theorem dM_rule0_53 : decode prog_14_method_38_code 53 = .ok (.invokevirtual 370, 3) := by decide +kernel
theorem dM_rule0_56 : decode prog_14_method_38_code 56 = .ok (.aload_n 0, 1) := by decide +kernel
theorem dM_rule0_57 : decode prog_14_method_38_code 57 = .ok (.iload_n 1, 1) := by decide +kernel
theorem dM_rule0_58 : decode prog_14_method_38_code 58 = .ok (.iconst 2, 1) := by decide +kernel
theorem dM_rule0_59 : decode prog_14_method_38_code 59 = .ok (.aload_n 0, 1) := by decide +kernel
theorem dM_rule0_60 : decode prog_14_method_38_code 60 = .ok (.sipush 10000, 3) := by decide +kernel
theorem dM_rule0_63 : decode prog_14_method_38_code 63 = .ok (.invokevirtual 360, 3) := by decide +kernel
theorem dM_rule0_66 : decode prog_14_method_38_code 66 = .ok (.invokevirtual 362, 3) := by decide +kernel
theorem dM_rule0_69 : decode prog_14_method_38_code 69 = .ok (.goto 238, 3) := by decide +kernel
theorem dM_rule0_72 : decode prog_14_method_38_code 72 = .ok (.aload_n 0, 1) := by decide +kernel
theorem dM_rule0_73 : decode prog_14_method_38_code 73 = .ok (.ldc_w 374, 3) := by decide +kernel
theorem dM_rule0_76 : decode prog_14_method_38_code 76 = .ok (.invokevirtual 357, 3) := by decide +kernel
theorem dM_rule0_79 : decode prog_14_method_38_code 79 = .ok (.ifCond .eq 18, 3) := by decide +kernel
theorem dM_rule0_82 : decode prog_14_method_38_code 82 = .ok (.aload_n 0, 1) := by decide +kernel
theorem dM_rule0_83 : decode prog_14_method_38_code 83 = .ok (.iload_n 1, 1) := by decide +kernel
theorem dM_rule0_84 : decode prog_14_method_38_code 84 = .ok (.iconst 3, 1) := by decide +kernel
theorem dM_rule0_85 : decode prog_14_method_38_code 85 = .ok (.aload_n 0, 1) := by decide +kernel
theorem dM_rule0_86 : decode prog_14_method_38_code 86 = .ok (.bipush 24, 2) := by decide +kernel
theorem dM_rule0_88 : decode prog_14_method_38_code 88 = .ok (.invokevirtual 360, 3) := by decide +kernel
theorem dM_rule0_91 : decode prog_14_method_38_code 91 = .ok (.invokevirtual 362, 3) := by decide +kernel
theorem dM_rule0_94 : decode prog_14_method_38_code 94 = .ok (.goto 213, 3) := by decide +kernel
theorem dM_rule0_97 : decode prog_14_method_38_code 97 = .ok (.aload_n 0, 1) := by decide +kernel
theorem dM_rule0_98 : decode prog_14_method_38_code 98 = .ok (.ldc_w 376, 3) := by decide +kernel
theorem dM_rule0_101 : decode prog_14_method_38_code 101 = .ok (.invokevirtual 357, 3) := by decide +kernel
theorem dM_rule0_104 : decode prog_14_method_38_code 104 = .ok (.ifCond .eq 26, 3) := by decide +kernel
theorem dM_rule0_107 : decode prog_14_method_38_code 107 = .ok (.aload_n 0, 1) := by decide +kernel
theorem dM_rule0_108 : decode prog_14_method_38_code 108 = .ok (.ldc_w 378, 3) := by decide +kernel
theorem dM_rule0_111 : decode prog_14_method_38_code 111 = .ok (.invokevirtual 370, 3) := by decide +kernel
theorem dM_rule0_114 : decode prog_14_method_38_code 114 = .ok (.aload_n 0, 1) := by decide +kernel
theorem dM_rule0_115 : decode prog_14_method_38_code 115 = .ok (.iload_n 1, 1) := by decide +kernel
theorem dM_rule0_116 : decode prog_14_method_38_code 116 = .ok (.iconst 4, 1) := by decide +kernel
theorem dM_rule0_117 : decode prog_14_method_38_code 117 = .ok (.aload_n 0, 1) := by decide +kernel
theorem dM_rule0_118 : decode prog_14_method_38_code 118 = .ok (.sipush 5000, 3) := by decide +kernel
theorem dM_rule0_121 : decode prog_14_method_38_code 121 = .ok (.invokevirtual 360, 3) := by decide +kernel
theorem dM_rule0_124 : decode prog_14_method_38_code 124 = .ok (.invokevirtual 362, 3) := by decide +kernel
theorem dM_rule0_127 : decode prog_14_method_38_code 127 = .ok (.goto 180, 3) := by decide +kernel
theorem dM_rule0_130 : decode prog_14_method_38_code 130 = .ok (.aload_n 0, 1) := by decide +kernel
theorem dM_rule0_131 : decode prog_14_method_38_code 131 = .ok (.ldc_w 380, 3) := by decide +kernel
theorem dM_rule0_134 : decode prog_14_method_38_code 134 = .ok (.invokevirtual 357, 3) := by decide +kernel
theorem dM_rule0_137 : decode prog_14_method_38_code 137 = .ok (.ifCond .eq 37, 3) := by decide +kernel
theorem dM_rule0_140 : decode prog_14_method_38_code 140 = .ok (.aload_n 0, 1) := by decide +kernel
theorem dM_rule0_141 : decode prog_14_method_38_code 141 = .ok (.iload_n 1, 1) := by decide +kernel
theorem dM_rule0_142 : decode prog_14_method_38_code 142 = .ok (.iconst 5, 1) := by decide +kernel
theorem dM_rule0_143 : decode prog_14_method_38_code 143 = .ok (.aload_n 0, 1) := by decide +kernel
theorem dM_rule0_144 : decode prog_14_method_38_code 144 = .ok (.ldc_w 382, 3) := by decide +kernel
theorem dM_rule0_147 : decode prog_14_method_38_code 147 = .ok (.invokevirtual 360, 3) := by decide +kernel
theorem dM_rule0_150 : decode prog_14_method_38_code 150 = .ok (.invokevirtual 362, 3) := by decide +kernel
theorem dM_rule0_153 : decode prog_14_method_38_code 153 = .ok (.aload_n 0, 1) := by decide +kernel
theorem dM_rule0_154 : decode prog_14_method_38_code 154 = .ok (.ldc_w 383, 3) := by decide +kernel
theorem dM_rule0_157 : decode prog_14_method_38_code 157 = .ok (.invokevirtual 370, 3) := by decide +kernel
theorem dM_rule0_160 : decode prog_14_method_38_code 160 = .ok (.aload_n 0, 1) := by decide +kernel
theorem dM_rule0_161 : decode prog_14_method_38_code 161 = .ok (.iload_n 1, 1) := by decide +kernel
theorem dM_rule0_162 : decode prog_14_method_38_code 162 = .ok (.bipush 6, 2) := by decide +kernel
theorem dM_rule0_164 : decode prog_14_method_38_code 164 = .ok (.aload_n 0, 1) := by decide +kernel
theorem dM_rule0_165 : decode prog_14_method_38_code 165 = .ok (.invokevirtual 385, 3) := by decide +kernel
theorem dM_rule0_168 : decode prog_14_method_38_code 168 = .ok (.invokevirtual 362, 3) := by decide +kernel
theorem dM_rule0_171 : decode prog_14_method_38_code 171 = .ok (.goto 136, 3) := by decide +kernel
theorem dM_rule0_174 : decode prog_14_method_38_code 174 = .ok (.aload_n 0, 1) := by decide +kernel
theorem dM_rule0_175 : decode prog_14_method_38_code 175 = .ok (.ldc_w 388, 3) := by decide +kernel
theorem dM_rule0_178 : decode prog_14_method_38_code 178 = .ok (.invokevirtual 357, 3) := by decide +kernel
theorem dM_rule0_181 : decode prog_14_method_38_code 181 = .ok (.ifCond .eq 11, 3) := by decide +kernel
theorem dM_rule0_184 : decode prog_14_method_38_code 184 = .ok (.aload_n 0, 1) := by decide +kernel
theorem dM_rule0_185 : decode prog_14_method_38_code 185 = .ok (.iload_n 1, 1) := by decide +kernel
theorem dM_rule0_186 : decode prog_14_method_38_code 186 = .ok (.invokevirtual 390, 3) := by decide +kernel
theorem dM_rule0_189 : decode prog_14_method_38_code 189 = .ok (.goto 118, 3) := by decide +kernel
theorem dM_rule0_192 : decode prog_14_method_38_code 192 = .ok (.aload_n 0, 1) := by decide +kernel
theorem dM_rule0_193 : decode prog_14_method_38_code 193 = .ok (.ldc_w 392, 3) := by decide +kernel
theorem dM_rule0_196 : decode prog_14_method_38_code 196 = .ok (.invokevirtual 357, 3) := by decide +kernel
theorem dM_rule0_199 : decode prog_14_method_38_code 199 = .ok (.ifCond .eq 45, 3) := by decide +kernel
theorem dM_rule0_202 : decode prog_14_method_38_code 202 = .ok (.aload_n 0, 1) := by decide +kernel
theorem dM_rule0_203 : decode prog_14_method_38_code 203 = .ok (.iload_n 1, 1) := by decide +kernel
theorem dM_rule0_204 : decode prog_14_method_38_code 204 = .ok (.bipush 8, 2) := by decide +kernel
theorem dM_rule0_206 : decode prog_14_method_38_code 206 = .ok (.aload_n 0, 1) := by decide +kernel
theorem dM_rule0_207 : decode prog_14_method_38_code 207 = .ok (.sipush 300, 3) := by decide +kernel
theorem dM_rule0_210 : decode prog_14_method_38_code 210 = .ok (.invokevirtual 360, 3) := by decide +kernel
theorem dM_rule0_213 : decode prog_14_method_38_code 213 = .ok (.invokevirtual 362, 3) := by decide +kernel
theorem dM_rule0_216 : decode prog_14_method_38_code 216 = .ok (.aload_n 0, 1) := by decide +kernel
theorem dM_rule0_217 : decode prog_14_method_38_code 217 = .ok (.ldc_w 394, 3) := by decide +kernel
theorem dM_rule0_220 : decode prog_14_method_38_code 220 = .ok (.invokevirtual 370, 3) := by decide +kernel
theorem dM_rule0_223 : decode prog_14_method_38_code 223 = .ok (.aload_n 0, 1) := by decide +kernel
theorem dM_rule0_224 : decode prog_14_method_38_code 224 = .ok (.ldc_w 383, 3) := by decide +kernel
theorem dM_rule0_227 : decode prog_14_method_38_code 227 = .ok (.invokevirtual 370, 3) := by decide +kernel
theorem dM_rule0_230 : decode prog_14_method_38_code 230 = .ok (.aload_n 0, 1) := by decide +kernel
theorem dM_rule0_231 : decode prog_14_method_38_code 231 = .ok (.iload_n 1, 1) := by decide +kernel
theorem dM_rule0_232 : decode prog_14_method_38_code 232 = .ok (.bipush 9, 2) := by decide +kernel
theorem dM_rule0_234 : decode prog_14_method_38_code 234 = .ok (.aload_n 0, 1) := by decide +kernel
theorem dM_rule0_235 : decode prog_14_method_38_code 235 = .ok (.invokevirtual 385, 3) := by decide +kernel
theorem dM_rule0_238 : decode prog_14_method_38_code 238 = .ok (.invokevirtual 362, 3) := by decide +kernel
theorem dM_rule0_241 : decode prog_14_method_38_code 241 = .ok (.goto 66, 3) := by decide +kernel
theorem dM_rule0_244 : decode prog_14_method_38_code 244 = .ok (.aload_n 0, 1) := by decide +kernel
theorem dM_rule0_245 : decode prog_14_method_38_code 245 = .ok (.ldc_w 396, 3) := by decide +kernel
theorem dM_rule0_248 : decode prog_14_method_38_code 248 = .ok (.invokevirtual 357, 3) := by decide +kernel
theorem dM_rule0_251 : decode prog_14_method_38_code 251 = .ok (.ifCond .eq 19, 3) := by decide +kernel
theorem dM_rule0_254 : decode prog_14_method_38_code 254 = .ok (.aload_n 0, 1) := by decide +kernel
theorem dM_rule0_255 : decode prog_14_method_38_code 255 = .ok (.iload_n 1, 1) := by decide +kernel
theorem dM_rule0_256 : decode prog_14_method_38_code 256 = .ok (.bipush 10, 2) := by decide +kernel
theorem dM_rule0_258 : decode prog_14_method_38_code 258 = .ok (.aload_n 0, 1) := by decide +kernel
theorem dM_rule0_259 : decode prog_14_method_38_code 259 = .ok (.bipush 90, 2) := by decide +kernel
theorem dM_rule0_261 : decode prog_14_method_38_code 261 = .ok (.invokevirtual 360, 3) := by decide +kernel
theorem dM_rule0_264 : decode prog_14_method_38_code 264 = .ok (.invokevirtual 362, 3) := by decide +kernel
theorem dM_rule0_267 : decode prog_14_method_38_code 267 = .ok (.goto 40, 3) := by decide +kernel
theorem dM_rule0_270 : decode prog_14_method_38_code 270 = .ok (.aload_n 0, 1) := by decide +kernel
theorem dM_rule0_271 : decode prog_14_method_38_code 271 = .ok (.ldc_w 398, 3) := by decide +kernel
theorem dM_rule0_274 : decode prog_14_method_38_code 274 = .ok (.invokevirtual 357, 3) := by decide +kernel
theorem dM_rule0_277 : decode prog_14_method_38_code 277 = .ok (.ifCond .eq 26, 3) := by decide +kernel
theorem dM_rule0_280 : decode prog_14_method_38_code 280 = .ok (.aload_n 0, 1) := by decide +kernel
theorem dM_rule0_281 : decode prog_14_method_38_code 281 = .ok (.iload_n 1, 1) := by decide +kernel
theorem dM_rule0_282 : decode prog_14_method_38_code 282 = .ok (.bipush 11, 2) := by decide +kernel
theorem dM_rule0_284 : decode prog_14_method_38_code 284 = .ok (.aload_n 0, 1) := by decide +kernel
theorem dM_rule0_285 : decode prog_14_method_38_code 285 = .ok (.bipush 60, 2) := by decide +kernel
theorem dM_rule0_287 : decode prog_14_method_38_code 287 = .ok (.invokevirtual 360, 3) := by decide +kernel
theorem dM_rule0_290 : decode prog_14_method_38_code 290 = .ok (.invokevirtual 362, 3) := by decide +kernel
theorem dM_rule0_293 : decode prog_14_method_38_code 293 = .ok (.aload_n 0, 1) := by decide +kernel
theorem dM_rule0_294 : decode prog_14_method_38_code 294 = .ok (.ldc_w 394, 3) := by decide +kernel
theorem dM_rule0_297 : decode prog_14_method_38_code 297 = .ok (.invokevirtual 370, 3) := by decide +kernel
theorem dM_rule0_300 : decode prog_14_method_38_code 300 = .ok (.goto 7, 3) := by decide +kernel
theorem dM_rule0_303 : decode prog_14_method_38_code 303 = .ok (.aload_n 0, 1) := by decide +kernel
theorem dM_rule0_304 : decode prog_14_method_38_code 304 = .ok (.invokevirtual 345, 3) := by decide +kernel
theorem dM_rule0_307 : decode prog_14_method_38_code 307 = .ok (.return_, 1) := by decide +kernel
theorem dM_rule1_0 : decode prog_14_method_45_code 0 = .ok (.aload_n 0, 1) := by decide +kernel
theorem dM_rule1_1 : decode prog_14_method_45_code 1 = .ok (.iload_n 1, 1) := by decide +kernel
theorem dM_rule1_2 : decode prog_14_method_45_code 2 = .ok (.invokevirtual 287, 3) := by decide +kernel
theorem dM_rule1_5 : decode prog_14_method_45_code 5 = .ok (.ifCond .eq 37, 3) := by decide +kernel
theorem dM_rule1_8 : decode prog_14_method_45_code 8 = .ok (.iload_n 2, 1) := by decide +kernel
theorem dM_rule1_9 : decode prog_14_method_45_code 9 = .ok (.i2l, 1) := by decide +kernel
theorem dM_rule1_10 : decode prog_14_method_45_code 10 = .ok (.lconst 0, 1) := by decide +kernel
theorem dM_rule1_11 : decode prog_14_method_45_code 11 = .ok (.ldc2_w 220, 3) := by decide +kernel
theorem dM_rule1_14 : decode prog_14_method_45_code 14 = .ok (.invokestatic 222, 3) := by decide +kernel
theorem dM_rule1_17 : decode prog_14_method_45_code 17 = .ok (.ifCond .eq 25, 3) := by decide +kernel
theorem dM_rule1_20 : decode prog_14_method_45_code 20 = .ok (.iload_n 3, 1) := by decide +kernel
theorem dM_rule1_21 : decode prog_14_method_45_code 21 = .ok (.i2l, 1) := by decide +kernel
theorem dM_rule1_22 : decode prog_14_method_45_code 22 = .ok (.lconst 0, 1) := by decide +kernel
theorem dM_rule1_23 : decode prog_14_method_45_code 23 = .ok (.ldc2_w 416, 3) := by decide +kernel
theorem dM_rule1_26 : decode prog_14_method_45_code 26 = .ok (.invokestatic 222, 3) := by decide +kernel
theorem dM_rule1_29 : decode prog_14_method_45_code 29 = .ok (.ifCond .eq 13, 3) := by decide +kernel
theorem dM_rule1_32 : decode prog_14_method_45_code 32 = .ok (.aload_n 0, 1) := by decide +kernel
theorem dM_rule1_33 : decode prog_14_method_45_code 33 = .ok (.iload_n 1, 1) := by decide +kernel
theorem dM_rule1_34 : decode prog_14_method_45_code 34 = .ok (.iload_n 2, 1) := by decide +kernel
theorem dM_rule1_35 : decode prog_14_method_45_code 35 = .ok (.iload_n 3, 1) := by decide +kernel
theorem dM_rule1_36 : decode prog_14_method_45_code 36 = .ok (.invokevirtual 305, 3) := by decide +kernel
theorem dM_rule1_39 : decode prog_14_method_45_code 39 = .ok (.goto 6, 3) := by decide +kernel
theorem dM_rule1_42 : decode prog_14_method_45_code 42 = .ok (.ldc_w 266, 3) := by decide +kernel
theorem dM_rule1_45 : decode prog_14_method_45_code 45 = .ok (.ireturn, 1) := by decide +kernel
theorem dM_ruleOf_0 : decode prog_14_method_44_code 0 = .ok (.iconst (-1), 1) := by decide +kernel
theorem dM_ruleOf_1 : decode prog_14_method_44_code 1 = .ok (.istore 4, 2) := by decide +kernel
theorem dM_ruleOf_3 : decode prog_14_method_44_code 3 = .ok (.iconst 0, 1) := by decide +kernel
theorem dM_ruleOf_4 : decode prog_14_method_44_code 4 = .ok (.istore 5, 2) := by decide +kernel
theorem dM_ruleOf_6 : decode prog_14_method_44_code 6 = .ok (.iload 5, 2) := by decide +kernel
theorem dM_ruleOf_8 : decode prog_14_method_44_code 8 = .ok (.aload_n 0, 1) := by decide +kernel
theorem dM_ruleOf_9 : decode prog_14_method_44_code 9 = .ok (.getfield 413, 3) := by decide +kernel
theorem dM_ruleOf_12 : decode prog_14_method_44_code 12 = .ok (.if_icmp .ge 24, 3) := by decide +kernel
theorem dM_ruleOf_15 : decode prog_14_method_44_code 15 = .ok (.aload_n 0, 1) := by decide +kernel
theorem dM_ruleOf_16 : decode prog_14_method_44_code 16 = .ok (.getfield 105, 3) := by decide +kernel
theorem dM_ruleOf_19 : decode prog_14_method_44_code 19 = .ok (.iload 5, 2) := by decide +kernel
theorem dM_ruleOf_21 : decode prog_14_method_44_code 21 = .ok (.iaload, 1) := by decide +kernel
theorem dM_ruleOf_22 : decode prog_14_method_44_code 22 = .ok (.iload_n 2, 1) := by decide +kernel
theorem dM_ruleOf_23 : decode prog_14_method_44_code 23 = .ok (.if_icmp .gt 7, 3) := by decide +kernel
theorem dM_ruleOf_26 : decode prog_14_method_44_code 26 = .ok (.iload 5, 2) := by decide +kernel
theorem dM_ruleOf_28 : decode prog_14_method_44_code 28 = .ok (.istore 4, 2) := by decide +kernel
theorem dM_ruleOf_30 : decode prog_14_method_44_code 30 = .ok (.iinc 5 1, 3) := by decide +kernel
theorem dM_ruleOf_33 : decode prog_14_method_44_code 33 = .ok (.goto (-27), 3) := by decide +kernel
theorem dM_ruleOf_36 : decode prog_14_method_44_code 36 = .ok (.iload 4, 2) := by decide +kernel
theorem dM_ruleOf_38 : decode prog_14_method_44_code 38 = .ok (.iconst (-1), 1) := by decide +kernel
theorem dM_ruleOf_39 : decode prog_14_method_44_code 39 = .ok (.if_icmp .ne 10, 3) := by decide +kernel
theorem dM_ruleOf_42 : decode prog_14_method_44_code 42 = .ok (.aload_n 0, 1) := by decide +kernel
theorem dM_ruleOf_43 : decode prog_14_method_44_code 43 = .ok (.getfield 108, 3) := by decide +kernel
theorem dM_ruleOf_46 : decode prog_14_method_44_code 46 = .ok (.iload_n 3, 1) := by decide +kernel
theorem dM_ruleOf_47 : decode prog_14_method_44_code 47 = .ok (.iaload, 1) := by decide +kernel
theorem dM_ruleOf_48 : decode prog_14_method_44_code 48 = .ok (.ireturn, 1) := by decide +kernel
theorem dM_ruleOf_49 : decode prog_14_method_44_code 49 = .ok (.aload_n 0, 1) := by decide +kernel
theorem dM_ruleOf_50 : decode prog_14_method_44_code 50 = .ok (.getfield 102, 3) := by decide +kernel
theorem dM_ruleOf_53 : decode prog_14_method_44_code 53 = .ok (.iload 4, 2) := by decide +kernel
theorem dM_ruleOf_55 : decode prog_14_method_44_code 55 = .ok (.aaload, 1) := by decide +kernel
theorem dM_ruleOf_56 : decode prog_14_method_44_code 56 = .ok (.iload_n 1, 1) := by decide +kernel
theorem dM_ruleOf_57 : decode prog_14_method_44_code 57 = .ok (.aaload, 1) := by decide +kernel
theorem dM_ruleOf_58 : decode prog_14_method_44_code 58 = .ok (.iload_n 3, 1) := by decide +kernel
theorem dM_ruleOf_59 : decode prog_14_method_44_code 59 = .ok (.iaload, 1) := by decide +kernel
theorem dM_ruleOf_60 : decode prog_14_method_44_code 60 = .ok (.ldc_w 266, 3) := by decide +kernel
theorem dM_ruleOf_63 : decode prog_14_method_44_code 63 = .ok (.if_icmp .eq 15, 3) := by decide +kernel
theorem dM_ruleOf_66 : decode prog_14_method_44_code 66 = .ok (.aload_n 0, 1) := by decide +kernel
theorem dM_ruleOf_67 : decode prog_14_method_44_code 67 = .ok (.getfield 102, 3) := by decide +kernel
theorem dM_ruleOf_70 : decode prog_14_method_44_code 70 = .ok (.iload 4, 2) := by decide +kernel
theorem dM_ruleOf_72 : decode prog_14_method_44_code 72 = .ok (.aaload, 1) := by decide +kernel
theorem dM_ruleOf_73 : decode prog_14_method_44_code 73 = .ok (.iload_n 1, 1) := by decide +kernel
theorem dM_ruleOf_74 : decode prog_14_method_44_code 74 = .ok (.aaload, 1) := by decide +kernel
theorem dM_ruleOf_75 : decode prog_14_method_44_code 75 = .ok (.iload_n 3, 1) := by decide +kernel
theorem dM_ruleOf_76 : decode prog_14_method_44_code 76 = .ok (.iaload, 1) := by decide +kernel
theorem dM_ruleOf_77 : decode prog_14_method_44_code 77 = .ok (.ireturn, 1) := by decide +kernel
theorem dM_ruleOf_78 : decode prog_14_method_44_code 78 = .ok (.aload_n 0, 1) := by decide +kernel
theorem dM_ruleOf_79 : decode prog_14_method_44_code 79 = .ok (.getfield 102, 3) := by decide +kernel
theorem dM_ruleOf_82 : decode prog_14_method_44_code 82 = .ok (.iload 4, 2) := by decide +kernel
theorem dM_ruleOf_84 : decode prog_14_method_44_code 84 = .ok (.aaload, 1) := by decide +kernel
theorem dM_ruleOf_85 : decode prog_14_method_44_code 85 = .ok (.iconst 4, 1) := by decide +kernel
theorem dM_ruleOf_86 : decode prog_14_method_44_code 86 = .ok (.aaload, 1) := by decide +kernel
theorem dM_ruleOf_87 : decode prog_14_method_44_code 87 = .ok (.iload_n 3, 1) := by decide +kernel
theorem dM_ruleOf_88 : decode prog_14_method_44_code 88 = .ok (.iaload, 1) := by decide +kernel
theorem dM_ruleOf_89 : decode prog_14_method_44_code 89 = .ok (.ldc_w 266, 3) := by decide +kernel
theorem dM_ruleOf_92 : decode prog_14_method_44_code 92 = .ok (.if_icmp .eq 17, 3) := by decide +kernel
theorem dM_ruleOf_95 : decode prog_14_method_44_code 95 = .ok (.aload_n 0, 1) := by decide +kernel
theorem dM_ruleOf_96 : decode prog_14_method_44_code 96 = .ok (.getfield 102, 3) := by decide +kernel
theorem dM_ruleOf_99 : decode prog_14_method_44_code 99 = .ok (.iload 4, 2) := by decide +kernel
theorem dM_ruleOf_101 : decode prog_14_method_44_code 101 = .ok (.aaload, 1) := by decide +kernel
theorem dM_ruleOf_102 : decode prog_14_method_44_code 102 = .ok (.iconst 4, 1) := by decide +kernel
theorem dM_ruleOf_103 : decode prog_14_method_44_code 103 = .ok (.aaload, 1) := by decide +kernel
theorem dM_ruleOf_104 : decode prog_14_method_44_code 104 = .ok (.iload_n 3, 1) := by decide +kernel
theorem dM_ruleOf_105 : decode prog_14_method_44_code 105 = .ok (.iaload, 1) := by decide +kernel
theorem dM_ruleOf_106 : decode prog_14_method_44_code 106 = .ok (.goto 9, 3) := by decide +kernel
theorem dM_ruleOf_109 : decode prog_14_method_44_code 109 = .ok (.aload_n 0, 1) := by decide +kernel
theorem dM_ruleOf_110 : decode prog_14_method_44_code 110 = .ok (.getfield 108, 3) := by decide +kernel
theorem dM_ruleOf_113 : decode prog_14_method_44_code 113 = .ok (.iload_n 3, 1) := by decide +kernel
theorem dM_ruleOf_114 : decode prog_14_method_44_code 114 = .ok (.iaload, 1) := by decide +kernel
theorem dM_ruleOf_115 : decode prog_14_method_44_code 115 = .ok (.ireturn, 1) := by decide +kernel
theorem dM_searches_0 : decode prog_14_method_92_code 0 = .ok (.aload_n 0, 1) := by decide +kernel
theorem dM_searches_1 : decode prog_14_method_92_code 1 = .ok (.iconst (-1), 1) := by decide +kernel
theorem dM_searches_2 : decode prog_14_method_92_code 2 = .ok (.putfield 529, 3) := by decide +kernel
theorem dM_searches_5 : decode prog_14_method_92_code 5 = .ok (.aload_n 0, 1) := by decide +kernel
theorem dM_searches_6 : decode prog_14_method_92_code 6 = .ok (.iconst 0, 1) := by decide +kernel
theorem dM_searches_7 : decode prog_14_method_92_code 7 = .ok (.putfield 532, 3) := by decide +kernel
theorem dM_searches_10 : decode prog_14_method_92_code 10 = .ok (.iconst 0, 1) := by decide +kernel
theorem dM_searches_11 : decode prog_14_method_92_code 11 = .ok (.istore_n 1, 1) := by decide +kernel
theorem dM_searches_12 : decode prog_14_method_92_code 12 = .ok (.iload_n 1, 1) := by decide +kernel
theorem dM_searches_13 : decode prog_14_method_92_code 13 = .ok (.aload_n 0, 1) := by decide +kernel
theorem dM_searches_14 : decode prog_14_method_92_code 14 = .ok (.getfield 526, 3) := by decide +kernel
theorem dM_searches_17 : decode prog_14_method_92_code 17 = .ok (.if_icmp .gt 77, 3) := by decide +kernel
theorem dM_searches_20 : decode prog_14_method_92_code 20 = .ok (.aload_n 0, 1) := by decide +kernel
theorem dM_searches_21 : decode prog_14_method_92_code 21 = .ok (.getfield 529, 3) := by decide +kernel
theorem dM_searches_24 : decode prog_14_method_92_code 24 = .ok (.iconst (-1), 1) := by decide +kernel
theorem dM_searches_25 : decode prog_14_method_92_code 25 = .ok (.if_icmp .ne 69, 3) := by decide +kernel
theorem dM_searches_28 : decode prog_14_method_92_code 28 = .ok (.iconst 0, 1) := by decide +kernel
theorem dM_searches_29 : decode prog_14_method_92_code 29 = .ok (.istore_n 2, 1) := by decide +kernel
theorem dM_searches_30 : decode prog_14_method_92_code 30 = .ok (.iload_n 2, 1) := by decide +kernel
theorem dM_searches_31 : decode prog_14_method_92_code 31 = .ok (.iconst 1, 1) := by decide +kernel
theorem dM_searches_32 : decode prog_14_method_92_code 32 = .ok (.aload_n 0, 1) := by decide +kernel
theorem dM_searches_33 : decode prog_14_method_92_code 33 = .ok (.getfield 526, 3) := by decide +kernel
theorem dM_searches_36 : decode prog_14_method_92_code 36 = .ok (.ishl, 1) := by decide +kernel
theorem dM_searches_37 : decode prog_14_method_92_code 37 = .ok (.if_icmp .ge 51, 3) := by decide +kernel
theorem dM_searches_40 : decode prog_14_method_92_code 40 = .ok (.iload_n 2, 1) := by decide +kernel
theorem dM_searches_41 : decode prog_14_method_92_code 41 = .ok (.invokestatic 535, 3) := by decide +kernel
theorem dM_searches_44 : decode prog_14_method_92_code 44 = .ok (.iload_n 1, 1) := by decide +kernel
theorem dM_searches_45 : decode prog_14_method_92_code 45 = .ok (.if_icmp .ne 37, 3) := by decide +kernel
theorem dM_searches_48 : decode prog_14_method_92_code 48 = .ok (.aload_n 0, 1) := by decide +kernel
theorem dM_searches_49 : decode prog_14_method_92_code 49 = .ok (.iload_n 2, 1) := by decide +kernel
theorem dM_searches_50 : decode prog_14_method_92_code 50 = .ok (.invokevirtual 538, 3) := by decide +kernel
theorem dM_searches_53 : decode prog_14_method_92_code 53 = .ok (.ifCond .ne 6, 3) := by decide +kernel
theorem dM_searches_56 : decode prog_14_method_92_code 56 = .ok (.goto 26, 3) := by decide +kernel
theorem dM_searches_59 : decode prog_14_method_92_code 59 = .ok (.aload_n 0, 1) := by decide +kernel
theorem dM_searches_60 : decode prog_14_method_92_code 60 = .ok (.getfield 529, 3) := by decide +kernel
theorem dM_searches_63 : decode prog_14_method_92_code 63 = .ok (.iconst (-1), 1) := by decide +kernel
theorem dM_searches_64 : decode prog_14_method_92_code 64 = .ok (.if_icmp .ne 8, 3) := by decide +kernel
theorem dM_searches_67 : decode prog_14_method_92_code 67 = .ok (.aload_n 0, 1) := by decide +kernel
theorem dM_searches_68 : decode prog_14_method_92_code 68 = .ok (.iload_n 2, 1) := by decide +kernel
theorem dM_searches_69 : decode prog_14_method_92_code 69 = .ok (.putfield 529, 3) := by decide +kernel
theorem dM_searches_72 : decode prog_14_method_92_code 72 = .ok (.aload_n 0, 1) := by decide +kernel
theorem dM_searches_73 : decode prog_14_method_92_code 73 = .ok (.dup, 1) := by decide +kernel
theorem dM_searches_74 : decode prog_14_method_92_code 74 = .ok (.getfield 532, 3) := by decide +kernel
theorem dM_searches_77 : decode prog_14_method_92_code 77 = .ok (.iconst 1, 1) := by decide +kernel
theorem dM_searches_78 : decode prog_14_method_92_code 78 = .ok (.iadd, 1) := by decide +kernel
theorem dM_searches_79 : decode prog_14_method_92_code 79 = .ok (.putfield 532, 3) := by decide +kernel
theorem dM_searches_82 : decode prog_14_method_92_code 82 = .ok (.iinc 2 1, 3) := by decide +kernel
theorem dM_searches_85 : decode prog_14_method_92_code 85 = .ok (.goto (-55), 3) := by decide +kernel
theorem dM_searches_88 : decode prog_14_method_92_code 88 = .ok (.iinc 1 1, 3) := by decide +kernel
theorem dM_searches_91 : decode prog_14_method_92_code 91 = .ok (.goto (-79), 3) := by decide +kernel
theorem dM_searches_94 : decode prog_14_method_92_code 94 = .ok (.return_, 1) := by decide +kernel
theorem dM_sets_0 : decode prog_14_method_36_code 0 = .ok (.aload_n 0, 1) := by decide +kernel
theorem dM_sets_1 : decode prog_14_method_36_code 1 = .ok (.getfield 316, 3) := by decide +kernel
theorem dM_sets_4 : decode prog_14_method_36_code 4 = .ok (.iconst (-1), 1) := by decide +kernel
theorem dM_sets_5 : decode prog_14_method_36_code 5 = .ok (.if_icmp .ne 15, 3) := by decide +kernel
theorem dM_sets_8 : decode prog_14_method_36_code 8 = .ok (.aload_n 0, 1) := by decide +kernel
theorem dM_sets_9 : decode prog_14_method_36_code 9 = .ok (.getfield 102, 3) := by decide +kernel
theorem dM_sets_12 : decode prog_14_method_36_code 12 = .ok (.bipush 6, 2) := by decide +kernel
theorem dM_sets_14 : decode prog_14_method_36_code 14 = .ok (.aaload, 1) := by decide +kernel
theorem dM_sets_15 : decode prog_14_method_36_code 15 = .ok (.iload_n 1, 1) := by decide +kernel
theorem dM_sets_16 : decode prog_14_method_36_code 16 = .ok (.aaload, 1) := by decide +kernel
theorem dM_sets_17 : decode prog_14_method_36_code 17 = .ok (.iload_n 2, 1) := by decide +kernel
theorem dM_sets_18 : decode prog_14_method_36_code 18 = .ok (.iload_n 3, 1) := by decide +kernel
theorem dM_sets_19 : decode prog_14_method_36_code 19 = .ok (.iastore, 1) := by decide +kernel
theorem dM_sets_20 : decode prog_14_method_36_code 20 = .ok (.return_, 1) := by decide +kernel
theorem dM_settles_0 : decode prog_14_method_100_code 0 = .ok (.aload_n 0, 1) := by decide +kernel
theorem dM_settles_1 : decode prog_14_method_100_code 1 = .ok (.iload_n 1, 1) := by decide +kernel
theorem dM_settles_2 : decode prog_14_method_100_code 2 = .ok (.invokevirtual 287, 3) := by decide +kernel
theorem dM_settles_5 : decode prog_14_method_100_code 5 = .ok (.ifCond .ne 5, 3) := by decide +kernel
theorem dM_settles_8 : decode prog_14_method_100_code 8 = .ok (.iconst 0, 1) := by decide +kernel
theorem dM_settles_9 : decode prog_14_method_100_code 9 = .ok (.ireturn, 1) := by decide +kernel
theorem dM_settles_10 : decode prog_14_method_100_code 10 = .ok (.aload_n 0, 1) := by decide +kernel
theorem dM_settles_11 : decode prog_14_method_100_code 11 = .ok (.iload_n 1, 1) := by decide +kernel
theorem dM_settles_12 : decode prog_14_method_100_code 12 = .ok (.invokevirtual 546, 3) := by decide +kernel
theorem dM_settles_15 : decode prog_14_method_100_code 15 = .ok (.aload_n 0, 1) := by decide +kernel
theorem dM_settles_16 : decode prog_14_method_100_code 16 = .ok (.iconst 0, 1) := by decide +kernel
theorem dM_settles_17 : decode prog_14_method_100_code 17 = .ok (.putfield 549, 3) := by decide +kernel
theorem dM_settles_20 : decode prog_14_method_100_code 20 = .ok (.iconst 0, 1) := by decide +kernel
theorem dM_settles_21 : decode prog_14_method_100_code 21 = .ok (.istore_n 2, 1) := by decide +kernel
theorem dM_settles_22 : decode prog_14_method_100_code 22 = .ok (.iload_n 2, 1) := by decide +kernel
theorem dM_settles_23 : decode prog_14_method_100_code 23 = .ok (.bipush 22, 2) := by decide +kernel
theorem dM_settles_25 : decode prog_14_method_100_code 25 = .ok (.if_icmp .ge 54, 3) := by decide +kernel
theorem dM_settles_28 : decode prog_14_method_100_code 28 = .ok (.aload_n 0, 1) := by decide +kernel
theorem dM_settles_29 : decode prog_14_method_100_code 29 = .ok (.getfield 193, 3) := by decide +kernel
theorem dM_settles_32 : decode prog_14_method_100_code 32 = .ok (.iload_n 2, 1) := by decide +kernel
theorem dM_settles_33 : decode prog_14_method_100_code 33 = .ok (.laload, 1) := by decide +kernel
theorem dM_settles_34 : decode prog_14_method_100_code 34 = .ok (.lconst 0, 1) := by decide +kernel
theorem dM_settles_35 : decode prog_14_method_100_code 35 = .ok (.lcmp, 1) := by decide +kernel
theorem dM_settles_36 : decode prog_14_method_100_code 36 = .ok (.ifCond .ne 6, 3) := by decide +kernel
theorem dM_settles_39 : decode prog_14_method_100_code 39 = .ok (.goto 34, 3) := by decide +kernel
theorem dM_settles_42 : decode prog_14_method_100_code 42 = .ok (.aload_n 0, 1) := by decide +kernel
theorem dM_settles_43 : decode prog_14_method_100_code 43 = .ok (.getfield 549, 3) := by decide +kernel
theorem dM_settles_46 : decode prog_14_method_100_code 46 = .ok (.bipush 10, 2) := by decide +kernel
theorem dM_settles_48 : decode prog_14_method_100_code 48 = .ok (.if_icmp .ne 5, 3) := by decide +kernel
theorem dM_settles_51 : decode prog_14_method_100_code 51 = .ok (.iconst 0, 1) := by decide +kernel
theorem dM_settles_52 : decode prog_14_method_100_code 52 = .ok (.ireturn, 1) := by decide +kernel
theorem dM_settles_53 : decode prog_14_method_100_code 53 = .ok (.aload_n 0, 1) := by decide +kernel
theorem dM_settles_54 : decode prog_14_method_100_code 54 = .ok (.getfield 196, 3) := by decide +kernel
theorem dM_settles_57 : decode prog_14_method_100_code 57 = .ok (.aload_n 0, 1) := by decide +kernel
theorem dM_settles_58 : decode prog_14_method_100_code 58 = .ok (.getfield 549, 3) := by decide +kernel
theorem dM_settles_61 : decode prog_14_method_100_code 61 = .ok (.iload_n 2, 1) := by decide +kernel
theorem dM_settles_62 : decode prog_14_method_100_code 62 = .ok (.iastore, 1) := by decide +kernel
theorem dM_settles_63 : decode prog_14_method_100_code 63 = .ok (.aload_n 0, 1) := by decide +kernel
theorem dM_settles_64 : decode prog_14_method_100_code 64 = .ok (.dup, 1) := by decide +kernel
theorem dM_settles_65 : decode prog_14_method_100_code 65 = .ok (.getfield 549, 3) := by decide +kernel
theorem dM_settles_68 : decode prog_14_method_100_code 68 = .ok (.iconst 1, 1) := by decide +kernel
theorem dM_settles_69 : decode prog_14_method_100_code 69 = .ok (.iadd, 1) := by decide +kernel
theorem dM_settles_70 : decode prog_14_method_100_code 70 = .ok (.putfield 549, 3) := by decide +kernel
theorem dM_settles_73 : decode prog_14_method_100_code 73 = .ok (.iinc 2 1, 3) := by decide +kernel
theorem dM_settles_76 : decode prog_14_method_100_code 76 = .ok (.goto (-54), 3) := by decide +kernel
theorem dM_settles_79 : decode prog_14_method_100_code 79 = .ok (.iconst 0, 1) := by decide +kernel
theorem dM_settles_80 : decode prog_14_method_100_code 80 = .ok (.istore_n 2, 1) := by decide +kernel
theorem dM_settles_81 : decode prog_14_method_100_code 81 = .ok (.iload_n 2, 1) := by decide +kernel
theorem dM_settles_82 : decode prog_14_method_100_code 82 = .ok (.iconst 1, 1) := by decide +kernel
theorem dM_settles_83 : decode prog_14_method_100_code 83 = .ok (.aload_n 0, 1) := by decide +kernel
theorem dM_settles_84 : decode prog_14_method_100_code 84 = .ok (.getfield 549, 3) := by decide +kernel
theorem dM_settles_87 : decode prog_14_method_100_code 87 = .ok (.ishl, 1) := by decide +kernel
theorem dM_settles_88 : decode prog_14_method_100_code 88 = .ok (.if_icmp .ge 61, 3) := by decide +kernel
theorem dM_settles_91 : decode prog_14_method_100_code 91 = .ok (.aload_n 0, 1) := by decide +kernel
theorem dM_settles_92 : decode prog_14_method_100_code 92 = .ok (.getfield 202, 3) := by decide +kernel
theorem dM_settles_95 : decode prog_14_method_100_code 95 = .ok (.iload_n 2, 1) := by decide +kernel
theorem dM_settles_96 : decode prog_14_method_100_code 96 = .ok (.lconst 0, 1) := by decide +kernel
theorem dM_settles_97 : decode prog_14_method_100_code 97 = .ok (.lastore, 1) := by decide +kernel
theorem dM_settles_98 : decode prog_14_method_100_code 98 = .ok (.iconst 0, 1) := by decide +kernel
theorem dM_settles_99 : decode prog_14_method_100_code 99 = .ok (.istore_n 3, 1) := by decide +kernel
theorem dM_settles_100 : decode prog_14_method_100_code 100 = .ok (.iload_n 3, 1) := by decide +kernel
theorem dM_settles_101 : decode prog_14_method_100_code 101 = .ok (.aload_n 0, 1) := by decide +kernel
theorem dM_settles_102 : decode prog_14_method_100_code 102 = .ok (.getfield 549, 3) := by decide +kernel
theorem dM_settles_105 : decode prog_14_method_100_code 105 = .ok (.if_icmp .ge 38, 3) := by decide +kernel
theorem dM_settles_108 : decode prog_14_method_100_code 108 = .ok (.iload_n 2, 1) := by decide +kernel
theorem dM_settles_109 : decode prog_14_method_100_code 109 = .ok (.iload_n 3, 1) := by decide +kernel
theorem dM_settles_110 : decode prog_14_method_100_code 110 = .ok (.ishr, 1) := by decide +kernel
theorem dM_settles_111 : decode prog_14_method_100_code 111 = .ok (.iconst 1, 1) := by decide +kernel
theorem dM_settles_112 : decode prog_14_method_100_code 112 = .ok (.iand, 1) := by decide +kernel
theorem dM_settles_113 : decode prog_14_method_100_code 113 = .ok (.iconst 1, 1) := by decide +kernel
theorem dM_settles_114 : decode prog_14_method_100_code 114 = .ok (.if_icmp .ne 23, 3) := by decide +kernel
theorem dM_settles_117 : decode prog_14_method_100_code 117 = .ok (.aload_n 0, 1) := by decide +kernel
theorem dM_settles_118 : decode prog_14_method_100_code 118 = .ok (.getfield 202, 3) := by decide +kernel
theorem dM_settles_121 : decode prog_14_method_100_code 121 = .ok (.iload_n 2, 1) := by decide +kernel
theorem dM_settles_122 : decode prog_14_method_100_code 122 = .ok (.dup2, 1) := by decide +kernel
theorem dM_settles_123 : decode prog_14_method_100_code 123 = .ok (.laload, 1) := by decide +kernel
theorem dM_settles_124 : decode prog_14_method_100_code 124 = .ok (.aload_n 0, 1) := by decide +kernel
theorem dM_settles_125 : decode prog_14_method_100_code 125 = .ok (.getfield 193, 3) := by decide +kernel
theorem dM_settles_128 : decode prog_14_method_100_code 128 = .ok (.aload_n 0, 1) := by decide +kernel
theorem dM_settles_129 : decode prog_14_method_100_code 129 = .ok (.getfield 196, 3) := by decide +kernel
theorem dM_settles_132 : decode prog_14_method_100_code 132 = .ok (.iload_n 3, 1) := by decide +kernel
theorem dM_settles_133 : decode prog_14_method_100_code 133 = .ok (.iaload, 1) := by decide +kernel
theorem dM_settles_134 : decode prog_14_method_100_code 134 = .ok (.laload, 1) := by decide +kernel
theorem dM_settles_135 : decode prog_14_method_100_code 135 = .ok (.ladd, 1) := by decide +kernel
theorem dM_settles_136 : decode prog_14_method_100_code 136 = .ok (.lastore, 1) := by decide +kernel
theorem dM_settles_137 : decode prog_14_method_100_code 137 = .ok (.iinc 3 1, 3) := by decide +kernel
theorem dM_settles_140 : decode prog_14_method_100_code 140 = .ok (.goto (-40), 3) := by decide +kernel
theorem dM_settles_143 : decode prog_14_method_100_code 143 = .ok (.iinc 2 1, 3) := by decide +kernel
theorem dM_settles_146 : decode prog_14_method_100_code 146 = .ok (.goto (-65), 3) := by decide +kernel
theorem dM_settles_149 : decode prog_14_method_100_code 149 = .ok (.iconst 0, 1) := by decide +kernel
theorem dM_settles_150 : decode prog_14_method_100_code 150 = .ok (.istore_n 2, 1) := by decide +kernel
theorem dM_settles_151 : decode prog_14_method_100_code 151 = .ok (.iload_n 2, 1) := by decide +kernel
theorem dM_settles_152 : decode prog_14_method_100_code 152 = .ok (.iconst 1, 1) := by decide +kernel
theorem dM_settles_153 : decode prog_14_method_100_code 153 = .ok (.aload_n 0, 1) := by decide +kernel
theorem dM_settles_154 : decode prog_14_method_100_code 154 = .ok (.getfield 549, 3) := by decide +kernel
theorem dM_settles_157 : decode prog_14_method_100_code 157 = .ok (.ishl, 1) := by decide +kernel
theorem dM_settles_158 : decode prog_14_method_100_code 158 = .ok (.if_icmp .ge 14, 3) := by decide +kernel
theorem dM_settles_161 : decode prog_14_method_100_code 161 = .ok (.aload_n 0, 1) := by decide +kernel
theorem dM_settles_162 : decode prog_14_method_100_code 162 = .ok (.iload_n 2, 1) := by decide +kernel
theorem dM_settles_163 : decode prog_14_method_100_code 163 = .ok (.invokevirtual 552, 3) := by decide +kernel
theorem dM_settles_166 : decode prog_14_method_100_code 166 = .ok (.iinc 2 1, 3) := by decide +kernel
theorem dM_settles_169 : decode prog_14_method_100_code 169 = .ok (.goto (-18), 3) := by decide +kernel
theorem dM_settles_172 : decode prog_14_method_100_code 172 = .ok (.aload_n 0, 1) := by decide +kernel
theorem dM_settles_173 : decode prog_14_method_100_code 173 = .ok (.invokevirtual 555, 3) := by decide +kernel
theorem dM_settles_176 : decode prog_14_method_100_code 176 = .ok (.iconst 1, 1) := by decide +kernel
theorem dM_settles_177 : decode prog_14_method_100_code 177 = .ok (.ireturn, 1) := by decide +kernel
theorem dM_skips_0 : decode prog_14_method_28_code 0 = .ok (.aload_n 0, 1) := by decide +kernel
theorem dM_skips_1 : decode prog_14_method_28_code 1 = .ok (.getfield 319, 3) := by decide +kernel
theorem dM_skips_4 : decode prog_14_method_28_code 4 = .ok (.aload_n 0, 1) := by decide +kernel
theorem dM_skips_5 : decode prog_14_method_28_code 5 = .ok (.getfield 322, 3) := by decide +kernel
theorem dM_skips_8 : decode prog_14_method_28_code 8 = .ok (.if_icmp .ge 30, 3) := by decide +kernel
theorem dM_skips_11 : decode prog_14_method_28_code 11 = .ok (.aload_n 0, 1) := by decide +kernel
theorem dM_skips_12 : decode prog_14_method_28_code 12 = .ok (.getfield 96, 3) := by decide +kernel
theorem dM_skips_15 : decode prog_14_method_28_code 15 = .ok (.aload_n 0, 1) := by decide +kernel
theorem dM_skips_16 : decode prog_14_method_28_code 16 = .ok (.getfield 319, 3) := by decide +kernel
theorem dM_skips_19 : decode prog_14_method_28_code 19 = .ok (.baload, 1) := by decide +kernel
theorem dM_skips_20 : decode prog_14_method_28_code 20 = .ok (.bipush 32, 2) := by decide +kernel
theorem dM_skips_22 : decode prog_14_method_28_code 22 = .ok (.if_icmp .ne 16, 3) := by decide +kernel
theorem dM_skips_25 : decode prog_14_method_28_code 25 = .ok (.aload_n 0, 1) := by decide +kernel
theorem dM_skips_26 : decode prog_14_method_28_code 26 = .ok (.dup, 1) := by decide +kernel
theorem dM_skips_27 : decode prog_14_method_28_code 27 = .ok (.getfield 319, 3) := by decide +kernel
theorem dM_skips_30 : decode prog_14_method_28_code 30 = .ok (.iconst 1, 1) := by decide +kernel
theorem dM_skips_31 : decode prog_14_method_28_code 31 = .ok (.iadd, 1) := by decide +kernel
theorem dM_skips_32 : decode prog_14_method_28_code 32 = .ok (.putfield 319, 3) := by decide +kernel
theorem dM_skips_35 : decode prog_14_method_28_code 35 = .ok (.goto (-35), 3) := by decide +kernel
theorem dM_skips_38 : decode prog_14_method_28_code 38 = .ok (.return_, 1) := by decide +kernel
theorem dM_stale_0 : decode prog_14_method_16_code 0 = .ok (.iload_n 1, 1) := by decide +kernel
theorem dM_stale_1 : decode prog_14_method_16_code 1 = .ok (.i2l, 1) := by decide +kernel
theorem dM_stale_2 : decode prog_14_method_16_code 2 = .ok (.lconst 0, 1) := by decide +kernel
theorem dM_stale_3 : decode prog_14_method_16_code 3 = .ok (.lconst 1, 1) := by decide +kernel
theorem dM_stale_4 : decode prog_14_method_16_code 4 = .ok (.invokestatic 222, 3) := by decide +kernel
theorem dM_stale_7 : decode prog_14_method_16_code 7 = .ok (.ifCond .eq 36, 3) := by decide +kernel
theorem dM_stale_10 : decode prog_14_method_16_code 10 = .ok (.iload_n 1, 1) := by decide +kernel
theorem dM_stale_11 : decode prog_14_method_16_code 11 = .ok (.iload_n 2, 1) := by decide +kernel
theorem dM_stale_12 : decode prog_14_method_16_code 12 = .ok (.invokestatic 239, 3) := by decide +kernel
theorem dM_stale_15 : decode prog_14_method_16_code 15 = .ok (.ifCond .eq 28, 3) := by decide +kernel
theorem dM_stale_18 : decode prog_14_method_16_code 18 = .ok (.iload_n 3, 1) := by decide +kernel
theorem dM_stale_19 : decode prog_14_method_16_code 19 = .ok (.i2l, 1) := by decide +kernel
theorem dM_stale_20 : decode prog_14_method_16_code 20 = .ok (.lconst 0, 1) := by decide +kernel
theorem dM_stale_21 : decode prog_14_method_16_code 21 = .ok (.ldc2_w 220, 3) := by decide +kernel
theorem dM_stale_24 : decode prog_14_method_16_code 24 = .ok (.invokestatic 222, 3) := by decide +kernel
theorem dM_stale_27 : decode prog_14_method_16_code 27 = .ok (.ifCond .eq 16, 3) := by decide +kernel
theorem dM_stale_30 : decode prog_14_method_16_code 30 = .ok (.iload 4, 2) := by decide +kernel
theorem dM_stale_32 : decode prog_14_method_16_code 32 = .ok (.i2l, 1) := by decide +kernel
theorem dM_stale_33 : decode prog_14_method_16_code 33 = .ok (.lconst 0, 1) := by decide +kernel
theorem dM_stale_34 : decode prog_14_method_16_code 34 = .ok (.ldc2_w 220, 3) := by decide +kernel
theorem dM_stale_37 : decode prog_14_method_16_code 37 = .ok (.invokestatic 222, 3) := by decide +kernel
theorem dM_stale_40 : decode prog_14_method_16_code 40 = .ok (.ifCond .ne 5, 3) := by decide +kernel
theorem dM_stale_43 : decode prog_14_method_16_code 43 = .ok (.iconst 0, 1) := by decide +kernel
theorem dM_stale_44 : decode prog_14_method_16_code 44 = .ok (.ireturn, 1) := by decide +kernel
theorem dM_stale_45 : decode prog_14_method_16_code 45 = .ok (.aload_n 0, 1) := by decide +kernel
theorem dM_stale_46 : decode prog_14_method_16_code 46 = .ok (.iload_n 1, 1) := by decide +kernel
theorem dM_stale_47 : decode prog_14_method_16_code 47 = .ok (.iload_n 2, 1) := by decide +kernel
theorem dM_stale_48 : decode prog_14_method_16_code 48 = .ok (.iload_n 3, 1) := by decide +kernel
theorem dM_stale_49 : decode prog_14_method_16_code 49 = .ok (.iload 4, 2) := by decide +kernel
theorem dM_stale_51 : decode prog_14_method_16_code 51 = .ok (.invokevirtual 267, 3) := by decide +kernel
theorem dM_stale_54 : decode prog_14_method_16_code 54 = .ok (.istore 5, 2) := by decide +kernel
theorem dM_stale_56 : decode prog_14_method_16_code 56 = .ok (.iload 5, 2) := by decide +kernel
theorem dM_stale_58 : decode prog_14_method_16_code 58 = .ok (.iconst (-1), 1) := by decide +kernel
theorem dM_stale_59 : decode prog_14_method_16_code 59 = .ok (.if_icmp .eq 18, 3) := by decide +kernel
theorem dM_stale_62 : decode prog_14_method_16_code 62 = .ok (.aload_n 0, 1) := by decide +kernel
theorem dM_stale_63 : decode prog_14_method_16_code 63 = .ok (.getfield 20, 3) := by decide +kernel
theorem dM_stale_66 : decode prog_14_method_16_code 66 = .ok (.iload 5, 2) := by decide +kernel
theorem dM_stale_68 : decode prog_14_method_16_code 68 = .ok (.iaload, 1) := by decide +kernel
theorem dM_stale_69 : decode prog_14_method_16_code 69 = .ok (.iload_n 3, 1) := by decide +kernel
theorem dM_stale_70 : decode prog_14_method_16_code 70 = .ok (.if_icmp .eq 7, 3) := by decide +kernel
theorem dM_stale_73 : decode prog_14_method_16_code 73 = .ok (.iconst 1, 1) := by decide +kernel
theorem dM_stale_74 : decode prog_14_method_16_code 74 = .ok (.goto 4, 3) := by decide +kernel
theorem dM_stale_77 : decode prog_14_method_16_code 77 = .ok (.iconst 0, 1) := by decide +kernel
theorem dM_stale_78 : decode prog_14_method_16_code 78 = .ok (.ireturn, 1) := by decide +kernel
theorem dM_sums_0 : decode prog_14_method_71_code 0 = .ok (.iconst 0, 1) := by decide +kernel
theorem dM_sums_1 : decode prog_14_method_71_code 1 = .ok (.istore 4, 2) := by decide +kernel
theorem dM_sums_3 : decode prog_14_method_71_code 3 = .ok (.iload 4, 2) := by decide +kernel
theorem dM_sums_5 : decode prog_14_method_71_code 5 = .ok (.bipush 20, 2) := by decide +kernel
theorem dM_sums_7 : decode prog_14_method_71_code 7 = .ok (.if_icmp .ge 25, 3) := by decide +kernel
theorem dM_sums_10 : decode prog_14_method_71_code 10 = .ok (.aload_n 0, 1) := by decide +kernel
theorem dM_sums_11 : decode prog_14_method_71_code 11 = .ok (.getfield 172, 3) := by decide +kernel
theorem dM_sums_14 : decode prog_14_method_71_code 14 = .ok (.iload 4, 2) := by decide +kernel
theorem dM_sums_16 : decode prog_14_method_71_code 16 = .ok (.lconst 0, 1) := by decide +kernel
theorem dM_sums_17 : decode prog_14_method_71_code 17 = .ok (.lastore, 1) := by decide +kernel
theorem dM_sums_18 : decode prog_14_method_71_code 18 = .ok (.aload_n 0, 1) := by decide +kernel
theorem dM_sums_19 : decode prog_14_method_71_code 19 = .ok (.getfield 175, 3) := by decide +kernel
theorem dM_sums_22 : decode prog_14_method_71_code 22 = .ok (.iload 4, 2) := by decide +kernel
theorem dM_sums_24 : decode prog_14_method_71_code 24 = .ok (.lconst 0, 1) := by decide +kernel
theorem dM_sums_25 : decode prog_14_method_71_code 25 = .ok (.lastore, 1) := by decide +kernel
theorem dM_sums_26 : decode prog_14_method_71_code 26 = .ok (.iinc 4 1, 3) := by decide +kernel
theorem dM_sums_29 : decode prog_14_method_71_code 29 = .ok (.goto (-26), 3) := by decide +kernel
theorem dM_sums_32 : decode prog_14_method_71_code 32 = .ok (.iconst 0, 1) := by decide +kernel
theorem dM_sums_33 : decode prog_14_method_71_code 33 = .ok (.istore 4, 2) := by decide +kernel
theorem dM_sums_35 : decode prog_14_method_71_code 35 = .ok (.iload 4, 2) := by decide +kernel
theorem dM_sums_37 : decode prog_14_method_71_code 37 = .ok (.aload_n 0, 1) := by decide +kernel
theorem dM_sums_38 : decode prog_14_method_71_code 38 = .ok (.getfield 302, 3) := by decide +kernel
theorem dM_sums_41 : decode prog_14_method_71_code 41 = .ok (.if_icmp .ge 140, 3) := by decide +kernel
theorem dM_sums_44 : decode prog_14_method_71_code 44 = .ok (.aload_n 0, 1) := by decide +kernel
theorem dM_sums_45 : decode prog_14_method_71_code 45 = .ok (.getfield 77, 3) := by decide +kernel
theorem dM_sums_48 : decode prog_14_method_71_code 48 = .ok (.iload 4, 2) := by decide +kernel
theorem dM_sums_50 : decode prog_14_method_71_code 50 = .ok (.iaload, 1) := by decide +kernel
theorem dM_sums_51 : decode prog_14_method_71_code 51 = .ok (.iload_n 1, 1) := by decide +kernel
theorem dM_sums_52 : decode prog_14_method_71_code 52 = .ok (.if_icmp .ne 123, 3) := by decide +kernel
theorem dM_sums_55 : decode prog_14_method_71_code 55 = .ok (.aload_n 0, 1) := by decide +kernel
theorem dM_sums_56 : decode prog_14_method_71_code 56 = .ok (.getfield 89, 3) := by decide +kernel
theorem dM_sums_59 : decode prog_14_method_71_code 59 = .ok (.iload 4, 2) := by decide +kernel
theorem dM_sums_61 : decode prog_14_method_71_code 61 = .ok (.baload, 1) := by decide +kernel
theorem dM_sums_62 : decode prog_14_method_71_code 62 = .ok (.ifCond .eq 113, 3) := by decide +kernel
theorem dM_sums_65 : decode prog_14_method_71_code 65 = .ok (.aload_n 0, 1) := by decide +kernel
theorem dM_sums_66 : decode prog_14_method_71_code 66 = .ok (.getfield 83, 3) := by decide +kernel
theorem dM_sums_69 : decode prog_14_method_71_code 69 = .ok (.iload 4, 2) := by decide +kernel
theorem dM_sums_71 : decode prog_14_method_71_code 71 = .ok (.iaload, 1) := by decide +kernel
theorem dM_sums_72 : decode prog_14_method_71_code 72 = .ok (.aload_n 0, 1) := by decide +kernel
theorem dM_sums_73 : decode prog_14_method_71_code 73 = .ok (.iload_n 2, 1) := by decide +kernel
theorem dM_sums_74 : decode prog_14_method_71_code 74 = .ok (.invokevirtual 486, 3) := by decide +kernel
theorem dM_sums_77 : decode prog_14_method_71_code 77 = .ok (.if_icmp .gt 98, 3) := by decide +kernel
theorem dM_sums_80 : decode prog_14_method_71_code 80 = .ok (.aload_n 0, 1) := by decide +kernel
theorem dM_sums_81 : decode prog_14_method_71_code 81 = .ok (.iload_n 1, 1) := by decide +kernel
theorem dM_sums_82 : decode prog_14_method_71_code 82 = .ok (.aload_n 0, 1) := by decide +kernel
theorem dM_sums_83 : decode prog_14_method_71_code 83 = .ok (.getfield 83, 3) := by decide +kernel
theorem dM_sums_86 : decode prog_14_method_71_code 86 = .ok (.iload 4, 2) := by decide +kernel
theorem dM_sums_88 : decode prog_14_method_71_code 88 = .ok (.iaload, 1) := by decide +kernel
theorem dM_sums_89 : decode prog_14_method_71_code 89 = .ok (.iload_n 3, 1) := by decide +kernel
theorem dM_sums_90 : decode prog_14_method_71_code 90 = .ok (.invokevirtual 489, 3) := by decide +kernel
theorem dM_sums_93 : decode prog_14_method_71_code 93 = .ok (.ifCond .ne 6, 3) := by decide +kernel
theorem dM_sums_96 : decode prog_14_method_71_code 96 = .ok (.goto 79, 3) := by decide +kernel
theorem dM_sums_99 : decode prog_14_method_71_code 99 = .ok (.aload_n 0, 1) := by decide +kernel
theorem dM_sums_100 : decode prog_14_method_71_code 100 = .ok (.getfield 92, 3) := by decide +kernel
theorem dM_sums_103 : decode prog_14_method_71_code 103 = .ok (.iload 4, 2) := by decide +kernel
theorem dM_sums_105 : decode prog_14_method_71_code 105 = .ok (.laload, 1) := by decide +kernel
theorem dM_sums_106 : decode prog_14_method_71_code 106 = .ok (.aload_n 0, 1) := by decide +kernel
theorem dM_sums_107 : decode prog_14_method_71_code 107 = .ok (.getfield 140, 3) := by decide +kernel
theorem dM_sums_110 : decode prog_14_method_71_code 110 = .ok (.iload 4, 2) := by decide +kernel
theorem dM_sums_112 : decode prog_14_method_71_code 112 = .ok (.laload, 1) := by decide +kernel
theorem dM_sums_113 : decode prog_14_method_71_code 113 = .ok (.lsub, 1) := by decide +kernel
theorem dM_sums_114 : decode prog_14_method_71_code 114 = .ok (.lstore 5, 2) := by decide +kernel
theorem dM_sums_116 : decode prog_14_method_71_code 116 = .ok (.aload_n 0, 1) := by decide +kernel
theorem dM_sums_117 : decode prog_14_method_71_code 117 = .ok (.getfield 86, 3) := by decide +kernel
theorem dM_sums_120 : decode prog_14_method_71_code 120 = .ok (.iload 4, 2) := by decide +kernel
theorem dM_sums_122 : decode prog_14_method_71_code 122 = .ok (.iaload, 1) := by decide +kernel
theorem dM_sums_123 : decode prog_14_method_71_code 123 = .ok (.ifCond .ge 8, 3) := by decide +kernel
theorem dM_sums_126 : decode prog_14_method_71_code 126 = .ok (.lload 5, 2) := by decide +kernel
theorem dM_sums_128 : decode prog_14_method_71_code 128 = .ok (.lneg, 1) := by decide +kernel
theorem dM_sums_129 : decode prog_14_method_71_code 129 = .ok (.lstore 5, 2) := by decide +kernel
theorem dM_sums_131 : decode prog_14_method_71_code 131 = .ok (.lload 5, 2) := by decide +kernel
theorem dM_sums_133 : decode prog_14_method_71_code 133 = .ok (.lconst 0, 1) := by decide +kernel
theorem dM_sums_134 : decode prog_14_method_71_code 134 = .ok (.lcmp, 1) := by decide +kernel
theorem dM_sums_135 : decode prog_14_method_71_code 135 = .ok (.ifCond .le 23, 3) := by decide +kernel
theorem dM_sums_138 : decode prog_14_method_71_code 138 = .ok (.aload_n 0, 1) := by decide +kernel
theorem dM_sums_139 : decode prog_14_method_71_code 139 = .ok (.getfield 172, 3) := by decide +kernel
theorem dM_sums_142 : decode prog_14_method_71_code 142 = .ok (.aload_n 0, 1) := by decide +kernel
theorem dM_sums_143 : decode prog_14_method_71_code 143 = .ok (.getfield 74, 3) := by decide +kernel
theorem dM_sums_146 : decode prog_14_method_71_code 146 = .ok (.iload 4, 2) := by decide +kernel
theorem dM_sums_148 : decode prog_14_method_71_code 148 = .ok (.iaload, 1) := by decide +kernel
theorem dM_sums_149 : decode prog_14_method_71_code 149 = .ok (.dup2, 1) := by decide +kernel
theorem dM_sums_150 : decode prog_14_method_71_code 150 = .ok (.laload, 1) := by decide +kernel
theorem dM_sums_151 : decode prog_14_method_71_code 151 = .ok (.lload 5, 2) := by decide +kernel
theorem dM_sums_153 : decode prog_14_method_71_code 153 = .ok (.ladd, 1) := by decide +kernel
theorem dM_sums_154 : decode prog_14_method_71_code 154 = .ok (.lastore, 1) := by decide +kernel
theorem dM_sums_155 : decode prog_14_method_71_code 155 = .ok (.goto 20, 3) := by decide +kernel
theorem dM_sums_158 : decode prog_14_method_71_code 158 = .ok (.aload_n 0, 1) := by decide +kernel
theorem dM_sums_159 : decode prog_14_method_71_code 159 = .ok (.getfield 175, 3) := by decide +kernel
theorem dM_sums_162 : decode prog_14_method_71_code 162 = .ok (.aload_n 0, 1) := by decide +kernel
theorem dM_sums_163 : decode prog_14_method_71_code 163 = .ok (.getfield 74, 3) := by decide +kernel
theorem dM_sums_166 : decode prog_14_method_71_code 166 = .ok (.iload 4, 2) := by decide +kernel
theorem dM_sums_168 : decode prog_14_method_71_code 168 = .ok (.iaload, 1) := by decide +kernel
theorem dM_sums_169 : decode prog_14_method_71_code 169 = .ok (.dup2, 1) := by decide +kernel
theorem dM_sums_170 : decode prog_14_method_71_code 170 = .ok (.laload, 1) := by decide +kernel
theorem dM_sums_171 : decode prog_14_method_71_code 171 = .ok (.lload 5, 2) := by decide +kernel
theorem dM_sums_173 : decode prog_14_method_71_code 173 = .ok (.lsub, 1) := by decide +kernel
theorem dM_sums_174 : decode prog_14_method_71_code 174 = .ok (.lastore, 1) := by decide +kernel
theorem dM_sums_175 : decode prog_14_method_71_code 175 = .ok (.iinc 4 1, 3) := by decide +kernel
theorem dM_sums_178 : decode prog_14_method_71_code 178 = .ok (.goto (-143), 3) := by decide +kernel
theorem dM_sums_181 : decode prog_14_method_71_code 181 = .ok (.return_, 1) := by decide +kernel
theorem dM_suspect_0 : decode prog_14_method_88_code 0 = .ok (.iload_n 1, 1) := by decide +kernel
theorem dM_suspect_1 : decode prog_14_method_88_code 1 = .ok (.iload_n 2, 1) := by decide +kernel
theorem dM_suspect_2 : decode prog_14_method_88_code 2 = .ok (.iload_n 3, 1) := by decide +kernel
theorem dM_suspect_3 : decode prog_14_method_88_code 3 = .ok (.iload 4, 2) := by decide +kernel
theorem dM_suspect_5 : decode prog_14_method_88_code 5 = .ok (.invokestatic 258, 3) := by decide +kernel
theorem dM_suspect_8 : decode prog_14_method_88_code 8 = .ok (.ifCond .eq 12, 3) := by decide +kernel
theorem dM_suspect_11 : decode prog_14_method_88_code 11 = .ok (.aload_n 0, 1) := by decide +kernel
theorem dM_suspect_12 : decode prog_14_method_88_code 12 = .ok (.getfield 526, 3) := by decide +kernel
theorem dM_suspect_15 : decode prog_14_method_88_code 15 = .ok (.bipush 7, 2) := by decide +kernel
theorem dM_suspect_17 : decode prog_14_method_88_code 17 = .ok (.if_icmp .ne 5, 3) := by decide +kernel
theorem dM_suspect_20 : decode prog_14_method_88_code 20 = .ok (.iconst (-1), 1) := by decide +kernel
theorem dM_suspect_21 : decode prog_14_method_88_code 21 = .ok (.ireturn, 1) := by decide +kernel
theorem dM_suspect_22 : decode prog_14_method_88_code 22 = .ok (.aload_n 0, 1) := by decide +kernel
theorem dM_suspect_23 : decode prog_14_method_88_code 23 = .ok (.getfield 29, 3) := by decide +kernel
theorem dM_suspect_26 : decode prog_14_method_88_code 26 = .ok (.aload_n 0, 1) := by decide +kernel
theorem dM_suspect_27 : decode prog_14_method_88_code 27 = .ok (.getfield 526, 3) := by decide +kernel
theorem dM_suspect_30 : decode prog_14_method_88_code 30 = .ok (.iload_n 1, 1) := by decide +kernel
theorem dM_suspect_31 : decode prog_14_method_88_code 31 = .ok (.iastore, 1) := by decide +kernel
theorem dM_suspect_32 : decode prog_14_method_88_code 32 = .ok (.aload_n 0, 1) := by decide +kernel
theorem dM_suspect_33 : decode prog_14_method_88_code 33 = .ok (.getfield 32, 3) := by decide +kernel
theorem dM_suspect_36 : decode prog_14_method_88_code 36 = .ok (.aload_n 0, 1) := by decide +kernel
theorem dM_suspect_37 : decode prog_14_method_88_code 37 = .ok (.getfield 526, 3) := by decide +kernel
theorem dM_suspect_40 : decode prog_14_method_88_code 40 = .ok (.iload_n 2, 1) := by decide +kernel
theorem dM_suspect_41 : decode prog_14_method_88_code 41 = .ok (.iastore, 1) := by decide +kernel
theorem dM_suspect_42 : decode prog_14_method_88_code 42 = .ok (.aload_n 0, 1) := by decide +kernel
theorem dM_suspect_43 : decode prog_14_method_88_code 43 = .ok (.getfield 35, 3) := by decide +kernel
theorem dM_suspect_46 : decode prog_14_method_88_code 46 = .ok (.aload_n 0, 1) := by decide +kernel
theorem dM_suspect_47 : decode prog_14_method_88_code 47 = .ok (.getfield 526, 3) := by decide +kernel
theorem dM_suspect_50 : decode prog_14_method_88_code 50 = .ok (.iload_n 3, 1) := by decide +kernel
theorem dM_suspect_51 : decode prog_14_method_88_code 51 = .ok (.iastore, 1) := by decide +kernel
theorem dM_suspect_52 : decode prog_14_method_88_code 52 = .ok (.aload_n 0, 1) := by decide +kernel
theorem dM_suspect_53 : decode prog_14_method_88_code 53 = .ok (.getfield 38, 3) := by decide +kernel
theorem dM_suspect_56 : decode prog_14_method_88_code 56 = .ok (.aload_n 0, 1) := by decide +kernel
theorem dM_suspect_57 : decode prog_14_method_88_code 57 = .ok (.getfield 526, 3) := by decide +kernel
theorem dM_suspect_60 : decode prog_14_method_88_code 60 = .ok (.iload 4, 2) := by decide +kernel
theorem dM_suspect_62 : decode prog_14_method_88_code 62 = .ok (.iastore, 1) := by decide +kernel
theorem dM_suspect_63 : decode prog_14_method_88_code 63 = .ok (.aload_n 0, 1) := by decide +kernel
theorem dM_suspect_64 : decode prog_14_method_88_code 64 = .ok (.dup, 1) := by decide +kernel
theorem dM_suspect_65 : decode prog_14_method_88_code 65 = .ok (.getfield 526, 3) := by decide +kernel
theorem dM_suspect_68 : decode prog_14_method_88_code 68 = .ok (.iconst 1, 1) := by decide +kernel
theorem dM_suspect_69 : decode prog_14_method_88_code 69 = .ok (.iadd, 1) := by decide +kernel
theorem dM_suspect_70 : decode prog_14_method_88_code 70 = .ok (.putfield 526, 3) := by decide +kernel
theorem dM_suspect_73 : decode prog_14_method_88_code 73 = .ok (.aload_n 0, 1) := by decide +kernel
theorem dM_suspect_74 : decode prog_14_method_88_code 74 = .ok (.getfield 526, 3) := by decide +kernel
theorem dM_suspect_77 : decode prog_14_method_88_code 77 = .ok (.iconst 1, 1) := by decide +kernel
theorem dM_suspect_78 : decode prog_14_method_88_code 78 = .ok (.isub, 1) := by decide +kernel
theorem dM_suspect_79 : decode prog_14_method_88_code 79 = .ok (.ireturn, 1) := by decide +kernel
theorem dM_swung_0 : decode prog_14_method_54_code 0 = .ok (.lload 5, 2) := by decide +kernel
theorem dM_swung_2 : decode prog_14_method_54_code 2 = .ok (.lconst 0, 1) := by decide +kernel
theorem dM_swung_3 : decode prog_14_method_54_code 3 = .ok (.lcmp, 1) := by decide +kernel
theorem dM_swung_4 : decode prog_14_method_54_code 4 = .ok (.ifCond .ge 9, 3) := by decide +kernel
theorem dM_swung_7 : decode prog_14_method_54_code 7 = .ok (.lload 5, 2) := by decide +kernel
theorem dM_swung_9 : decode prog_14_method_54_code 9 = .ok (.lneg, 1) := by decide +kernel
theorem dM_swung_10 : decode prog_14_method_54_code 10 = .ok (.goto 5, 3) := by decide +kernel
theorem dM_swung_13 : decode prog_14_method_54_code 13 = .ok (.lload 5, 2) := by decide +kernel
theorem dM_swung_15 : decode prog_14_method_54_code 15 = .ok (.lstore 7, 2) := by decide +kernel
theorem dM_swung_17 : decode prog_14_method_54_code 17 = .ok (.ldc2_w 243, 3) := by decide +kernel
theorem dM_swung_20 : decode prog_14_method_54_code 20 = .ok (.lload 7, 2) := by decide +kernel
theorem dM_swung_22 : decode prog_14_method_54_code 22 = .ok (.lmul, 1) := by decide +kernel
theorem dM_swung_23 : decode prog_14_method_54_code 23 = .ok (.aload_n 0, 1) := by decide +kernel
theorem dM_swung_24 : decode prog_14_method_54_code 24 = .ok (.iload_n 1, 1) := by decide +kernel
theorem dM_swung_25 : decode prog_14_method_54_code 25 = .ok (.iload_n 2, 1) := by decide +kernel
theorem dM_swung_26 : decode prog_14_method_54_code 26 = .ok (.iconst 2, 1) := by decide +kernel
theorem dM_swung_27 : decode prog_14_method_54_code 27 = .ok (.invokevirtual 305, 3) := by decide +kernel
theorem dM_swung_30 : decode prog_14_method_54_code 30 = .ok (.i2l, 1) := by decide +kernel
theorem dM_swung_31 : decode prog_14_method_54_code 31 = .ok (.aload_n 0, 1) := by decide +kernel
theorem dM_swung_32 : decode prog_14_method_54_code 32 = .ok (.getfield 157, 3) := by decide +kernel
theorem dM_swung_35 : decode prog_14_method_54_code 35 = .ok (.iload_n 1, 1) := by decide +kernel
theorem dM_swung_36 : decode prog_14_method_54_code 36 = .ok (.laload, 1) := by decide +kernel
theorem dM_swung_37 : decode prog_14_method_54_code 37 = .ok (.lmul, 1) := by decide +kernel
theorem dM_swung_38 : decode prog_14_method_54_code 38 = .ok (.lcmp, 1) := by decide +kernel
theorem dM_swung_39 : decode prog_14_method_54_code 39 = .ok (.ifCond .gt 5, 3) := by decide +kernel
theorem dM_swung_42 : decode prog_14_method_54_code 42 = .ok (.lload_n 3, 1) := by decide +kernel
theorem dM_swung_43 : decode prog_14_method_54_code 43 = .ok (.lreturn, 1) := by decide +kernel
theorem dM_swung_44 : decode prog_14_method_54_code 44 = .ok (.lload 5, 2) := by decide +kernel
theorem dM_swung_46 : decode prog_14_method_54_code 46 = .ok (.lconst 0, 1) := by decide +kernel
theorem dM_swung_47 : decode prog_14_method_54_code 47 = .ok (.lcmp, 1) := by decide +kernel
theorem dM_swung_48 : decode prog_14_method_54_code 48 = .ok (.ifCond .ge 18, 3) := by decide +kernel
theorem dM_swung_51 : decode prog_14_method_54_code 51 = .ok (.ldc2_w 243, 3) := by decide +kernel
theorem dM_swung_54 : decode prog_14_method_54_code 54 = .ok (.aload_n 0, 1) := by decide +kernel
theorem dM_swung_55 : decode prog_14_method_54_code 55 = .ok (.iload_n 1, 1) := by decide +kernel
theorem dM_swung_56 : decode prog_14_method_54_code 56 = .ok (.iload_n 2, 1) := by decide +kernel
theorem dM_swung_57 : decode prog_14_method_54_code 57 = .ok (.iconst 1, 1) := by decide +kernel
theorem dM_swung_58 : decode prog_14_method_54_code 58 = .ok (.invokevirtual 305, 3) := by decide +kernel
theorem dM_swung_61 : decode prog_14_method_54_code 61 = .ok (.i2l, 1) := by decide +kernel
theorem dM_swung_62 : decode prog_14_method_54_code 62 = .ok (.lsub, 1) := by decide +kernel
theorem dM_swung_63 : decode prog_14_method_54_code 63 = .ok (.goto 15, 3) := by decide +kernel
theorem dM_swung_66 : decode prog_14_method_54_code 66 = .ok (.ldc2_w 243, 3) := by decide +kernel
theorem dM_swung_69 : decode prog_14_method_54_code 69 = .ok (.aload_n 0, 1) := by decide +kernel
theorem dM_swung_70 : decode prog_14_method_54_code 70 = .ok (.iload_n 1, 1) := by decide +kernel
theorem dM_swung_71 : decode prog_14_method_54_code 71 = .ok (.iload_n 2, 1) := by decide +kernel
theorem dM_swung_72 : decode prog_14_method_54_code 72 = .ok (.iconst 1, 1) := by decide +kernel
theorem dM_swung_73 : decode prog_14_method_54_code 73 = .ok (.invokevirtual 305, 3) := by decide +kernel
theorem dM_swung_76 : decode prog_14_method_54_code 76 = .ok (.i2l, 1) := by decide +kernel
theorem dM_swung_77 : decode prog_14_method_54_code 77 = .ok (.ladd, 1) := by decide +kernel
theorem dM_swung_78 : decode prog_14_method_54_code 78 = .ok (.lstore 9, 2) := by decide +kernel
theorem dM_swung_80 : decode prog_14_method_54_code 80 = .ok (.lload_n 3, 1) := by decide +kernel
theorem dM_swung_81 : decode prog_14_method_54_code 81 = .ok (.lload 9, 2) := by decide +kernel
theorem dM_swung_83 : decode prog_14_method_54_code 83 = .ok (.lmul, 1) := by decide +kernel
theorem dM_swung_84 : decode prog_14_method_54_code 84 = .ok (.ldc2_w 243, 3) := by decide +kernel
theorem dM_swung_87 : decode prog_14_method_54_code 87 = .ok (.ldiv, 1) := by decide +kernel
theorem dM_swung_88 : decode prog_14_method_54_code 88 = .ok (.lconst 0, 1) := by decide +kernel
theorem dM_swung_89 : decode prog_14_method_54_code 89 = .ok (.ldc2_w 433, 3) := by decide +kernel
theorem dM_swung_92 : decode prog_14_method_54_code 92 = .ok (.invokestatic 212, 3) := by decide +kernel
theorem dM_swung_95 : decode prog_14_method_54_code 95 = .ok (.lreturn, 1) := by decide +kernel
theorem dM_take_0 : decode prog_14_method_43_code 0 = .ok (.aload_n 0, 1) := by decide +kernel
theorem dM_take_1 : decode prog_14_method_43_code 1 = .ok (.getfield 413, 3) := by decide +kernel
theorem dM_take_4 : decode prog_14_method_43_code 4 = .ok (.bipush 6, 2) := by decide +kernel
theorem dM_take_6 : decode prog_14_method_43_code 6 = .ok (.if_icmp .eq 13, 3) := by decide +kernel
theorem dM_take_9 : decode prog_14_method_43_code 9 = .ok (.aload_n 0, 1) := by decide +kernel
theorem dM_take_10 : decode prog_14_method_43_code 10 = .ok (.getfield 216, 3) := by decide +kernel
theorem dM_take_13 : decode prog_14_method_43_code 13 = .ok (.sipush 260, 3) := by decide +kernel
theorem dM_take_16 : decode prog_14_method_43_code 16 = .ok (.if_icmp .ne 5, 3) := by decide +kernel
theorem dM_take_19 : decode prog_14_method_43_code 19 = .ok (.iconst (-1), 1) := by decide +kernel
theorem dM_take_20 : decode prog_14_method_43_code 20 = .ok (.ireturn, 1) := by decide +kernel
theorem dM_take_21 : decode prog_14_method_43_code 21 = .ok (.aload_n 0, 1) := by decide +kernel
theorem dM_take_22 : decode prog_14_method_43_code 22 = .ok (.invokevirtual 410, 3) := by decide +kernel
theorem dM_take_25 : decode prog_14_method_43_code 25 = .ok (.aload_n 0, 1) := by decide +kernel
theorem dM_take_26 : decode prog_14_method_43_code 26 = .ok (.getfield 316, 3) := by decide +kernel
theorem dM_take_29 : decode prog_14_method_43_code 29 = .ok (.iconst (-1), 1) := by decide +kernel
theorem dM_take_30 : decode prog_14_method_43_code 30 = .ok (.if_icmp .eq 5, 3) := by decide +kernel
theorem dM_take_33 : decode prog_14_method_43_code 33 = .ok (.iconst (-1), 1) := by decide +kernel
theorem dM_take_34 : decode prog_14_method_43_code 34 = .ok (.ireturn, 1) := by decide +kernel
theorem dM_take_35 : decode prog_14_method_43_code 35 = .ok (.aload_n 0, 1) := by decide +kernel
theorem dM_take_36 : decode prog_14_method_43_code 36 = .ok (.iconst 0, 1) := by decide +kernel
theorem dM_take_37 : decode prog_14_method_43_code 37 = .ok (.putfield 309, 3) := by decide +kernel
theorem dM_take_40 : decode prog_14_method_43_code 40 = .ok (.iconst 0, 1) := by decide +kernel
theorem dM_take_41 : decode prog_14_method_43_code 41 = .ok (.istore_n 1, 1) := by decide +kernel
theorem dM_take_42 : decode prog_14_method_43_code 42 = .ok (.iload_n 1, 1) := by decide +kernel
theorem dM_take_43 : decode prog_14_method_43_code 43 = .ok (.iconst 4, 1) := by decide +kernel
theorem dM_take_44 : decode prog_14_method_43_code 44 = .ok (.if_icmp .gt 47, 3) := by decide +kernel
theorem dM_take_47 : decode prog_14_method_43_code 47 = .ok (.iconst 0, 1) := by decide +kernel
theorem dM_take_48 : decode prog_14_method_43_code 48 = .ok (.istore_n 2, 1) := by decide +kernel
theorem dM_take_49 : decode prog_14_method_43_code 49 = .ok (.iload_n 2, 1) := by decide +kernel
theorem dM_take_50 : decode prog_14_method_43_code 50 = .ok (.bipush 12, 2) := by decide +kernel
theorem dM_take_52 : decode prog_14_method_43_code 52 = .ok (.if_icmp .ge 33, 3) := by decide +kernel
theorem dM_take_55 : decode prog_14_method_43_code 55 = .ok (.aload_n 0, 1) := by decide +kernel
theorem dM_take_56 : decode prog_14_method_43_code 56 = .ok (.getfield 102, 3) := by decide +kernel
theorem dM_take_59 : decode prog_14_method_43_code 59 = .ok (.aload_n 0, 1) := by decide +kernel
theorem dM_take_60 : decode prog_14_method_43_code 60 = .ok (.getfield 413, 3) := by decide +kernel
theorem dM_take_63 : decode prog_14_method_43_code 63 = .ok (.aaload, 1) := by decide +kernel
theorem dM_take_64 : decode prog_14_method_43_code 64 = .ok (.iload_n 1, 1) := by decide +kernel
theorem dM_take_65 : decode prog_14_method_43_code 65 = .ok (.aaload, 1) := by decide +kernel
theorem dM_take_66 : decode prog_14_method_43_code 66 = .ok (.iload_n 2, 1) := by decide +kernel
theorem dM_take_67 : decode prog_14_method_43_code 67 = .ok (.aload_n 0, 1) := by decide +kernel
theorem dM_take_68 : decode prog_14_method_43_code 68 = .ok (.getfield 102, 3) := by decide +kernel
theorem dM_take_71 : decode prog_14_method_43_code 71 = .ok (.bipush 6, 2) := by decide +kernel
theorem dM_take_73 : decode prog_14_method_43_code 73 = .ok (.aaload, 1) := by decide +kernel
theorem dM_take_74 : decode prog_14_method_43_code 74 = .ok (.iload_n 1, 1) := by decide +kernel
theorem dM_take_75 : decode prog_14_method_43_code 75 = .ok (.aaload, 1) := by decide +kernel
theorem dM_take_76 : decode prog_14_method_43_code 76 = .ok (.iload_n 2, 1) := by decide +kernel
theorem dM_take_77 : decode prog_14_method_43_code 77 = .ok (.iaload, 1) := by decide +kernel
theorem dM_take_78 : decode prog_14_method_43_code 78 = .ok (.iastore, 1) := by decide +kernel
theorem dM_take_79 : decode prog_14_method_43_code 79 = .ok (.iinc 2 1, 3) := by decide +kernel
theorem dM_take_82 : decode prog_14_method_43_code 82 = .ok (.goto (-33), 3) := by decide +kernel
theorem dM_take_85 : decode prog_14_method_43_code 85 = .ok (.iinc 1 1, 3) := by decide +kernel
theorem dM_take_88 : decode prog_14_method_43_code 88 = .ok (.goto (-46), 3) := by decide +kernel
theorem dM_take_91 : decode prog_14_method_43_code 91 = .ok (.aload_n 0, 1) := by decide +kernel
theorem dM_take_92 : decode prog_14_method_43_code 92 = .ok (.getfield 105, 3) := by decide +kernel
theorem dM_take_95 : decode prog_14_method_43_code 95 = .ok (.aload_n 0, 1) := by decide +kernel
theorem dM_take_96 : decode prog_14_method_43_code 96 = .ok (.getfield 413, 3) := by decide +kernel
theorem dM_take_99 : decode prog_14_method_43_code 99 = .ok (.aload_n 0, 1) := by decide +kernel
theorem dM_take_100 : decode prog_14_method_43_code 100 = .ok (.getfield 216, 3) := by decide +kernel
theorem dM_take_103 : decode prog_14_method_43_code 103 = .ok (.iastore, 1) := by decide +kernel
theorem dM_take_104 : decode prog_14_method_43_code 104 = .ok (.aload_n 0, 1) := by decide +kernel
theorem dM_take_105 : decode prog_14_method_43_code 105 = .ok (.dup, 1) := by decide +kernel
theorem dM_take_106 : decode prog_14_method_43_code 106 = .ok (.getfield 413, 3) := by decide +kernel
theorem dM_take_109 : decode prog_14_method_43_code 109 = .ok (.iconst 1, 1) := by decide +kernel
theorem dM_take_110 : decode prog_14_method_43_code 110 = .ok (.iadd, 1) := by decide +kernel
theorem dM_take_111 : decode prog_14_method_43_code 111 = .ok (.putfield 413, 3) := by decide +kernel
theorem dM_take_114 : decode prog_14_method_43_code 114 = .ok (.aload_n 0, 1) := by decide +kernel
theorem dM_take_115 : decode prog_14_method_43_code 115 = .ok (.getfield 413, 3) := by decide +kernel
theorem dM_take_118 : decode prog_14_method_43_code 118 = .ok (.iconst 1, 1) := by decide +kernel
theorem dM_take_119 : decode prog_14_method_43_code 119 = .ok (.isub, 1) := by decide +kernel
theorem dM_take_120 : decode prog_14_method_43_code 120 = .ok (.ireturn, 1) := by decide +kernel
theorem dM_takes_0 : decode prog_14_method_37_code 0 = .ok (.aload_n 0, 1) := by decide +kernel
theorem dM_takes_1 : decode prog_14_method_37_code 1 = .ok (.aload_n 1, 1) := by decide +kernel
theorem dM_takes_2 : decode prog_14_method_37_code 2 = .ok (.invokevirtual 341, 3) := by decide +kernel
theorem dM_takes_5 : decode prog_14_method_37_code 5 = .ok (.ifCond .ne 5, 3) := by decide +kernel
theorem dM_takes_8 : decode prog_14_method_37_code 8 = .ok (.iconst 0, 1) := by decide +kernel
theorem dM_takes_9 : decode prog_14_method_37_code 9 = .ok (.ireturn, 1) := by decide +kernel
theorem dM_takes_10 : decode prog_14_method_37_code 10 = .ok (.aload_n 0, 1) := by decide +kernel
theorem dM_takes_11 : decode prog_14_method_37_code 11 = .ok (.aload_n 0, 1) := by decide +kernel
theorem dM_takes_12 : decode prog_14_method_37_code 12 = .ok (.invokevirtual 328, 3) := by decide +kernel
theorem dM_takes_15 : decode prog_14_method_37_code 15 = .ok (.putfield 319, 3) := by decide +kernel
theorem dM_takes_18 : decode prog_14_method_37_code 18 = .ok (.iconst 1, 1) := by decide +kernel
theorem dM_takes_19 : decode prog_14_method_37_code 19 = .ok (.ireturn, 1) := by decide +kernel
theorem dM_taxOf_0 : decode prog_14_method_82_code 0 = .ok (.lconst 0, 1) := by decide +kernel
theorem dM_taxOf_1 : decode prog_14_method_82_code 1 = .ok (.lstore_n 3, 1) := by decide +kernel
theorem dM_taxOf_2 : decode prog_14_method_82_code 2 = .ok (.lconst 0, 1) := by decide +kernel
theorem dM_taxOf_3 : decode prog_14_method_82_code 3 = .ok (.lstore 5, 2) := by decide +kernel
theorem dM_taxOf_5 : decode prog_14_method_82_code 5 = .ok (.iconst 0, 1) := by decide +kernel
theorem dM_taxOf_6 : decode prog_14_method_82_code 6 = .ok (.istore 7, 2) := by decide +kernel
theorem dM_taxOf_8 : decode prog_14_method_82_code 8 = .ok (.iload 7, 2) := by decide +kernel
theorem dM_taxOf_10 : decode prog_14_method_82_code 10 = .ok (.aload_n 0, 1) := by decide +kernel
theorem dM_taxOf_11 : decode prog_14_method_82_code 11 = .ok (.getfield 83, 3) := by decide +kernel
theorem dM_taxOf_14 : decode prog_14_method_82_code 14 = .ok (.iload_n 1, 1) := by decide +kernel
theorem dM_taxOf_15 : decode prog_14_method_82_code 15 = .ok (.iaload, 1) := by decide +kernel
theorem dM_taxOf_16 : decode prog_14_method_82_code 16 = .ok (.if_icmp .gt 198, 3) := by decide +kernel
theorem dM_taxOf_19 : decode prog_14_method_82_code 19 = .ok (.iconst 0, 1) := by decide +kernel
theorem dM_taxOf_20 : decode prog_14_method_82_code 20 = .ok (.istore 8, 2) := by decide +kernel
theorem dM_taxOf_22 : decode prog_14_method_82_code 22 = .ok (.iload 8, 2) := by decide +kernel
theorem dM_taxOf_24 : decode prog_14_method_82_code 24 = .ok (.aload_n 0, 1) := by decide +kernel
theorem dM_taxOf_25 : decode prog_14_method_82_code 25 = .ok (.getfield 302, 3) := by decide +kernel
theorem dM_taxOf_28 : decode prog_14_method_82_code 28 = .ok (.if_icmp .ge 180, 3) := by decide +kernel
theorem dM_taxOf_31 : decode prog_14_method_82_code 31 = .ok (.aload_n 0, 1) := by decide +kernel
theorem dM_taxOf_32 : decode prog_14_method_82_code 32 = .ok (.getfield 74, 3) := by decide +kernel
theorem dM_taxOf_35 : decode prog_14_method_82_code 35 = .ok (.iload 8, 2) := by decide +kernel
theorem dM_taxOf_37 : decode prog_14_method_82_code 37 = .ok (.iaload, 1) := by decide +kernel
theorem dM_taxOf_38 : decode prog_14_method_82_code 38 = .ok (.aload_n 0, 1) := by decide +kernel
theorem dM_taxOf_39 : decode prog_14_method_82_code 39 = .ok (.getfield 74, 3) := by decide +kernel
theorem dM_taxOf_42 : decode prog_14_method_82_code 42 = .ok (.iload_n 1, 1) := by decide +kernel
theorem dM_taxOf_43 : decode prog_14_method_82_code 43 = .ok (.iaload, 1) := by decide +kernel
theorem dM_taxOf_44 : decode prog_14_method_82_code 44 = .ok (.if_icmp .ne 158, 3) := by decide +kernel
theorem dM_taxOf_47 : decode prog_14_method_82_code 47 = .ok (.aload_n 0, 1) := by decide +kernel
theorem dM_taxOf_48 : decode prog_14_method_82_code 48 = .ok (.getfield 77, 3) := by decide +kernel
theorem dM_taxOf_51 : decode prog_14_method_82_code 51 = .ok (.iload 8, 2) := by decide +kernel
theorem dM_taxOf_53 : decode prog_14_method_82_code 53 = .ok (.iaload, 1) := by decide +kernel
theorem dM_taxOf_54 : decode prog_14_method_82_code 54 = .ok (.aload_n 0, 1) := by decide +kernel
theorem dM_taxOf_55 : decode prog_14_method_82_code 55 = .ok (.getfield 77, 3) := by decide +kernel
theorem dM_taxOf_58 : decode prog_14_method_82_code 58 = .ok (.iload_n 1, 1) := by decide +kernel
theorem dM_taxOf_59 : decode prog_14_method_82_code 59 = .ok (.iaload, 1) := by decide +kernel
theorem dM_taxOf_60 : decode prog_14_method_82_code 60 = .ok (.if_icmp .ne 142, 3) := by decide +kernel
theorem dM_taxOf_63 : decode prog_14_method_82_code 63 = .ok (.aload_n 0, 1) := by decide +kernel
theorem dM_taxOf_64 : decode prog_14_method_82_code 64 = .ok (.getfield 89, 3) := by decide +kernel
theorem dM_taxOf_67 : decode prog_14_method_82_code 67 = .ok (.iload 8, 2) := by decide +kernel
theorem dM_taxOf_69 : decode prog_14_method_82_code 69 = .ok (.baload, 1) := by decide +kernel
theorem dM_taxOf_70 : decode prog_14_method_82_code 70 = .ok (.ifCond .eq 132, 3) := by decide +kernel
theorem dM_taxOf_73 : decode prog_14_method_82_code 73 = .ok (.aload_n 0, 1) := by decide +kernel
theorem dM_taxOf_74 : decode prog_14_method_82_code 74 = .ok (.getfield 83, 3) := by decide +kernel
theorem dM_taxOf_77 : decode prog_14_method_82_code 77 = .ok (.iload 8, 2) := by decide +kernel
theorem dM_taxOf_79 : decode prog_14_method_82_code 79 = .ok (.iaload, 1) := by decide +kernel
theorem dM_taxOf_80 : decode prog_14_method_82_code 80 = .ok (.iload 7, 2) := by decide +kernel
theorem dM_taxOf_82 : decode prog_14_method_82_code 82 = .ok (.if_icmp .eq 6, 3) := by decide +kernel
theorem dM_taxOf_85 : decode prog_14_method_82_code 85 = .ok (.goto 117, 3) := by decide +kernel
theorem dM_taxOf_88 : decode prog_14_method_82_code 88 = .ok (.aload_n 0, 1) := by decide +kernel
theorem dM_taxOf_89 : decode prog_14_method_82_code 89 = .ok (.getfield 86, 3) := by decide +kernel
theorem dM_taxOf_92 : decode prog_14_method_82_code 92 = .ok (.iload 8, 2) := by decide +kernel
theorem dM_taxOf_94 : decode prog_14_method_82_code 94 = .ok (.iaload, 1) := by decide +kernel
theorem dM_taxOf_95 : decode prog_14_method_82_code 95 = .ok (.i2l, 1) := by decide +kernel
theorem dM_taxOf_96 : decode prog_14_method_82_code 96 = .ok (.lstore 9, 2) := by decide +kernel
theorem dM_taxOf_98 : decode prog_14_method_82_code 98 = .ok (.lload 9, 2) := by decide +kernel
theorem dM_taxOf_100 : decode prog_14_method_82_code 100 = .ok (.lconst 0, 1) := by decide +kernel
theorem dM_taxOf_101 : decode prog_14_method_82_code 101 = .ok (.lcmp, 1) := by decide +kernel
theorem dM_taxOf_102 : decode prog_14_method_82_code 102 = .ok (.ifCond .ge 14, 3) := by decide +kernel
theorem dM_taxOf_105 : decode prog_14_method_82_code 105 = .ok (.lload_n 3, 1) := by decide +kernel
theorem dM_taxOf_106 : decode prog_14_method_82_code 106 = .ok (.lload 9, 2) := by decide +kernel
theorem dM_taxOf_108 : decode prog_14_method_82_code 108 = .ok (.lneg, 1) := by decide +kernel
theorem dM_taxOf_109 : decode prog_14_method_82_code 109 = .ok (.lmul, 1) := by decide +kernel
theorem dM_taxOf_110 : decode prog_14_method_82_code 110 = .ok (.lload 5, 2) := by decide +kernel
theorem dM_taxOf_112 : decode prog_14_method_82_code 112 = .ok (.ldiv, 1) := by decide +kernel
theorem dM_taxOf_113 : decode prog_14_method_82_code 113 = .ok (.goto 4, 3) := by decide +kernel
theorem dM_taxOf_116 : decode prog_14_method_82_code 116 = .ok (.lconst 0, 1) := by decide +kernel
theorem dM_taxOf_117 : decode prog_14_method_82_code 117 = .ok (.lstore 11, 2) := by decide +kernel
theorem dM_taxOf_119 : decode prog_14_method_82_code 119 = .ok (.iload 8, 2) := by decide +kernel
theorem dM_taxOf_121 : decode prog_14_method_82_code 121 = .ok (.iload_n 1, 1) := by decide +kernel
theorem dM_taxOf_122 : decode prog_14_method_82_code 122 = .ok (.if_icmp .ne 53, 3) := by decide +kernel
theorem dM_taxOf_125 : decode prog_14_method_82_code 125 = .ok (.lload 9, 2) := by decide +kernel
theorem dM_taxOf_127 : decode prog_14_method_82_code 127 = .ok (.lconst 0, 1) := by decide +kernel
theorem dM_taxOf_128 : decode prog_14_method_82_code 128 = .ok (.lcmp, 1) := by decide +kernel
theorem dM_taxOf_129 : decode prog_14_method_82_code 129 = .ok (.ifCond .ge 13, 3) := by decide +kernel
theorem dM_taxOf_132 : decode prog_14_method_82_code 132 = .ok (.aload_n 2, 1) := by decide +kernel
theorem dM_taxOf_133 : decode prog_14_method_82_code 133 = .ok (.iload 8, 2) := by decide +kernel
theorem dM_taxOf_135 : decode prog_14_method_82_code 135 = .ok (.laload, 1) := by decide +kernel
theorem dM_taxOf_136 : decode prog_14_method_82_code 136 = .ok (.lload 11, 2) := by decide +kernel
theorem dM_taxOf_138 : decode prog_14_method_82_code 138 = .ok (.lcmp, 1) := by decide +kernel
theorem dM_taxOf_139 : decode prog_14_method_82_code 139 = .ok (.ifCond .gt 7, 3) := by decide +kernel
theorem dM_taxOf_142 : decode prog_14_method_82_code 142 = .ok (.lconst 0, 1) := by decide +kernel
theorem dM_taxOf_143 : decode prog_14_method_82_code 143 = .ok (.goto 31, 3) := by decide +kernel
theorem dM_taxOf_146 : decode prog_14_method_82_code 146 = .ok (.aload_n 2, 1) := by decide +kernel
theorem dM_taxOf_147 : decode prog_14_method_82_code 147 = .ok (.iload 8, 2) := by decide +kernel
theorem dM_taxOf_149 : decode prog_14_method_82_code 149 = .ok (.laload, 1) := by decide +kernel
theorem dM_taxOf_150 : decode prog_14_method_82_code 150 = .ok (.lload 11, 2) := by decide +kernel
theorem dM_taxOf_152 : decode prog_14_method_82_code 152 = .ok (.lsub, 1) := by decide +kernel
theorem dM_taxOf_153 : decode prog_14_method_82_code 153 = .ok (.aload_n 0, 1) := by decide +kernel
theorem dM_taxOf_154 : decode prog_14_method_82_code 154 = .ok (.aload_n 0, 1) := by decide +kernel
theorem dM_taxOf_155 : decode prog_14_method_82_code 155 = .ok (.getfield 77, 3) := by decide +kernel
theorem dM_taxOf_158 : decode prog_14_method_82_code 158 = .ok (.iload 8, 2) := by decide +kernel
theorem dM_taxOf_160 : decode prog_14_method_82_code 160 = .ok (.iaload, 1) := by decide +kernel
theorem dM_taxOf_161 : decode prog_14_method_82_code 161 = .ok (.iload 7, 2) := by decide +kernel
theorem dM_taxOf_163 : decode prog_14_method_82_code 163 = .ok (.bipush 10, 2) := by decide +kernel
theorem dM_taxOf_165 : decode prog_14_method_82_code 165 = .ok (.invokevirtual 305, 3) := by decide +kernel
theorem dM_taxOf_168 : decode prog_14_method_82_code 168 = .ok (.i2l, 1) := by decide +kernel
theorem dM_taxOf_169 : decode prog_14_method_82_code 169 = .ok (.lmul, 1) := by decide +kernel
theorem dM_taxOf_170 : decode prog_14_method_82_code 170 = .ok (.ldc2_w 249, 3) := by decide +kernel
theorem dM_taxOf_173 : decode prog_14_method_82_code 173 = .ok (.ldiv, 1) := by decide +kernel
theorem dM_taxOf_174 : decode prog_14_method_82_code 174 = .ok (.lreturn, 1) := by decide +kernel
theorem dM_taxOf_175 : decode prog_14_method_82_code 175 = .ok (.lload_n 3, 1) := by decide +kernel
theorem dM_taxOf_176 : decode prog_14_method_82_code 176 = .ok (.lload 9, 2) := by decide +kernel
theorem dM_taxOf_178 : decode prog_14_method_82_code 178 = .ok (.lconst 0, 1) := by decide +kernel
theorem dM_taxOf_179 : decode prog_14_method_82_code 179 = .ok (.lcmp, 1) := by decide +kernel
theorem dM_taxOf_180 : decode prog_14_method_82_code 180 = .ok (.ifCond .ge 9, 3) := by decide +kernel
theorem dM_taxOf_183 : decode prog_14_method_82_code 183 = .ok (.lload 11, 2) := by decide +kernel
theorem dM_taxOf_185 : decode prog_14_method_82_code 185 = .ok (.lneg, 1) := by decide +kernel
theorem dM_taxOf_186 : decode prog_14_method_82_code 186 = .ok (.goto 7, 3) := by decide +kernel
theorem dM_taxOf_189 : decode prog_14_method_82_code 189 = .ok (.aload_n 2, 1) := by decide +kernel
theorem dM_taxOf_190 : decode prog_14_method_82_code 190 = .ok (.iload 8, 2) := by decide +kernel
theorem dM_taxOf_192 : decode prog_14_method_82_code 192 = .ok (.laload, 1) := by decide +kernel
theorem dM_taxOf_193 : decode prog_14_method_82_code 193 = .ok (.ladd, 1) := by decide +kernel
theorem dM_taxOf_194 : decode prog_14_method_82_code 194 = .ok (.lstore_n 3, 1) := by decide +kernel
theorem dM_taxOf_195 : decode prog_14_method_82_code 195 = .ok (.lload 5, 2) := by decide +kernel
theorem dM_taxOf_197 : decode prog_14_method_82_code 197 = .ok (.lload 9, 2) := by decide +kernel
theorem dM_taxOf_199 : decode prog_14_method_82_code 199 = .ok (.ladd, 1) := by decide +kernel
theorem dM_taxOf_200 : decode prog_14_method_82_code 200 = .ok (.lstore 5, 2) := by decide +kernel
theorem dM_taxOf_202 : decode prog_14_method_82_code 202 = .ok (.iinc 8 1, 3) := by decide +kernel
theorem dM_taxOf_205 : decode prog_14_method_82_code 205 = .ok (.goto (-183), 3) := by decide +kernel
theorem dM_taxOf_208 : decode prog_14_method_82_code 208 = .ok (.iinc 7 1, 3) := by decide +kernel
theorem dM_taxOf_211 : decode prog_14_method_82_code 211 = .ok (.goto (-203), 3) := by decide +kernel
theorem dM_taxOf_214 : decode prog_14_method_82_code 214 = .ok (.lconst 0, 1) := by decide +kernel
theorem dM_taxOf_215 : decode prog_14_method_82_code 215 = .ok (.lreturn, 1) := by decide +kernel
theorem dM_tell_0 : decode prog_14_method_12_code 0 = .ok (.iload_n 1, 1) := by decide +kernel
theorem dM_tell_1 : decode prog_14_method_12_code 1 = .ok (.iload_n 2, 1) := by decide +kernel
theorem dM_tell_2 : decode prog_14_method_12_code 2 = .ok (.iload_n 3, 1) := by decide +kernel
theorem dM_tell_3 : decode prog_14_method_12_code 3 = .ok (.iload 4, 2) := by decide +kernel
theorem dM_tell_5 : decode prog_14_method_12_code 5 = .ok (.invokestatic 258, 3) := by decide +kernel
theorem dM_tell_8 : decode prog_14_method_12_code 8 = .ok (.ifCond .eq 23, 3) := by decide +kernel
theorem dM_tell_11 : decode prog_14_method_12_code 11 = .ok (.aload_n 0, 1) := by decide +kernel
theorem dM_tell_12 : decode prog_14_method_12_code 12 = .ok (.getfield 251, 3) := by decide +kernel
theorem dM_tell_15 : decode prog_14_method_12_code 15 = .ok (.sipush 400, 3) := by decide +kernel
theorem dM_tell_18 : decode prog_14_method_12_code 18 = .ok (.if_icmp .eq 13, 3) := by decide +kernel
theorem dM_tell_21 : decode prog_14_method_12_code 21 = .ok (.aload_n 0, 1) := by decide +kernel
theorem dM_tell_22 : decode prog_14_method_12_code 22 = .ok (.getfield 216, 3) := by decide +kernel
theorem dM_tell_25 : decode prog_14_method_12_code 25 = .ok (.sipush 260, 3) := by decide +kernel
theorem dM_tell_28 : decode prog_14_method_12_code 28 = .ok (.if_icmp .ne 5, 3) := by decide +kernel
theorem dM_tell_31 : decode prog_14_method_12_code 31 = .ok (.iconst (-1), 1) := by decide +kernel
theorem dM_tell_32 : decode prog_14_method_12_code 32 = .ok (.ireturn, 1) := by decide +kernel
theorem dM_tell_33 : decode prog_14_method_12_code 33 = .ok (.aload_n 0, 1) := by decide +kernel
theorem dM_tell_34 : decode prog_14_method_12_code 34 = .ok (.iload_n 1, 1) := by decide +kernel
theorem dM_tell_35 : decode prog_14_method_12_code 35 = .ok (.iload_n 2, 1) := by decide +kernel
theorem dM_tell_36 : decode prog_14_method_12_code 36 = .ok (.iload_n 3, 1) := by decide +kernel
theorem dM_tell_37 : decode prog_14_method_12_code 37 = .ok (.iload 4, 2) := by decide +kernel
theorem dM_tell_39 : decode prog_14_method_12_code 39 = .ok (.invokevirtual 262, 3) := by decide +kernel
theorem dM_tell_42 : decode prog_14_method_12_code 42 = .ok (.aload_n 0, 1) := by decide +kernel
theorem dM_tell_43 : decode prog_14_method_12_code 43 = .ok (.getfield 251, 3) := by decide +kernel
theorem dM_tell_46 : decode prog_14_method_12_code 46 = .ok (.ireturn, 1) := by decide +kernel
theorem dM_telling_0 : decode prog_14_method_13_code 0 = .ok (.iconst (-1), 1) := by decide +kernel
theorem dM_telling_1 : decode prog_14_method_13_code 1 = .ok (.istore 5, 2) := by decide +kernel
theorem dM_telling_3 : decode prog_14_method_13_code 3 = .ok (.iconst 0, 1) := by decide +kernel
theorem dM_telling_4 : decode prog_14_method_13_code 4 = .ok (.istore 6, 2) := by decide +kernel
theorem dM_telling_6 : decode prog_14_method_13_code 6 = .ok (.iload 6, 2) := by decide +kernel
theorem dM_telling_8 : decode prog_14_method_13_code 8 = .ok (.aload_n 0, 1) := by decide +kernel
theorem dM_telling_9 : decode prog_14_method_13_code 9 = .ok (.getfield 251, 3) := by decide +kernel
theorem dM_telling_12 : decode prog_14_method_13_code 12 = .ok (.if_icmp .ge 103, 3) := by decide +kernel
theorem dM_telling_15 : decode prog_14_method_13_code 15 = .ok (.aload_n 0, 1) := by decide +kernel
theorem dM_telling_16 : decode prog_14_method_13_code 16 = .ok (.getfield 13, 3) := by decide +kernel
theorem dM_telling_19 : decode prog_14_method_13_code 19 = .ok (.iload 6, 2) := by decide +kernel
theorem dM_telling_21 : decode prog_14_method_13_code 21 = .ok (.iaload, 1) := by decide +kernel
theorem dM_telling_22 : decode prog_14_method_13_code 22 = .ok (.iload_n 1, 1) := by decide +kernel
theorem dM_telling_23 : decode prog_14_method_13_code 23 = .ok (.if_icmp .ne 86, 3) := by decide +kernel
theorem dM_telling_26 : decode prog_14_method_13_code 26 = .ok (.aload_n 0, 1) := by decide +kernel
theorem dM_telling_27 : decode prog_14_method_13_code 27 = .ok (.getfield 17, 3) := by decide +kernel
theorem dM_telling_30 : decode prog_14_method_13_code 30 = .ok (.iload 6, 2) := by decide +kernel
theorem dM_telling_32 : decode prog_14_method_13_code 32 = .ok (.iaload, 1) := by decide +kernel
theorem dM_telling_33 : decode prog_14_method_13_code 33 = .ok (.iload_n 2, 1) := by decide +kernel
theorem dM_telling_34 : decode prog_14_method_13_code 34 = .ok (.if_icmp .ne 75, 3) := by decide +kernel
theorem dM_telling_37 : decode prog_14_method_13_code 37 = .ok (.aload_n 0, 1) := by decide +kernel
theorem dM_telling_38 : decode prog_14_method_13_code 38 = .ok (.getfield 26, 3) := by decide +kernel
theorem dM_telling_41 : decode prog_14_method_13_code 41 = .ok (.iload 6, 2) := by decide +kernel
theorem dM_telling_43 : decode prog_14_method_13_code 43 = .ok (.iaload, 1) := by decide +kernel
theorem dM_telling_44 : decode prog_14_method_13_code 44 = .ok (.iload 4, 2) := by decide +kernel
theorem dM_telling_46 : decode prog_14_method_13_code 46 = .ok (.if_icmp .gt 63, 3) := by decide +kernel
theorem dM_telling_49 : decode prog_14_method_13_code 49 = .ok (.aload_n 0, 1) := by decide +kernel
theorem dM_telling_50 : decode prog_14_method_13_code 50 = .ok (.getfield 20, 3) := by decide +kernel
theorem dM_telling_53 : decode prog_14_method_13_code 53 = .ok (.iload 6, 2) := by decide +kernel
theorem dM_telling_55 : decode prog_14_method_13_code 55 = .ok (.iaload, 1) := by decide +kernel
theorem dM_telling_56 : decode prog_14_method_13_code 56 = .ok (.iload_n 3, 1) := by decide +kernel
theorem dM_telling_57 : decode prog_14_method_13_code 57 = .ok (.if_icmp .le 6, 3) := by decide +kernel
theorem dM_telling_60 : decode prog_14_method_13_code 60 = .ok (.goto 49, 3) := by decide +kernel
theorem dM_telling_63 : decode prog_14_method_13_code 63 = .ok (.iload_n 1, 1) := by decide +kernel
theorem dM_telling_64 : decode prog_14_method_13_code 64 = .ok (.iconst 1, 1) := by decide +kernel
theorem dM_telling_65 : decode prog_14_method_13_code 65 = .ok (.if_icmp .le 17, 3) := by decide +kernel
theorem dM_telling_68 : decode prog_14_method_13_code 68 = .ok (.aload_n 0, 1) := by decide +kernel
theorem dM_telling_69 : decode prog_14_method_13_code 69 = .ok (.getfield 20, 3) := by decide +kernel
theorem dM_telling_72 : decode prog_14_method_13_code 72 = .ok (.iload 6, 2) := by decide +kernel
theorem dM_telling_74 : decode prog_14_method_13_code 74 = .ok (.iaload, 1) := by decide +kernel
theorem dM_telling_75 : decode prog_14_method_13_code 75 = .ok (.iload_n 3, 1) := by decide +kernel
theorem dM_telling_76 : decode prog_14_method_13_code 76 = .ok (.if_icmp .eq 6, 3) := by decide +kernel
theorem dM_telling_79 : decode prog_14_method_13_code 79 = .ok (.goto 30, 3) := by decide +kernel
theorem dM_telling_82 : decode prog_14_method_13_code 82 = .ok (.iload 5, 2) := by decide +kernel
theorem dM_telling_84 : decode prog_14_method_13_code 84 = .ok (.iconst (-1), 1) := by decide +kernel
theorem dM_telling_85 : decode prog_14_method_13_code 85 = .ok (.if_icmp .eq 20, 3) := by decide +kernel
theorem dM_telling_88 : decode prog_14_method_13_code 88 = .ok (.aload_n 0, 1) := by decide +kernel
theorem dM_telling_89 : decode prog_14_method_13_code 89 = .ok (.getfield 20, 3) := by decide +kernel
theorem dM_telling_92 : decode prog_14_method_13_code 92 = .ok (.iload 6, 2) := by decide +kernel
theorem dM_telling_94 : decode prog_14_method_13_code 94 = .ok (.iaload, 1) := by decide +kernel
theorem dM_telling_95 : decode prog_14_method_13_code 95 = .ok (.aload_n 0, 1) := by decide +kernel
theorem dM_telling_96 : decode prog_14_method_13_code 96 = .ok (.getfield 20, 3) := by decide +kernel
theorem dM_telling_99 : decode prog_14_method_13_code 99 = .ok (.iload 5, 2) := by decide +kernel
theorem dM_telling_101 : decode prog_14_method_13_code 101 = .ok (.iaload, 1) := by decide +kernel
theorem dM_telling_102 : decode prog_14_method_13_code 102 = .ok (.if_icmp .lt 7, 3) := by decide +kernel
theorem dM_telling_105 : decode prog_14_method_13_code 105 = .ok (.iload 6, 2) := by decide +kernel
theorem dM_telling_107 : decode prog_14_method_13_code 107 = .ok (.istore 5, 2) := by decide +kernel
theorem dM_telling_109 : decode prog_14_method_13_code 109 = .ok (.iinc 6 1, 3) := by decide +kernel
theorem dM_telling_112 : decode prog_14_method_13_code 112 = .ok (.goto (-106), 3) := by decide +kernel
theorem dM_telling_115 : decode prog_14_method_13_code 115 = .ok (.iload 5, 2) := by decide +kernel
theorem dM_telling_117 : decode prog_14_method_13_code 117 = .ok (.ireturn, 1) := by decide +kernel
theorem dM_through_0 : decode prog_14_method_58_code 0 = .ok (.aload_n 0, 1) := by decide +kernel
theorem dM_through_1 : decode prog_14_method_58_code 1 = .ok (.iload_n 2, 1) := by decide +kernel
theorem dM_through_2 : decode prog_14_method_58_code 2 = .ok (.invokevirtual 462, 3) := by decide +kernel
theorem dM_through_5 : decode prog_14_method_58_code 5 = .ok (.aload_n 0, 1) := by decide +kernel
theorem dM_through_6 : decode prog_14_method_58_code 6 = .ok (.invokevirtual 465, 3) := by decide +kernel
theorem dM_through_9 : decode prog_14_method_58_code 9 = .ok (.iconst 0, 1) := by decide +kernel
theorem dM_through_10 : decode prog_14_method_58_code 10 = .ok (.istore 4, 2) := by decide +kernel
theorem dM_through_12 : decode prog_14_method_58_code 12 = .ok (.iload 4, 2) := by decide +kernel
theorem dM_through_14 : decode prog_14_method_58_code 14 = .ok (.iload_n 1, 1) := by decide +kernel
theorem dM_through_15 : decode prog_14_method_58_code 15 = .ok (.if_icmp .gt 17, 3) := by decide +kernel
theorem dM_through_18 : decode prog_14_method_58_code 18 = .ok (.aload_n 0, 1) := by decide +kernel
theorem dM_through_19 : decode prog_14_method_58_code 19 = .ok (.iload 4, 2) := by decide +kernel
theorem dM_through_21 : decode prog_14_method_58_code 21 = .ok (.iload_n 3, 1) := by decide +kernel
theorem dM_through_22 : decode prog_14_method_58_code 22 = .ok (.iload_n 1, 1) := by decide +kernel
theorem dM_through_23 : decode prog_14_method_58_code 23 = .ok (.invokevirtual 468, 3) := by decide +kernel
theorem dM_through_26 : decode prog_14_method_58_code 26 = .ok (.iinc 4 1, 3) := by decide +kernel
theorem dM_through_29 : decode prog_14_method_58_code 29 = .ok (.goto (-17), 3) := by decide +kernel
theorem dM_through_32 : decode prog_14_method_58_code 32 = .ok (.return_, 1) := by decide +kernel
theorem dM_told_0 : decode prog_14_method_4_code 0 = .ok (.lload_n 0, 1) := by decide +kernel
theorem dM_told_1 : decode prog_14_method_4_code 1 = .ok (.ldc2_w 208, 3) := by decide +kernel
theorem dM_told_4 : decode prog_14_method_4_code 4 = .ok (.ldc2_w 210, 3) := by decide +kernel
theorem dM_told_7 : decode prog_14_method_4_code 7 = .ok (.invokestatic 212, 3) := by decide +kernel
theorem dM_told_10 : decode prog_14_method_4_code 10 = .ok (.l2i, 1) := by decide +kernel
theorem dM_told_11 : decode prog_14_method_4_code 11 = .ok (.ireturn, 1) := by decide +kernel
theorem dM_trade_0 : decode prog_14_method_22_code 0 = .ok (.aload_n 0, 1) := by decide +kernel
theorem dM_trade_1 : decode prog_14_method_22_code 1 = .ok (.iload_n 1, 1) := by decide +kernel
theorem dM_trade_2 : decode prog_14_method_22_code 2 = .ok (.invokevirtual 287, 3) := by decide +kernel
theorem dM_trade_5 : decode prog_14_method_22_code 5 = .ok (.ifCond .eq 78, 3) := by decide +kernel
theorem dM_trade_8 : decode prog_14_method_22_code 8 = .ok (.iload_n 2, 1) := by decide +kernel
theorem dM_trade_9 : decode prog_14_method_22_code 9 = .ok (.i2l, 1) := by decide +kernel
theorem dM_trade_10 : decode prog_14_method_22_code 10 = .ok (.lconst 0, 1) := by decide +kernel
theorem dM_trade_11 : decode prog_14_method_22_code 11 = .ok (.ldc2_w 237, 3) := by decide +kernel
theorem dM_trade_14 : decode prog_14_method_22_code 14 = .ok (.invokestatic 222, 3) := by decide +kernel
theorem dM_trade_17 : decode prog_14_method_22_code 17 = .ok (.ifCond .eq 66, 3) := by decide +kernel
theorem dM_trade_20 : decode prog_14_method_22_code 20 = .ok (.iload_n 3, 1) := by decide +kernel
theorem dM_trade_21 : decode prog_14_method_22_code 21 = .ok (.i2l, 1) := by decide +kernel
theorem dM_trade_22 : decode prog_14_method_22_code 22 = .ok (.lconst 0, 1) := by decide +kernel
theorem dM_trade_23 : decode prog_14_method_22_code 23 = .ok (.aload_n 0, 1) := by decide +kernel
theorem dM_trade_24 : decode prog_14_method_22_code 24 = .ok (.getfield 216, 3) := by decide +kernel
theorem dM_trade_27 : decode prog_14_method_22_code 27 = .ok (.i2l, 1) := by decide +kernel
theorem dM_trade_28 : decode prog_14_method_22_code 28 = .ok (.invokestatic 222, 3) := by decide +kernel
theorem dM_trade_31 : decode prog_14_method_22_code 31 = .ok (.ifCond .eq 52, 3) := by decide +kernel
theorem dM_trade_34 : decode prog_14_method_22_code 34 = .ok (.iload 4, 2) := by decide +kernel
theorem dM_trade_36 : decode prog_14_method_22_code 36 = .ok (.i2l, 1) := by decide +kernel
theorem dM_trade_37 : decode prog_14_method_22_code 37 = .ok (.ldc2_w 290, 3) := by decide +kernel
theorem dM_trade_40 : decode prog_14_method_22_code 40 = .ok (.ldc2_w 243, 3) := by decide +kernel
theorem dM_trade_43 : decode prog_14_method_22_code 43 = .ok (.invokestatic 222, 3) := by decide +kernel
theorem dM_trade_46 : decode prog_14_method_22_code 46 = .ok (.ifCond .eq 37, 3) := by decide +kernel
theorem dM_trade_49 : decode prog_14_method_22_code 49 = .ok (.iload 5, 2) := by decide +kernel
theorem dM_trade_51 : decode prog_14_method_22_code 51 = .ok (.i2l, 1) := by decide +kernel
theorem dM_trade_52 : decode prog_14_method_22_code 52 = .ok (.ldc2_w 292, 3) := by decide +kernel
theorem dM_trade_55 : decode prog_14_method_22_code 55 = .ok (.ldc2_w 278, 3) := by decide +kernel
theorem dM_trade_58 : decode prog_14_method_22_code 58 = .ok (.invokestatic 222, 3) := by decide +kernel
theorem dM_trade_61 : decode prog_14_method_22_code 61 = .ok (.ifCond .eq 22, 3) := by decide +kernel
theorem dM_trade_64 : decode prog_14_method_22_code 64 = .ok (.aload_n 0, 1) := by decide +kernel
theorem dM_trade_65 : decode prog_14_method_22_code 65 = .ok (.getfield 294, 3) := by decide +kernel
theorem dM_trade_68 : decode prog_14_method_22_code 68 = .ok (.bipush 120, 2) := by decide +kernel
theorem dM_trade_70 : decode prog_14_method_22_code 70 = .ok (.if_icmp .eq 13, 3) := by decide +kernel
theorem dM_trade_73 : decode prog_14_method_22_code 73 = .ok (.aload_n 0, 1) := by decide +kernel
theorem dM_trade_74 : decode prog_14_method_22_code 74 = .ok (.getfield 216, 3) := by decide +kernel
theorem dM_trade_77 : decode prog_14_method_22_code 77 = .ok (.sipush 260, 3) := by decide +kernel
theorem dM_trade_80 : decode prog_14_method_22_code 80 = .ok (.if_icmp .ne 5, 3) := by decide +kernel
theorem dM_trade_83 : decode prog_14_method_22_code 83 = .ok (.iconst (-1), 1) := by decide +kernel
theorem dM_trade_84 : decode prog_14_method_22_code 84 = .ok (.ireturn, 1) := by decide +kernel
theorem dM_trade_85 : decode prog_14_method_22_code 85 = .ok (.aload_n 0, 1) := by decide +kernel
theorem dM_trade_86 : decode prog_14_method_22_code 86 = .ok (.getfield 56, 3) := by decide +kernel
theorem dM_trade_89 : decode prog_14_method_22_code 89 = .ok (.aload_n 0, 1) := by decide +kernel
theorem dM_trade_90 : decode prog_14_method_22_code 90 = .ok (.getfield 294, 3) := by decide +kernel
theorem dM_trade_93 : decode prog_14_method_22_code 93 = .ok (.iload_n 1, 1) := by decide +kernel
theorem dM_trade_94 : decode prog_14_method_22_code 94 = .ok (.iastore, 1) := by decide +kernel
theorem dM_trade_95 : decode prog_14_method_22_code 95 = .ok (.aload_n 0, 1) := by decide +kernel
theorem dM_trade_96 : decode prog_14_method_22_code 96 = .ok (.getfield 59, 3) := by decide +kernel
theorem dM_trade_99 : decode prog_14_method_22_code 99 = .ok (.aload_n 0, 1) := by decide +kernel
theorem dM_trade_100 : decode prog_14_method_22_code 100 = .ok (.getfield 294, 3) := by decide +kernel
theorem dM_trade_103 : decode prog_14_method_22_code 103 = .ok (.iload_n 2, 1) := by decide +kernel
theorem dM_trade_104 : decode prog_14_method_22_code 104 = .ok (.iastore, 1) := by decide +kernel
theorem dM_trade_105 : decode prog_14_method_22_code 105 = .ok (.aload_n 0, 1) := by decide +kernel
theorem dM_trade_106 : decode prog_14_method_22_code 106 = .ok (.getfield 62, 3) := by decide +kernel
theorem dM_trade_109 : decode prog_14_method_22_code 109 = .ok (.aload_n 0, 1) := by decide +kernel
theorem dM_trade_110 : decode prog_14_method_22_code 110 = .ok (.getfield 294, 3) := by decide +kernel
theorem dM_trade_113 : decode prog_14_method_22_code 113 = .ok (.iload_n 3, 1) := by decide +kernel
theorem dM_trade_114 : decode prog_14_method_22_code 114 = .ok (.iastore, 1) := by decide +kernel
theorem dM_trade_115 : decode prog_14_method_22_code 115 = .ok (.aload_n 0, 1) := by decide +kernel
theorem dM_trade_116 : decode prog_14_method_22_code 116 = .ok (.getfield 65, 3) := by decide +kernel
theorem dM_trade_119 : decode prog_14_method_22_code 119 = .ok (.aload_n 0, 1) := by decide +kernel
theorem dM_trade_120 : decode prog_14_method_22_code 120 = .ok (.getfield 294, 3) := by decide +kernel
theorem dM_trade_123 : decode prog_14_method_22_code 123 = .ok (.iload 4, 2) := by decide +kernel
theorem dM_trade_125 : decode prog_14_method_22_code 125 = .ok (.iastore, 1) := by decide +kernel
theorem dM_trade_126 : decode prog_14_method_22_code 126 = .ok (.aload_n 0, 1) := by decide +kernel
theorem dM_trade_127 : decode prog_14_method_22_code 127 = .ok (.getfield 68, 3) := by decide +kernel
theorem dM_trade_130 : decode prog_14_method_22_code 130 = .ok (.aload_n 0, 1) := by decide +kernel
theorem dM_trade_131 : decode prog_14_method_22_code 131 = .ok (.getfield 294, 3) := by decide +kernel
theorem dM_trade_134 : decode prog_14_method_22_code 134 = .ok (.iload 5, 2) := by decide +kernel
theorem dM_trade_136 : decode prog_14_method_22_code 136 = .ok (.iastore, 1) := by decide +kernel
theorem dM_trade_137 : decode prog_14_method_22_code 137 = .ok (.aload_n 0, 1) := by decide +kernel
theorem dM_trade_138 : decode prog_14_method_22_code 138 = .ok (.getfield 71, 3) := by decide +kernel
theorem dM_trade_141 : decode prog_14_method_22_code 141 = .ok (.aload_n 0, 1) := by decide +kernel
theorem dM_trade_142 : decode prog_14_method_22_code 142 = .ok (.getfield 294, 3) := by decide +kernel
theorem dM_trade_145 : decode prog_14_method_22_code 145 = .ok (.aload_n 0, 1) := by decide +kernel
theorem dM_trade_146 : decode prog_14_method_22_code 146 = .ok (.getfield 216, 3) := by decide +kernel
theorem dM_trade_149 : decode prog_14_method_22_code 149 = .ok (.iastore, 1) := by decide +kernel
theorem dM_trade_150 : decode prog_14_method_22_code 150 = .ok (.aload_n 0, 1) := by decide +kernel
theorem dM_trade_151 : decode prog_14_method_22_code 151 = .ok (.dup, 1) := by decide +kernel
theorem dM_trade_152 : decode prog_14_method_22_code 152 = .ok (.getfield 294, 3) := by decide +kernel
theorem dM_trade_155 : decode prog_14_method_22_code 155 = .ok (.iconst 1, 1) := by decide +kernel
theorem dM_trade_156 : decode prog_14_method_22_code 156 = .ok (.iadd, 1) := by decide +kernel
theorem dM_trade_157 : decode prog_14_method_22_code 157 = .ok (.putfield 294, 3) := by decide +kernel
theorem dM_trade_160 : decode prog_14_method_22_code 160 = .ok (.aload_n 0, 1) := by decide +kernel
theorem dM_trade_161 : decode prog_14_method_22_code 161 = .ok (.getfield 294, 3) := by decide +kernel
theorem dM_trade_164 : decode prog_14_method_22_code 164 = .ok (.iconst 1, 1) := by decide +kernel
theorem dM_trade_165 : decode prog_14_method_22_code 165 = .ok (.isub, 1) := by decide +kernel
theorem dM_trade_166 : decode prog_14_method_22_code 166 = .ok (.ireturn, 1) := by decide +kernel
theorem dM_units_0 : decode prog_14_method_70_code 0 = .ok (.aload_n 0, 1) := by decide +kernel
theorem dM_units_1 : decode prog_14_method_70_code 1 = .ok (.iload_n 1, 1) := by decide +kernel
theorem dM_units_2 : decode prog_14_method_70_code 2 = .ok (.invokevirtual 297, 3) := by decide +kernel
theorem dM_units_5 : decode prog_14_method_70_code 5 = .ok (.istore_n 3, 1) := by decide +kernel
theorem dM_units_6 : decode prog_14_method_70_code 6 = .ok (.iload_n 3, 1) := by decide +kernel
theorem dM_units_7 : decode prog_14_method_70_code 7 = .ok (.iconst (-1), 1) := by decide +kernel
theorem dM_units_8 : decode prog_14_method_70_code 8 = .ok (.if_icmp .eq 12, 3) := by decide +kernel
theorem dM_units_11 : decode prog_14_method_70_code 11 = .ok (.aload_n 0, 1) := by decide +kernel
theorem dM_units_12 : decode prog_14_method_70_code 12 = .ok (.iload_n 3, 1) := by decide +kernel
theorem dM_units_13 : decode prog_14_method_70_code 13 = .ok (.iload_n 2, 1) := by decide +kernel
theorem dM_units_14 : decode prog_14_method_70_code 14 = .ok (.invokevirtual 493, 3) := by decide +kernel
theorem dM_units_17 : decode prog_14_method_70_code 17 = .ok (.ifCond .ne 5, 3) := by decide +kernel
theorem dM_units_20 : decode prog_14_method_70_code 20 = .ok (.iconst (-1), 1) := by decide +kernel
theorem dM_units_21 : decode prog_14_method_70_code 21 = .ok (.ireturn, 1) := by decide +kernel
theorem dM_units_22 : decode prog_14_method_70_code 22 = .ok (.iconst 0, 1) := by decide +kernel
theorem dM_units_23 : decode prog_14_method_70_code 23 = .ok (.istore 4, 2) := by decide +kernel
theorem dM_units_25 : decode prog_14_method_70_code 25 = .ok (.iconst 0, 1) := by decide +kernel
theorem dM_units_26 : decode prog_14_method_70_code 26 = .ok (.istore 5, 2) := by decide +kernel
theorem dM_units_28 : decode prog_14_method_70_code 28 = .ok (.iload 5, 2) := by decide +kernel
theorem dM_units_30 : decode prog_14_method_70_code 30 = .ok (.aload_n 0, 1) := by decide +kernel
theorem dM_units_31 : decode prog_14_method_70_code 31 = .ok (.getfield 302, 3) := by decide +kernel
theorem dM_units_34 : decode prog_14_method_70_code 34 = .ok (.if_icmp .ge 57, 3) := by decide +kernel
theorem dM_units_37 : decode prog_14_method_70_code 37 = .ok (.iload 4, 2) := by decide +kernel
theorem dM_units_39 : decode prog_14_method_70_code 39 = .ok (.aload_n 0, 1) := by decide +kernel
theorem dM_units_40 : decode prog_14_method_70_code 40 = .ok (.getfield 89, 3) := by decide +kernel
theorem dM_units_43 : decode prog_14_method_70_code 43 = .ok (.iload 5, 2) := by decide +kernel
theorem dM_units_45 : decode prog_14_method_70_code 45 = .ok (.baload, 1) := by decide +kernel
theorem dM_units_46 : decode prog_14_method_70_code 46 = .ok (.ifCond .eq 35, 3) := by decide +kernel
theorem dM_units_49 : decode prog_14_method_70_code 49 = .ok (.aload_n 0, 1) := by decide +kernel
theorem dM_units_50 : decode prog_14_method_70_code 50 = .ok (.getfield 74, 3) := by decide +kernel
theorem dM_units_53 : decode prog_14_method_70_code 53 = .ok (.iload 5, 2) := by decide +kernel
theorem dM_units_55 : decode prog_14_method_70_code 55 = .ok (.iaload, 1) := by decide +kernel
theorem dM_units_56 : decode prog_14_method_70_code 56 = .ok (.iload_n 3, 1) := by decide +kernel
theorem dM_units_57 : decode prog_14_method_70_code 57 = .ok (.if_icmp .ne 24, 3) := by decide +kernel
theorem dM_units_60 : decode prog_14_method_70_code 60 = .ok (.aload_n 0, 1) := by decide +kernel
theorem dM_units_61 : decode prog_14_method_70_code 61 = .ok (.getfield 77, 3) := by decide +kernel
theorem dM_units_64 : decode prog_14_method_70_code 64 = .ok (.iload 5, 2) := by decide +kernel
theorem dM_units_66 : decode prog_14_method_70_code 66 = .ok (.iaload, 1) := by decide +kernel
theorem dM_units_67 : decode prog_14_method_70_code 67 = .ok (.iload_n 2, 1) := by decide +kernel
theorem dM_units_68 : decode prog_14_method_70_code 68 = .ok (.if_icmp .ne 13, 3) := by decide +kernel
theorem dM_units_71 : decode prog_14_method_70_code 71 = .ok (.aload_n 0, 1) := by decide +kernel
theorem dM_units_72 : decode prog_14_method_70_code 72 = .ok (.getfield 86, 3) := by decide +kernel
theorem dM_units_75 : decode prog_14_method_70_code 75 = .ok (.iload 5, 2) := by decide +kernel
theorem dM_units_77 : decode prog_14_method_70_code 77 = .ok (.iaload, 1) := by decide +kernel
theorem dM_units_78 : decode prog_14_method_70_code 78 = .ok (.goto 4, 3) := by decide +kernel
theorem dM_units_81 : decode prog_14_method_70_code 81 = .ok (.iconst 0, 1) := by decide +kernel
theorem dM_units_82 : decode prog_14_method_70_code 82 = .ok (.iadd, 1) := by decide +kernel
theorem dM_units_83 : decode prog_14_method_70_code 83 = .ok (.istore 4, 2) := by decide +kernel
theorem dM_units_85 : decode prog_14_method_70_code 85 = .ok (.iinc 5 1, 3) := by decide +kernel
theorem dM_units_88 : decode prog_14_method_70_code 88 = .ok (.goto (-60), 3) := by decide +kernel
theorem dM_units_91 : decode prog_14_method_70_code 91 = .ok (.iload 4, 2) := by decide +kernel
theorem dM_units_93 : decode prog_14_method_70_code 93 = .ok (.ireturn, 1) := by decide +kernel
theorem dM_word_0 : decode prog_14_method_33_code 0 = .ok (.aload_n 0, 1) := by decide +kernel
theorem dM_word_1 : decode prog_14_method_33_code 1 = .ok (.invokevirtual 338, 3) := by decide +kernel
theorem dM_word_4 : decode prog_14_method_33_code 4 = .ok (.aload_n 0, 1) := by decide +kernel
theorem dM_word_5 : decode prog_14_method_33_code 5 = .ok (.getfield 316, 3) := by decide +kernel
theorem dM_word_8 : decode prog_14_method_33_code 8 = .ok (.iconst (-1), 1) := by decide +kernel
theorem dM_word_9 : decode prog_14_method_33_code 9 = .ok (.if_icmp .eq 4, 3) := by decide +kernel
