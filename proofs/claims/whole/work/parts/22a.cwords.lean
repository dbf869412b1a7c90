def yUB_init : MethodName := ⟨"UnitsWrong$ByDay", "<init>", "(I)V"⟩
def yUTe_init : MethodName := ⟨"UnitsWrong$Tellings", "<init>", "(I)V"⟩
def yUTr_init : MethodName := ⟨"UnitsWrong$Trades", "<init>", "()V"⟩
def yUD_init : MethodName := ⟨"UnitsWrong$Deals", "<init>", "()V"⟩
def yUL_init : MethodName := ⟨"UnitsWrong$Laws", "<init>", "()V"⟩
def yUS_init : MethodName := ⟨"UnitsWrong$State", "<init>", "()V"⟩
def yUX_init : MethodName := ⟨"UnitsWrong$Text", "<init>", "()V"⟩
def yUC_init : MethodName := ⟨"UnitsWrong$Course", "<init>", "()V"⟩
def yUQ_init : MethodName := ⟨"UnitsWrong$Claims", "<init>", "()V"⟩
def yUG_init : MethodName := ⟨"UnitsWrong$Settlement", "<init>", "()V"⟩
def yUA_init : MethodName := ⟨"UnitsWrong$Audits", "<init>", "()V"⟩
def yU_init : MethodName := ⟨"UnitsWrong", "<init>", "()V"⟩
def yM_init : MethodName := ⟨"UnitsWrongModel", "<init>", "()V"⟩
theorem dUA_init_0 : decode prog_2_method_1_code 0 = .ok (.aload_n 0, 1) := by decide +kernel
theorem dUA_init_1 : decode prog_2_method_1_code 1 = .ok (.invokespecial 3, 3) := by decide +kernel
theorem dUA_init_4 : decode prog_2_method_1_code 4 = .ok (.aload_n 0, 1) := by decide +kernel
theorem dUA_init_5 : decode prog_2_method_1_code 5 = .ok (.bipush 8, 2) := by decide +kernel
theorem dUA_init_7 : decode prog_2_method_1_code 7 = .ok (.newarray .int, 2) := by decide +kernel
theorem dUA_init_9 : decode prog_2_method_1_code 9 = .ok (.putfield 11, 3) := by decide +kernel
theorem dUA_init_12 : decode prog_2_method_1_code 12 = .ok (.aload_n 0, 1) := by decide +kernel
theorem dUA_init_13 : decode prog_2_method_1_code 13 = .ok (.bipush 8, 2) := by decide +kernel
theorem dUA_init_15 : decode prog_2_method_1_code 15 = .ok (.newarray .int, 2) := by decide +kernel
theorem dUA_init_17 : decode prog_2_method_1_code 17 = .ok (.putfield 15, 3) := by decide +kernel
theorem dUA_init_20 : decode prog_2_method_1_code 20 = .ok (.aload_n 0, 1) := by decide +kernel
theorem dUA_init_21 : decode prog_2_method_1_code 21 = .ok (.bipush 8, 2) := by decide +kernel
theorem dUA_init_23 : decode prog_2_method_1_code 23 = .ok (.newarray .int, 2) := by decide +kernel
theorem dUA_init_25 : decode prog_2_method_1_code 25 = .ok (.putfield 18, 3) := by decide +kernel
theorem dUA_init_28 : decode prog_2_method_1_code 28 = .ok (.return_, 1) := by decide +kernel
theorem dUB_init_0 : decode prog_3_method_1_code 0 = .ok (.aload_n 0, 1) := by decide +kernel
theorem dUB_init_1 : decode prog_3_method_1_code 1 = .ok (.invokespecial 3, 3) := by decide +kernel
theorem dUB_init_4 : decode prog_3_method_1_code 4 = .ok (.aload_n 0, 1) := by decide +kernel
theorem dUB_init_5 : decode prog_3_method_1_code 5 = .ok (.iload_n 1, 1) := by decide +kernel
theorem dUB_init_6 : decode prog_3_method_1_code 6 = .ok (.newarray .int, 2) := by decide +kernel
theorem dUB_init_8 : decode prog_3_method_1_code 8 = .ok (.putfield 9, 3) := by decide +kernel
theorem dUB_init_11 : decode prog_3_method_1_code 11 = .ok (.aload_n 0, 1) := by decide +kernel
theorem dUB_init_12 : decode prog_3_method_1_code 12 = .ok (.iload_n 1, 1) := by decide +kernel
theorem dUB_init_13 : decode prog_3_method_1_code 13 = .ok (.newarray .int, 2) := by decide +kernel
theorem dUB_init_15 : decode prog_3_method_1_code 15 = .ok (.putfield 15, 3) := by decide +kernel
theorem dUB_init_18 : decode prog_3_method_1_code 18 = .ok (.return_, 1) := by decide +kernel
theorem dUC_init_0 : decode prog_5_method_1_code 0 = .ok (.aload_n 0, 1) := by decide +kernel
theorem dUC_init_1 : decode prog_5_method_1_code 1 = .ok (.invokespecial 3, 3) := by decide +kernel
theorem dUC_init_4 : decode prog_5_method_1_code 4 = .ok (.aload_n 0, 1) := by decide +kernel
theorem dUC_init_5 : decode prog_5_method_1_code 5 = .ok (.iconst 4, 1) := by decide +kernel
theorem dUC_init_6 : decode prog_5_method_1_code 6 = .ok (.newarray .long, 2) := by decide +kernel
theorem dUC_init_8 : decode prog_5_method_1_code 8 = .ok (.putfield 9, 3) := by decide +kernel
theorem dUC_init_11 : decode prog_5_method_1_code 11 = .ok (.aload_n 0, 1) := by decide +kernel
theorem dUC_init_12 : decode prog_5_method_1_code 12 = .ok (.iconst 4, 1) := by decide +kernel
theorem dUC_init_13 : decode prog_5_method_1_code 13 = .ok (.newarray .long, 2) := by decide +kernel
theorem dUC_init_15 : decode prog_5_method_1_code 15 = .ok (.putfield 15, 3) := by decide +kernel
theorem dUC_init_18 : decode prog_5_method_1_code 18 = .ok (.aload_n 0, 1) := by decide +kernel
theorem dUC_init_19 : decode prog_5_method_1_code 19 = .ok (.sipush 1040, 3) := by decide +kernel
theorem dUC_init_22 : decode prog_5_method_1_code 22 = .ok (.newarray .int, 2) := by decide +kernel
theorem dUC_init_24 : decode prog_5_method_1_code 24 = .ok (.putfield 18, 3) := by decide +kernel
theorem dUC_init_27 : decode prog_5_method_1_code 27 = .ok (.aload_n 0, 1) := by decide +kernel
theorem dUC_init_28 : decode prog_5_method_1_code 28 = .ok (.sipush 1040, 3) := by decide +kernel
theorem dUC_init_31 : decode prog_5_method_1_code 31 = .ok (.newarray .long, 2) := by decide +kernel
theorem dUC_init_33 : decode prog_5_method_1_code 33 = .ok (.putfield 22, 3) := by decide +kernel
theorem dUC_init_36 : decode prog_5_method_1_code 36 = .ok (.aload_n 0, 1) := by decide +kernel
theorem dUC_init_37 : decode prog_5_method_1_code 37 = .ok (.bipush 32, 2) := by decide +kernel
theorem dUC_init_39 : decode prog_5_method_1_code 39 = .ok (.newarray .int, 2) := by decide +kernel
theorem dUC_init_41 : decode prog_5_method_1_code 41 = .ok (.putfield 25, 3) := by decide +kernel
theorem dUC_init_44 : decode prog_5_method_1_code 44 = .ok (.aload_n 0, 1) := by decide +kernel
theorem dUC_init_45 : decode prog_5_method_1_code 45 = .ok (.bipush 16, 2) := by decide +kernel
theorem dUC_init_47 : decode prog_5_method_1_code 47 = .ok (.newarray .int, 2) := by decide +kernel
theorem dUC_init_49 : decode prog_5_method_1_code 49 = .ok (.putfield 28, 3) := by decide +kernel
theorem dUC_init_52 : decode prog_5_method_1_code 52 = .ok (.aload_n 0, 1) := by decide +kernel
theorem dUC_init_53 : decode prog_5_method_1_code 53 = .ok (.iconst 4, 1) := by decide +kernel
theorem dUC_init_54 : decode prog_5_method_1_code 54 = .ok (.newarray .int, 2) := by decide +kernel
theorem dUC_init_56 : decode prog_5_method_1_code 56 = .ok (.putfield 31, 3) := by decide +kernel
theorem dUC_init_59 : decode prog_5_method_1_code 59 = .ok (.aload_n 0, 1) := by decide +kernel
theorem dUC_init_60 : decode prog_5_method_1_code 60 = .ok (.bipush 8, 2) := by decide +kernel
theorem dUC_init_62 : decode prog_5_method_1_code 62 = .ok (.newarray .int, 2) := by decide +kernel
theorem dUC_init_64 : decode prog_5_method_1_code 64 = .ok (.putfield 34, 3) := by decide +kernel
theorem dUC_init_67 : decode prog_5_method_1_code 67 = .ok (.aload_n 0, 1) := by decide +kernel
theorem dUC_init_68 : decode prog_5_method_1_code 68 = .ok (.iconst 3, 1) := by decide +kernel
theorem dUC_init_69 : decode prog_5_method_1_code 69 = .ok (.newarray .int, 2) := by decide +kernel
theorem dUC_init_71 : decode prog_5_method_1_code 71 = .ok (.putfield 37, 3) := by decide +kernel
theorem dUC_init_74 : decode prog_5_method_1_code 74 = .ok (.aload_n 0, 1) := by decide +kernel
theorem dUC_init_75 : decode prog_5_method_1_code 75 = .ok (.bipush 8, 2) := by decide +kernel
theorem dUC_init_77 : decode prog_5_method_1_code 77 = .ok (.newarray .int, 2) := by decide +kernel
theorem dUC_init_79 : decode prog_5_method_1_code 79 = .ok (.putfield 40, 3) := by decide +kernel
theorem dUC_init_82 : decode prog_5_method_1_code 82 = .ok (.aload_n 0, 1) := by decide +kernel
theorem dUC_init_83 : decode prog_5_method_1_code 83 = .ok (.bipush 8, 2) := by decide +kernel
theorem dUC_init_85 : decode prog_5_method_1_code 85 = .ok (.newarray .int, 2) := by decide +kernel
theorem dUC_init_87 : decode prog_5_method_1_code 87 = .ok (.putfield 43, 3) := by decide +kernel
theorem dUC_init_90 : decode prog_5_method_1_code 90 = .ok (.aload_n 0, 1) := by decide +kernel
theorem dUC_init_91 : decode prog_5_method_1_code 91 = .ok (.iconst (-1), 1) := by decide +kernel
theorem dUC_init_92 : decode prog_5_method_1_code 92 = .ok (.putfield 46, 3) := by decide +kernel
theorem dUC_init_95 : decode prog_5_method_1_code 95 = .ok (.return_, 1) := by decide +kernel
theorem dUD_init_0 : decode prog_6_method_1_code 0 = .ok (.aload_n 0, 1) := by decide +kernel
theorem dUD_init_1 : decode prog_6_method_1_code 1 = .ok (.invokespecial 3, 3) := by decide +kernel
theorem dUD_init_4 : decode prog_6_method_1_code 4 = .ok (.aload_n 0, 1) := by decide +kernel
theorem dUD_init_5 : decode prog_6_method_1_code 5 = .ok (.new 9, 3) := by decide +kernel
theorem dUD_init_8 : decode prog_6_method_1_code 8 = .ok (.dup, 1) := by decide +kernel
theorem dUD_init_9 : decode prog_6_method_1_code 9 = .ok (.sipush 200, 3) := by decide +kernel
theorem dUD_init_12 : decode prog_6_method_1_code 12 = .ok (.invokespecial 13, 3) := by decide +kernel
theorem dUD_init_15 : decode prog_6_method_1_code 15 = .ok (.putfield 16, 3) := by decide +kernel
theorem dUD_init_18 : decode prog_6_method_1_code 18 = .ok (.aload_n 0, 1) := by decide +kernel
theorem dUD_init_19 : decode prog_6_method_1_code 19 = .ok (.sipush 200, 3) := by decide +kernel
theorem dUD_init_22 : decode prog_6_method_1_code 22 = .ok (.newarray .int, 2) := by decide +kernel
theorem dUD_init_24 : decode prog_6_method_1_code 24 = .ok (.putfield 20, 3) := by decide +kernel
theorem dUD_init_27 : decode prog_6_method_1_code 27 = .ok (.aload_n 0, 1) := by decide +kernel
theorem dUD_init_28 : decode prog_6_method_1_code 28 = .ok (.sipush 200, 3) := by decide +kernel
theorem dUD_init_31 : decode prog_6_method_1_code 31 = .ok (.newarray .int, 2) := by decide +kernel
theorem dUD_init_33 : decode prog_6_method_1_code 33 = .ok (.putfield 24, 3) := by decide +kernel
theorem dUD_init_36 : decode prog_6_method_1_code 36 = .ok (.aload_n 0, 1) := by decide +kernel
theorem dUD_init_37 : decode prog_6_method_1_code 37 = .ok (.sipush 200, 3) := by decide +kernel
theorem dUD_init_40 : decode prog_6_method_1_code 40 = .ok (.newarray .int, 2) := by decide +kernel
theorem dUD_init_42 : decode prog_6_method_1_code 42 = .ok (.putfield 27, 3) := by decide +kernel
theorem dUD_init_45 : decode prog_6_method_1_code 45 = .ok (.aload_n 0, 1) := by decide +kernel
theorem dUD_init_46 : decode prog_6_method_1_code 46 = .ok (.sipush 200, 3) := by decide +kernel
theorem dUD_init_49 : decode prog_6_method_1_code 49 = .ok (.newarray .int, 2) := by decide +kernel
theorem dUD_init_51 : decode prog_6_method_1_code 51 = .ok (.putfield 30, 3) := by decide +kernel
theorem dUD_init_54 : decode prog_6_method_1_code 54 = .ok (.aload_n 0, 1) := by decide +kernel
theorem dUD_init_55 : decode prog_6_method_1_code 55 = .ok (.sipush 200, 3) := by decide +kernel
theorem dUD_init_58 : decode prog_6_method_1_code 58 = .ok (.newarray .long, 2) := by decide +kernel
theorem dUD_init_60 : decode prog_6_method_1_code 60 = .ok (.putfield 33, 3) := by decide +kernel
theorem dUD_init_63 : decode prog_6_method_1_code 63 = .ok (.aload_n 0, 1) := by decide +kernel
theorem dUD_init_64 : decode prog_6_method_1_code 64 = .ok (.sipush 200, 3) := by decide +kernel
theorem dUD_init_67 : decode prog_6_method_1_code 67 = .ok (.newarray .long, 2) := by decide +kernel
theorem dUD_init_69 : decode prog_6_method_1_code 69 = .ok (.putfield 37, 3) := by decide +kernel
theorem dUD_init_72 : decode prog_6_method_1_code 72 = .ok (.aload_n 0, 1) := by decide +kernel
theorem dUD_init_73 : decode prog_6_method_1_code 73 = .ok (.bipush 96, 2) := by decide +kernel
theorem dUD_init_75 : decode prog_6_method_1_code 75 = .ok (.newarray .int, 2) := by decide +kernel
theorem dUD_init_77 : decode prog_6_method_1_code 77 = .ok (.putfield 40, 3) := by decide +kernel
theorem dUD_init_80 : decode prog_6_method_1_code 80 = .ok (.aload_n 0, 1) := by decide +kernel
theorem dUD_init_81 : decode prog_6_method_1_code 81 = .ok (.iconst 4, 1) := by decide +kernel
theorem dUD_init_82 : decode prog_6_method_1_code 82 = .ok (.newarray .int, 2) := by decide +kernel
theorem dUD_init_84 : decode prog_6_method_1_code 84 = .ok (.putfield 43, 3) := by decide +kernel
theorem dUD_init_87 : decode prog_6_method_1_code 87 = .ok (.return_, 1) := by decide +kernel
theorem dUG_init_0 : decode prog_8_method_1_code 0 = .ok (.aload_n 0, 1) := by decide +kernel
theorem dUG_init_1 : decode prog_8_method_1_code 1 = .ok (.invokespecial 5, 3) := by decide +kernel
theorem dUG_init_4 : decode prog_8_method_1_code 4 = .ok (.aload_n 0, 1) := by decide +kernel
theorem dUG_init_5 : decode prog_8_method_1_code 5 = .ok (.bipush 10, 2) := by decide +kernel
theorem dUG_init_7 : decode prog_8_method_1_code 7 = .ok (.newarray .int, 2) := by decide +kernel
theorem dUG_init_9 : decode prog_8_method_1_code 9 = .ok (.putfield 11, 3) := by decide +kernel
theorem dUG_init_12 : decode prog_8_method_1_code 12 = .ok (.aload_n 0, 1) := by decide +kernel
theorem dUG_init_13 : decode prog_8_method_1_code 13 = .ok (.bipush 10, 2) := by decide +kernel
theorem dUG_init_15 : decode prog_8_method_1_code 15 = .ok (.newarray .int, 2) := by decide +kernel
theorem dUG_init_17 : decode prog_8_method_1_code 17 = .ok (.putfield 15, 3) := by decide +kernel
theorem dUG_init_20 : decode prog_8_method_1_code 20 = .ok (.aload_n 0, 1) := by decide +kernel
theorem dUG_init_21 : decode prog_8_method_1_code 21 = .ok (.bipush 10, 2) := by decide +kernel
theorem dUG_init_23 : decode prog_8_method_1_code 23 = .ok (.newarray .long, 2) := by decide +kernel
theorem dUG_init_25 : decode prog_8_method_1_code 25 = .ok (.putfield 18, 3) := by decide +kernel
theorem dUG_init_28 : decode prog_8_method_1_code 28 = .ok (.aload_n 0, 1) := by decide +kernel
theorem dUG_init_29 : decode prog_8_method_1_code 29 = .ok (.bipush 10, 2) := by decide +kernel
theorem dUG_init_31 : decode prog_8_method_1_code 31 = .ok (.newarray .int, 2) := by decide +kernel
theorem dUG_init_33 : decode prog_8_method_1_code 33 = .ok (.putfield 22, 3) := by decide +kernel
theorem dUG_init_36 : decode prog_8_method_1_code 36 = .ok (.aload_n 0, 1) := by decide +kernel
theorem dUG_init_37 : decode prog_8_method_1_code 37 = .ok (.bipush 10, 2) := by decide +kernel
theorem dUG_init_39 : decode prog_8_method_1_code 39 = .ok (.newarray .long, 2) := by decide +kernel
theorem dUG_init_41 : decode prog_8_method_1_code 41 = .ok (.putfield 25, 3) := by decide +kernel
theorem dUG_init_44 : decode prog_8_method_1_code 44 = .ok (.aload_n 0, 1) := by decide +kernel
theorem dUG_init_45 : decode prog_8_method_1_code 45 = .ok (.sipush 1024, 3) := by decide +kernel
theorem dUG_init_48 : decode prog_8_method_1_code 48 = .ok (.newarray .long, 2) := by decide +kernel
theorem dUG_init_50 : decode prog_8_method_1_code 50 = .ok (.putfield 28, 3) := by decide +kernel
theorem dUG_init_53 : decode prog_8_method_1_code 53 = .ok (.aload_n 0, 1) := by decide +kernel
theorem dUG_init_54 : decode prog_8_method_1_code 54 = .ok (.sipush 1024, 3) := by decide +kernel
theorem dUG_init_57 : decode prog_8_method_1_code 57 = .ok (.newarray .int, 2) := by decide +kernel
theorem dUG_init_59 : decode prog_8_method_1_code 59 = .ok (.putfield 31, 3) := by decide +kernel
theorem dUG_init_62 : decode prog_8_method_1_code 62 = .ok (.return_, 1) := by decide +kernel
theorem dUL_init_0 : decode prog_7_method_1_code 0 = .ok (.aload_n 0, 1) := by decide +kernel
theorem dUL_init_1 : decode prog_7_method_1_code 1 = .ok (.invokespecial 3, 3) := by decide +kernel
theorem dUL_init_4 : decode prog_7_method_1_code 4 = .ok (.aload_n 0, 1) := by decide +kernel
theorem dUL_init_5 : decode prog_7_method_1_code 5 = .ok (.bipush 6, 2) := by decide +kernel
theorem dUL_init_7 : decode prog_7_method_1_code 7 = .ok (.newarray .int, 2) := by decide +kernel
theorem dUL_init_9 : decode prog_7_method_1_code 9 = .ok (.putfield 11, 3) := by decide +kernel
theorem dUL_init_12 : decode prog_7_method_1_code 12 = .ok (.aload_n 0, 1) := by decide +kernel
theorem dUL_init_13 : decode prog_7_method_1_code 13 = .ok (.sipush 288, 3) := by decide +kernel
theorem dUL_init_16 : decode prog_7_method_1_code 16 = .ok (.newarray .int, 2) := by decide +kernel
theorem dUL_init_18 : decode prog_7_method_1_code 18 = .ok (.putfield 15, 3) := by decide +kernel
theorem dUL_init_21 : decode prog_7_method_1_code 21 = .ok (.return_, 1) := by decide +kernel
theorem dUQ_init_0 : decode prog_4_method_1_code 0 = .ok (.aload_n 0, 1) := by decide +kernel
theorem dUQ_init_1 : decode prog_4_method_1_code 1 = .ok (.invokespecial 3, 3) := by decide +kernel
theorem dUQ_init_4 : decode prog_4_method_1_code 4 = .ok (.aload_n 0, 1) := by decide +kernel
theorem dUQ_init_5 : decode prog_4_method_1_code 5 = .ok (.bipush 24, 2) := by decide +kernel
theorem dUQ_init_7 : decode prog_4_method_1_code 7 = .ok (.newarray .long, 2) := by decide +kernel
theorem dUQ_init_9 : decode prog_4_method_1_code 9 = .ok (.putfield 9, 3) := by decide +kernel
theorem dUQ_init_12 : decode prog_4_method_1_code 12 = .ok (.aload_n 0, 1) := by decide +kernel
theorem dUQ_init_13 : decode prog_4_method_1_code 13 = .ok (.bipush 24, 2) := by decide +kernel
theorem dUQ_init_15 : decode prog_4_method_1_code 15 = .ok (.newarray .long, 2) := by decide +kernel
theorem dUQ_init_17 : decode prog_4_method_1_code 17 = .ok (.putfield 15, 3) := by decide +kernel
theorem dUQ_init_20 : decode prog_4_method_1_code 20 = .ok (.aload_n 0, 1) := by decide +kernel
theorem dUQ_init_21 : decode prog_4_method_1_code 21 = .ok (.bipush 42, 2) := by decide +kernel
theorem dUQ_init_23 : decode prog_4_method_1_code 23 = .ok (.newarray .long, 2) := by decide +kernel
theorem dUQ_init_25 : decode prog_4_method_1_code 25 = .ok (.putfield 18, 3) := by decide +kernel
theorem dUQ_init_28 : decode prog_4_method_1_code 28 = .ok (.return_, 1) := by decide +kernel
theorem dUS_init_0 : decode prog_9_method_1_code 0 = .ok (.aload_n 0, 1) := by decide +kernel
theorem dUS_init_1 : decode prog_9_method_1_code 1 = .ok (.invokespecial 3, 3) := by decide +kernel
theorem dUS_init_4 : decode prog_9_method_1_code 4 = .ok (.aload_n 0, 1) := by decide +kernel
theorem dUS_init_5 : decode prog_9_method_1_code 5 = .ok (.iconst 4, 1) := by decide +kernel
theorem dUS_init_6 : decode prog_9_method_1_code 6 = .ok (.newarray .long, 2) := by decide +kernel
theorem dUS_init_8 : decode prog_9_method_1_code 8 = .ok (.putfield 9, 3) := by decide +kernel
theorem dUS_init_11 : decode prog_9_method_1_code 11 = .ok (.aload_n 0, 1) := by decide +kernel
theorem dUS_init_12 : decode prog_9_method_1_code 12 = .ok (.iconst 4, 1) := by decide +kernel
theorem dUS_init_13 : decode prog_9_method_1_code 13 = .ok (.newarray .int, 2) := by decide +kernel
theorem dUS_init_15 : decode prog_9_method_1_code 15 = .ok (.putfield 15, 3) := by decide +kernel
theorem dUS_init_18 : decode prog_9_method_1_code 18 = .ok (.aload_n 0, 1) := by decide +kernel
theorem dUS_init_19 : decode prog_9_method_1_code 19 = .ok (.bipush 16, 2) := by decide +kernel
theorem dUS_init_21 : decode prog_9_method_1_code 21 = .ok (.newarray .int, 2) := by decide +kernel
theorem dUS_init_23 : decode prog_9_method_1_code 23 = .ok (.putfield 19, 3) := by decide +kernel
theorem dUS_init_26 : decode prog_9_method_1_code 26 = .ok (.aload_n 0, 1) := by decide +kernel
theorem dUS_init_27 : decode prog_9_method_1_code 27 = .ok (.bipush 16, 2) := by decide +kernel
theorem dUS_init_29 : decode prog_9_method_1_code 29 = .ok (.newarray .int, 2) := by decide +kernel
theorem dUS_init_31 : decode prog_9_method_1_code 31 = .ok (.putfield 22, 3) := by decide +kernel
theorem dUS_init_34 : decode prog_9_method_1_code 34 = .ok (.aload_n 0, 1) := by decide +kernel
theorem dUS_init_35 : decode prog_9_method_1_code 35 = .ok (.bipush 8, 2) := by decide +kernel
theorem dUS_init_37 : decode prog_9_method_1_code 37 = .ok (.newarray .int, 2) := by decide +kernel
theorem dUS_init_39 : decode prog_9_method_1_code 39 = .ok (.putfield 25, 3) := by decide +kernel
theorem dUS_init_42 : decode prog_9_method_1_code 42 = .ok (.aload_n 0, 1) := by decide +kernel
theorem dUS_init_43 : decode prog_9_method_1_code 43 = .ok (.sipush 260, 3) := by decide +kernel
theorem dUS_init_46 : decode prog_9_method_1_code 46 = .ok (.newarray .boolean, 2) := by decide +kernel
theorem dUS_init_48 : decode prog_9_method_1_code 48 = .ok (.putfield 28, 3) := by decide +kernel
theorem dUS_init_51 : decode prog_9_method_1_code 51 = .ok (.aload_n 0, 1) := by decide +kernel
theorem dUS_init_52 : decode prog_9_method_1_code 52 = .ok (.new 32, 3) := by decide +kernel
theorem dUS_init_55 : decode prog_9_method_1_code 55 = .ok (.dup, 1) := by decide +kernel
theorem dUS_init_56 : decode prog_9_method_1_code 56 = .ok (.sipush 400, 3) := by decide +kernel
theorem dUS_init_59 : decode prog_9_method_1_code 59 = .ok (.invokespecial 34, 3) := by decide +kernel
theorem dUS_init_62 : decode prog_9_method_1_code 62 = .ok (.putfield 37, 3) := by decide +kernel
theorem dUS_init_65 : decode prog_9_method_1_code 65 = .ok (.aload_n 0, 1) := by decide +kernel
theorem dUS_init_66 : decode prog_9_method_1_code 66 = .ok (.new 32, 3) := by decide +kernel
theorem dUS_init_69 : decode prog_9_method_1_code 69 = .ok (.dup, 1) := by decide +kernel
theorem dUS_init_70 : decode prog_9_method_1_code 70 = .ok (.bipush 7, 2) := by decide +kernel
theorem dUS_init_72 : decode prog_9_method_1_code 72 = .ok (.invokespecial 34, 3) := by decide +kernel
theorem dUS_init_75 : decode prog_9_method_1_code 75 = .ok (.putfield 41, 3) := by decide +kernel
theorem dUS_init_78 : decode prog_9_method_1_code 78 = .ok (.aload_n 0, 1) := by decide +kernel
theorem dUS_init_79 : decode prog_9_method_1_code 79 = .ok (.new 44, 3) := by decide +kernel
theorem dUS_init_82 : decode prog_9_method_1_code 82 = .ok (.dup, 1) := by decide +kernel
theorem dUS_init_83 : decode prog_9_method_1_code 83 = .ok (.invokespecial 46, 3) := by decide +kernel
theorem dUS_init_86 : decode prog_9_method_1_code 86 = .ok (.putfield 47, 3) := by decide +kernel
theorem dUS_init_89 : decode prog_9_method_1_code 89 = .ok (.aload_n 0, 1) := by decide +kernel
theorem dUS_init_90 : decode prog_9_method_1_code 90 = .ok (.new 51, 3) := by decide +kernel
theorem dUS_init_93 : decode prog_9_method_1_code 93 = .ok (.dup, 1) := by decide +kernel
theorem dUS_init_94 : decode prog_9_method_1_code 94 = .ok (.invokespecial 53, 3) := by decide +kernel
theorem dUS_init_97 : decode prog_9_method_1_code 97 = .ok (.putfield 54, 3) := by decide +kernel
theorem dUS_init_100 : decode prog_9_method_1_code 100 = .ok (.aload_n 0, 1) := by decide +kernel
theorem dUS_init_101 : decode prog_9_method_1_code 101 = .ok (.new 58, 3) := by decide +kernel
theorem dUS_init_104 : decode prog_9_method_1_code 104 = .ok (.dup, 1) := by decide +kernel
theorem dUS_init_105 : decode prog_9_method_1_code 105 = .ok (.invokespecial 60, 3) := by decide +kernel
theorem dUS_init_108 : decode prog_9_method_1_code 108 = .ok (.putfield 61, 3) := by decide +kernel
theorem dUS_init_111 : decode prog_9_method_1_code 111 = .ok (.aload_n 0, 1) := by decide +kernel
theorem dUS_init_112 : decode prog_9_method_1_code 112 = .ok (.sipush 1040, 3) := by decide +kernel
theorem dUS_init_115 : decode prog_9_method_1_code 115 = .ok (.newarray .int, 2) := by decide +kernel
theorem dUS_init_117 : decode prog_9_method_1_code 117 = .ok (.putfield 65, 3) := by decide +kernel
theorem dUS_init_120 : decode prog_9_method_1_code 120 = .ok (.aload_n 0, 1) := by decide +kernel
theorem dUS_init_121 : decode prog_9_method_1_code 121 = .ok (.sipush 1040, 3) := by decide +kernel
theorem dUS_init_124 : decode prog_9_method_1_code 124 = .ok (.newarray .long, 2) := by decide +kernel
theorem dUS_init_126 : decode prog_9_method_1_code 126 = .ok (.putfield 68, 3) := by decide +kernel
theorem dUS_init_129 : decode prog_9_method_1_code 129 = .ok (.aload_n 0, 1) := by decide +kernel
theorem dUS_init_130 : decode prog_9_method_1_code 130 = .ok (.getfield 15, 3) := by decide +kernel
theorem dUS_init_133 : decode prog_9_method_1_code 133 = .ok (.iconst (-1), 1) := by decide +kernel
theorem dUS_init_134 : decode prog_9_method_1_code 134 = .ok (.invokestatic 71, 3) := by decide +kernel
theorem dUS_init_137 : decode prog_9_method_1_code 137 = .ok (.aload_n 0, 1) := by decide +kernel
theorem dUS_init_138 : decode prog_9_method_1_code 138 = .ok (.getfield 22, 3) := by decide +kernel
theorem dUS_init_141 : decode prog_9_method_1_code 141 = .ok (.iconst (-1), 1) := by decide +kernel
theorem dUS_init_142 : decode prog_9_method_1_code 142 = .ok (.invokestatic 71, 3) := by decide +kernel
theorem dUS_init_145 : decode prog_9_method_1_code 145 = .ok (.return_, 1) := by decide +kernel
theorem dUTe_init_0 : decode prog_10_method_1_code 0 = .ok (.aload_n 0, 1) := by decide +kernel
theorem dUTe_init_1 : decode prog_10_method_1_code 1 = .ok (.invokespecial 3, 3) := by decide +kernel
theorem dUTe_init_4 : decode prog_10_method_1_code 4 = .ok (.aload_n 0, 1) := by decide +kernel
theorem dUTe_init_5 : decode prog_10_method_1_code 5 = .ok (.new 9, 3) := by decide +kernel
theorem dUTe_init_8 : decode prog_10_method_1_code 8 = .ok (.dup, 1) := by decide +kernel
theorem dUTe_init_9 : decode prog_10_method_1_code 9 = .ok (.iload_n 1, 1) := by decide +kernel
theorem dUTe_init_10 : decode prog_10_method_1_code 10 = .ok (.invokespecial 11, 3) := by decide +kernel
theorem dUTe_init_13 : decode prog_10_method_1_code 13 = .ok (.putfield 14, 3) := by decide +kernel
theorem dUTe_init_16 : decode prog_10_method_1_code 16 = .ok (.aload_n 0, 1) := by decide +kernel
theorem dUTe_init_17 : decode prog_10_method_1_code 17 = .ok (.iload_n 1, 1) := by decide +kernel
theorem dUTe_init_18 : decode prog_10_method_1_code 18 = .ok (.newarray .int, 2) := by decide +kernel
theorem dUTe_init_20 : decode prog_10_method_1_code 20 = .ok (.putfield 20, 3) := by decide +kernel
theorem dUTe_init_23 : decode prog_10_method_1_code 23 = .ok (.aload_n 0, 1) := by decide +kernel
theorem dUTe_init_24 : decode prog_10_method_1_code 24 = .ok (.iload_n 1, 1) := by decide +kernel
theorem dUTe_init_25 : decode prog_10_method_1_code 25 = .ok (.newarray .int, 2) := by decide +kernel
theorem dUTe_init_27 : decode prog_10_method_1_code 27 = .ok (.putfield 24, 3) := by decide +kernel
theorem dUTe_init_30 : decode prog_10_method_1_code 30 = .ok (.aload_n 0, 1) := by decide +kernel
theorem dUTe_init_31 : decode prog_10_method_1_code 31 = .ok (.iload_n 1, 1) := by decide +kernel
theorem dUTe_init_32 : decode prog_10_method_1_code 32 = .ok (.newarray .int, 2) := by decide +kernel
theorem dUTe_init_34 : decode prog_10_method_1_code 34 = .ok (.putfield 27, 3) := by decide +kernel
theorem dUTe_init_37 : decode prog_10_method_1_code 37 = .ok (.aload_n 0, 1) := by decide +kernel
theorem dUTe_init_38 : decode prog_10_method_1_code 38 = .ok (.iload_n 1, 1) := by decide +kernel
theorem dUTe_init_39 : decode prog_10_method_1_code 39 = .ok (.newarray .int, 2) := by decide +kernel
theorem dUTe_init_41 : decode prog_10_method_1_code 41 = .ok (.putfield 30, 3) := by decide +kernel
theorem dUTe_init_44 : decode prog_10_method_1_code 44 = .ok (.return_, 1) := by decide +kernel
theorem dUTr_init_0 : decode prog_12_method_1_code 0 = .ok (.aload_n 0, 1) := by decide +kernel
theorem dUTr_init_1 : decode prog_12_method_1_code 1 = .ok (.invokespecial 3, 3) := by decide +kernel
theorem dUTr_init_4 : decode prog_12_method_1_code 4 = .ok (.aload_n 0, 1) := by decide +kernel
theorem dUTr_init_5 : decode prog_12_method_1_code 5 = .ok (.new 9, 3) := by decide +kernel
theorem dUTr_init_8 : decode prog_12_method_1_code 8 = .ok (.dup, 1) := by decide +kernel
theorem dUTr_init_9 : decode prog_12_method_1_code 9 = .ok (.bipush 120, 2) := by decide +kernel
theorem dUTr_init_11 : decode prog_12_method_1_code 11 = .ok (.invokespecial 13, 3) := by decide +kernel
theorem dUTr_init_14 : decode prog_12_method_1_code 14 = .ok (.putfield 16, 3) := by decide +kernel
theorem dUTr_init_17 : decode prog_12_method_1_code 17 = .ok (.aload_n 0, 1) := by decide +kernel
theorem dUTr_init_18 : decode prog_12_method_1_code 18 = .ok (.bipush 120, 2) := by decide +kernel
theorem dUTr_init_20 : decode prog_12_method_1_code 20 = .ok (.newarray .int, 2) := by decide +kernel
theorem dUTr_init_22 : decode prog_12_method_1_code 22 = .ok (.putfield 20, 3) := by decide +kernel
theorem dUTr_init_25 : decode prog_12_method_1_code 25 = .ok (.aload_n 0, 1) := by decide +kernel
theorem dUTr_init_26 : decode prog_12_method_1_code 26 = .ok (.bipush 120, 2) := by decide +kernel
theorem dUTr_init_28 : decode prog_12_method_1_code 28 = .ok (.newarray .int, 2) := by decide +kernel
theorem dUTr_init_30 : decode prog_12_method_1_code 30 = .ok (.putfield 24, 3) := by decide +kernel
theorem dUTr_init_33 : decode prog_12_method_1_code 33 = .ok (.aload_n 0, 1) := by decide +kernel
theorem dUTr_init_34 : decode prog_12_method_1_code 34 = .ok (.bipush 120, 2) := by decide +kernel
theorem dUTr_init_36 : decode prog_12_method_1_code 36 = .ok (.newarray .int, 2) := by decide +kernel
theorem dUTr_init_38 : decode prog_12_method_1_code 38 = .ok (.putfield 27, 3) := by decide +kernel
theorem dUTr_init_41 : decode prog_12_method_1_code 41 = .ok (.aload_n 0, 1) := by decide +kernel
theorem dUTr_init_42 : decode prog_12_method_1_code 42 = .ok (.bipush 120, 2) := by decide +kernel
theorem dUTr_init_44 : decode prog_12_method_1_code 44 = .ok (.newarray .int, 2) := by decide +kernel
theorem dUTr_init_46 : decode prog_12_method_1_code 46 = .ok (.putfield 30, 3) := by decide +kernel
theorem dUTr_init_49 : decode prog_12_method_1_code 49 = .ok (.aload_n 0, 1) := by decide +kernel
theorem dUTr_init_50 : decode prog_12_method_1_code 50 = .ok (.bipush 120, 2) := by decide +kernel
theorem dUTr_init_52 : decode prog_12_method_1_code 52 = .ok (.newarray .int, 2) := by decide +kernel
theorem dUTr_init_54 : decode prog_12_method_1_code 54 = .ok (.putfield 33, 3) := by decide +kernel
theorem dUTr_init_57 : decode prog_12_method_1_code 57 = .ok (.return_, 1) := by decide +kernel
theorem dUX_init_0 : decode prog_11_method_1_code 0 = .ok (.aload_n 0, 1) := by decide +kernel
theorem dUX_init_1 : decode prog_11_method_1_code 1 = .ok (.invokespecial 3, 3) := by decide +kernel
theorem dUX_init_4 : decode prog_11_method_1_code 4 = .ok (.aload_n 0, 1) := by decide +kernel
theorem dUX_init_5 : decode prog_11_method_1_code 5 = .ok (.sipush 600, 3) := by decide +kernel
theorem dUX_init_8 : decode prog_11_method_1_code 8 = .ok (.newarray .int, 2) := by decide +kernel
theorem dUX_init_10 : decode prog_11_method_1_code 10 = .ok (.putfield 11, 3) := by decide +kernel
theorem dUX_init_13 : decode prog_11_method_1_code 13 = .ok (.aload_n 0, 1) := by decide +kernel
theorem dUX_init_14 : decode prog_11_method_1_code 14 = .ok (.bipush 60, 2) := by decide +kernel
theorem dUX_init_16 : decode prog_11_method_1_code 16 = .ok (.newarray .int, 2) := by decide +kernel
theorem dUX_init_18 : decode prog_11_method_1_code 18 = .ok (.putfield 15, 3) := by decide +kernel
theorem dUX_init_21 : decode prog_11_method_1_code 21 = .ok (.return_, 1) := by decide +kernel
theorem dU_init_0 : decode prog_1_method_1_code 0 = .ok (.aload_n 0, 1) := by decide +kernel
theorem dU_init_1 : decode prog_1_method_1_code 1 = .ok (.invokespecial 1, 3) := by decide +kernel
theorem dU_init_4 : decode prog_1_method_1_code 4 = .ok (.aload_n 0, 1) := by decide +kernel
theorem dU_init_5 : decode prog_1_method_1_code 5 = .ok (.new 7, 3) := by decide +kernel
theorem dU_init_8 : decode prog_1_method_1_code 8 = .ok (.dup, 1) := by decide +kernel
theorem dU_init_9 : decode prog_1_method_1_code 9 = .ok (.invokespecial 9, 3) := by decide +kernel
theorem dU_init_12 : decode prog_1_method_1_code 12 = .ok (.putfield 10, 3) := by decide +kernel
theorem dU_init_15 : decode prog_1_method_1_code 15 = .ok (.aload_n 0, 1) := by decide +kernel
theorem dU_init_16 : decode prog_1_method_1_code 16 = .ok (.new 16, 3) := by decide +kernel
theorem dU_init_19 : decode prog_1_method_1_code 19 = .ok (.dup, 1) := by decide +kernel
theorem dU_init_20 : decode prog_1_method_1_code 20 = .ok (.invokespecial 18, 3) := by decide +kernel
theorem dU_init_23 : decode prog_1_method_1_code 23 = .ok (.putfield 19, 3) := by decide +kernel
theorem dU_init_26 : decode prog_1_method_1_code 26 = .ok (.aload_n 0, 1) := by decide +kernel
theorem dU_init_27 : decode prog_1_method_1_code 27 = .ok (.new 23, 3) := by decide +kernel
theorem dU_init_30 : decode prog_1_method_1_code 30 = .ok (.dup, 1) := by decide +kernel
theorem dU_init_31 : decode prog_1_method_1_code 31 = .ok (.invokespecial 25, 3) := by decide +kernel
theorem dU_init_34 : decode prog_1_method_1_code 34 = .ok (.putfield 26, 3) := by decide +kernel
theorem dU_init_37 : decode prog_1_method_1_code 37 = .ok (.aload_n 0, 1) := by decide +kernel
theorem dU_init_38 : decode prog_1_method_1_code 38 = .ok (.new 30, 3) := by decide +kernel
theorem dU_init_41 : decode prog_1_method_1_code 41 = .ok (.dup, 1) := by decide +kernel
theorem dU_init_42 : decode prog_1_method_1_code 42 = .ok (.invokespecial 32, 3) := by decide +kernel
theorem dU_init_45 : decode prog_1_method_1_code 45 = .ok (.putfield 33, 3) := by decide +kernel
theorem dU_init_48 : decode prog_1_method_1_code 48 = .ok (.aload_n 0, 1) := by decide +kernel
theorem dU_init_49 : decode prog_1_method_1_code 49 = .ok (.new 37, 3) := by decide +kernel
theorem dU_init_52 : decode prog_1_method_1_code 52 = .ok (.dup, 1) := by decide +kernel
theorem dU_init_53 : decode prog_1_method_1_code 53 = .ok (.invokespecial 39, 3) := by decide +kernel
theorem dU_init_56 : decode prog_1_method_1_code 56 = .ok (.putfield 40, 3) := by decide +kernel
theorem dU_init_59 : decode prog_1_method_1_code 59 = .ok (.aload_n 0, 1) := by decide +kernel
theorem dU_init_60 : decode prog_1_method_1_code 60 = .ok (.new 44, 3) := by decide +kernel
theorem dU_init_63 : decode prog_1_method_1_code 63 = .ok (.dup, 1) := by decide +kernel
theorem dU_init_64 : decode prog_1_method_1_code 64 = .ok (.invokespecial 46, 3) := by decide +kernel
theorem dU_init_67 : decode prog_1_method_1_code 67 = .ok (.putfield 47, 3) := by decide +kernel
theorem dU_init_70 : decode prog_1_method_1_code 70 = .ok (.return_, 1) := by decide +kernel
theorem wk_2 : (Jvm.Cond.initialized "UnitsWrong$State") ∈ bz_T := bz_in 2 (by decide +kernel) rfl
theorem wk_3 : (Jvm.Cond.initialized "UnitsWrong$Tellings") ∈ bz_T := bz_in 3 (by decide +kernel) rfl
theorem wk_4 : (Jvm.Cond.initialized "UnitsWrong$ByDay") ∈ bz_T := bz_in 4 (by decide +kernel) rfl
theorem wk_5 : (Jvm.Cond.initialized "UnitsWrong$Trades") ∈ bz_T := bz_in 5 (by decide +kernel) rfl
theorem wk_6 : (Jvm.Cond.initialized "UnitsWrong$Deals") ∈ bz_T := bz_in 6 (by decide +kernel) rfl
theorem wk_7 : (Jvm.Cond.initialized "UnitsWrong$Laws") ∈ bz_T := bz_in 7 (by decide +kernel) rfl
theorem wk_9 : (Jvm.Cond.initialized "UnitsWrong$Text") ∈ bz_T := bz_in 9 (by decide +kernel) rfl
theorem wk_10 : (Jvm.Cond.initialized "UnitsWrong$Course") ∈ bz_T := bz_in 10 (by decide +kernel) rfl
theorem wk_11 : (Jvm.Cond.initialized "UnitsWrong$Claims") ∈ bz_T := bz_in 11 (by decide +kernel) rfl
theorem wk_12 : (Jvm.Cond.initialized "UnitsWrong$Settlement") ∈ bz_T := bz_in 12 (by decide +kernel) rfl
theorem wk_13 : (Jvm.Cond.initialized "UnitsWrong$Audits") ∈ bz_T := bz_in 13 (by decide +kernel) rfl
theorem wk_27 : (Jvm.Cond.methodLink "UnitsWrong" (1 : Nat) ({ cls := "java/lang/Object", name := "<init>", desc := "()V" } : Jvm.MethodName)) ∈ bz_T := bz_in 27 (by decide +kernel) rfl
theorem wk_28 : (Jvm.Cond.instanceMethod ({ cls := "java/lang/Object", name := "<init>", desc := "()V" } : Jvm.MethodName)) ∈ bz_T := bz_in 28 (by decide +kernel) rfl
theorem wk_29 : (Jvm.Cond.code ({ cls := "java/lang/Object", name := "<init>", desc := "()V" } : Jvm.MethodName) object_method_1_code (1 : Nat) (Option.none : Option Jvm.ClassFile.FieldType)) ∈ bz_T := bz_in 29 (by decide +kernel) rfl
theorem wk_30 : (Jvm.Cond.classLink "UnitsWrong" (7 : Nat) "UnitsWrong$State") ∈ bz_T := bz_in 30 (by decide +kernel) rfl
theorem wk_31 : (Jvm.Cond.instantiable "UnitsWrong$State" (18 : Nat)) ∈ bz_T := bz_in 31 (by decide +kernel) rfl
theorem wk_32 : (Jvm.Cond.methodLink "UnitsWrong" (9 : Nat) ({ cls := "UnitsWrong$State", name := "<init>", desc := "()V" } : Jvm.MethodName)) ∈ bz_T := bz_in 32 (by decide +kernel) rfl
theorem wk_33 : (Jvm.Cond.instanceMethod ({ cls := "UnitsWrong$State", name := "<init>", desc := "()V" } : Jvm.MethodName)) ∈ bz_T := bz_in 33 (by decide +kernel) rfl
theorem wk_35 : (Jvm.Cond.methodLink "UnitsWrong$State" (3 : Nat) ({ cls := "java/lang/Object", name := "<init>", desc := "()V" } : Jvm.MethodName)) ∈ bz_T := bz_in 35 (by decide +kernel) rfl
theorem wk_36 : (Jvm.Cond.classLink "UnitsWrong$State" (32 : Nat) "UnitsWrong$Tellings") ∈ bz_T := bz_in 36 (by decide +kernel) rfl
theorem wk_37 : (Jvm.Cond.instantiable "UnitsWrong$Tellings" (5 : Nat)) ∈ bz_T := bz_in 37 (by decide +kernel) rfl
theorem wk_38 : (Jvm.Cond.methodLink "UnitsWrong$State" (34 : Nat) ({ cls := "UnitsWrong$Tellings", name := "<init>", desc := "(I)V" } : Jvm.MethodName)) ∈ bz_T := bz_in 38 (by decide +kernel) rfl
theorem wk_39 : (Jvm.Cond.instanceMethod ({ cls := "UnitsWrong$Tellings", name := "<init>", desc := "(I)V" } : Jvm.MethodName)) ∈ bz_T := bz_in 39 (by decide +kernel) rfl
theorem wk_41 : (Jvm.Cond.methodLink "UnitsWrong$Tellings" (3 : Nat) ({ cls := "java/lang/Object", name := "<init>", desc := "()V" } : Jvm.MethodName)) ∈ bz_T := bz_in 41 (by decide +kernel) rfl
theorem wk_42 : (Jvm.Cond.classLink "UnitsWrong$Tellings" (9 : Nat) "UnitsWrong$ByDay") ∈ bz_T := bz_in 42 (by decide +kernel) rfl
theorem wk_43 : (Jvm.Cond.instantiable "UnitsWrong$ByDay" (3 : Nat)) ∈ bz_T := bz_in 43 (by decide +kernel) rfl
theorem wk_44 : (Jvm.Cond.methodLink "UnitsWrong$Tellings" (11 : Nat) ({ cls := "UnitsWrong$ByDay", name := "<init>", desc := "(I)V" } : Jvm.MethodName)) ∈ bz_T := bz_in 44 (by decide +kernel) rfl
theorem wk_45 : (Jvm.Cond.instanceMethod ({ cls := "UnitsWrong$ByDay", name := "<init>", desc := "(I)V" } : Jvm.MethodName)) ∈ bz_T := bz_in 45 (by decide +kernel) rfl
theorem wk_47 : (Jvm.Cond.methodLink "UnitsWrong$ByDay" (3 : Nat) ({ cls := "java/lang/Object", name := "<init>", desc := "()V" } : Jvm.MethodName)) ∈ bz_T := bz_in 47 (by decide +kernel) rfl
theorem wk_48 : (Jvm.Cond.fieldLink "UnitsWrong$ByDay" (9 : Nat) "UnitsWrong$ByDay" "day" "[I") ∈ bz_T := bz_in 48 (by decide +kernel) rfl
theorem wk_54 : (Jvm.Cond.fieldLink "UnitsWrong$ByDay" (15 : Nat) "UnitsWrong$ByDay" "order" "[I") ∈ bz_T := bz_in 54 (by decide +kernel) rfl
theorem wk_75 : (Jvm.Cond.fieldLink "UnitsWrong$Tellings" (14 : Nat) "UnitsWrong$Tellings" "byDay" "LUnitsWrong$ByDay;") ∈ bz_T := bz_in 75 (by decide +kernel) rfl
theorem wk_79 : (Jvm.Cond.fieldLink "UnitsWrong$Tellings" (20 : Nat) "UnitsWrong$Tellings" "subject" "[I") ∈ bz_T := bz_in 79 (by decide +kernel) rfl
theorem wk_81 : (Jvm.Cond.fieldLink "UnitsWrong$Tellings" (24 : Nat) "UnitsWrong$Tellings" "number" "[I") ∈ bz_T := bz_in 81 (by decide +kernel) rfl
theorem wk_83 : (Jvm.Cond.fieldLink "UnitsWrong$Tellings" (27 : Nat) "UnitsWrong$Tellings" "value" "[I") ∈ bz_T := bz_in 83 (by decide +kernel) rfl
theorem wk_86 : (Jvm.Cond.fieldLink "UnitsWrong$Tellings" (30 : Nat) "UnitsWrong$Tellings" "made" "[I") ∈ bz_T := bz_in 86 (by decide +kernel) rfl
theorem wk_99 : (Jvm.Cond.classLink "UnitsWrong$State" (44 : Nat) "UnitsWrong$Trades") ∈ bz_T := bz_in 99 (by decide +kernel) rfl
theorem wk_100 : (Jvm.Cond.instantiable "UnitsWrong$Trades" (6 : Nat)) ∈ bz_T := bz_in 100 (by decide +kernel) rfl
theorem wk_102 : (Jvm.Cond.instanceMethod ({ cls := "UnitsWrong$Trades", name := "<init>", desc := "()V" } : Jvm.MethodName)) ∈ bz_T := bz_in 102 (by decide +kernel) rfl
theorem wk_104 : (Jvm.Cond.methodLink "UnitsWrong$Trades" (3 : Nat) ({ cls := "java/lang/Object", name := "<init>", desc := "()V" } : Jvm.MethodName)) ∈ bz_T := bz_in 104 (by decide +kernel) rfl
theorem wk_105 : (Jvm.Cond.classLink "UnitsWrong$Trades" (9 : Nat) "UnitsWrong$ByDay") ∈ bz_T := bz_in 105 (by decide +kernel) rfl
theorem wk_106 : (Jvm.Cond.methodLink "UnitsWrong$Trades" (13 : Nat) ({ cls := "UnitsWrong$ByDay", name := "<init>", desc := "(I)V" } : Jvm.MethodName)) ∈ bz_T := bz_in 106 (by decide +kernel) rfl
theorem wk_107 : (Jvm.Cond.fieldLink "UnitsWrong$Trades" (16 : Nat) "UnitsWrong$Trades" "byDay" "LUnitsWrong$ByDay;") ∈ bz_T := bz_in 107 (by decide +kernel) rfl
theorem wk_110 : (Jvm.Cond.fieldLink "UnitsWrong$Trades" (20 : Nat) "UnitsWrong$Trades" "fund" "[I") ∈ bz_T := bz_in 110 (by decide +kernel) rfl
theorem wk_112 : (Jvm.Cond.fieldLink "UnitsWrong$Trades" (24 : Nat) "UnitsWrong$Trades" "paper" "[I") ∈ bz_T := bz_in 112 (by decide +kernel) rfl
theorem wk_114 : (Jvm.Cond.fieldLink "UnitsWrong$Trades" (27 : Nat) "UnitsWrong$Trades" "pieces" "[I") ∈ bz_T := bz_in 114 (by decide +kernel) rfl
theorem wk_117 : (Jvm.Cond.fieldLink "UnitsWrong$Trades" (30 : Nat) "UnitsWrong$Trades" "pence" "[I") ∈ bz_T := bz_in 117 (by decide +kernel) rfl
theorem wk_120 : (Jvm.Cond.fieldLink "UnitsWrong$Trades" (33 : Nat) "UnitsWrong$Trades" "made" "[I") ∈ bz_T := bz_in 120 (by decide +kernel) rfl
theorem wk_135 : (Jvm.Cond.classLink "UnitsWrong$State" (51 : Nat) "UnitsWrong$Deals") ∈ bz_T := bz_in 135 (by decide +kernel) rfl
theorem wk_136 : (Jvm.Cond.instantiable "UnitsWrong$Deals" (9 : Nat)) ∈ bz_T := bz_in 136 (by decide +kernel) rfl
theorem wk_138 : (Jvm.Cond.instanceMethod ({ cls := "UnitsWrong$Deals", name := "<init>", desc := "()V" } : Jvm.MethodName)) ∈ bz_T := bz_in 138 (by decide +kernel) rfl
theorem wk_140 : (Jvm.Cond.methodLink "UnitsWrong$Deals" (3 : Nat) ({ cls := "java/lang/Object", name := "<init>", desc := "()V" } : Jvm.MethodName)) ∈ bz_T := bz_in 140 (by decide +kernel) rfl
theorem wk_141 : (Jvm.Cond.classLink "UnitsWrong$Deals" (9 : Nat) "UnitsWrong$ByDay") ∈ bz_T := bz_in 141 (by decide +kernel) rfl
theorem wk_142 : (Jvm.Cond.methodLink "UnitsWrong$Deals" (13 : Nat) ({ cls := "UnitsWrong$ByDay", name := "<init>", desc := "(I)V" } : Jvm.MethodName)) ∈ bz_T := bz_in 142 (by decide +kernel) rfl
theorem wk_143 : (Jvm.Cond.fieldLink "UnitsWrong$Deals" (16 : Nat) "UnitsWrong$Deals" "byDay" "LUnitsWrong$ByDay;") ∈ bz_T := bz_in 143 (by decide +kernel) rfl
theorem wk_147 : (Jvm.Cond.fieldLink "UnitsWrong$Deals" (20 : Nat) "UnitsWrong$Deals" "who" "[I") ∈ bz_T := bz_in 147 (by decide +kernel) rfl
theorem wk_151 : (Jvm.Cond.fieldLink "UnitsWrong$Deals" (24 : Nat) "UnitsWrong$Deals" "fund" "[I") ∈ bz_T := bz_in 151 (by decide +kernel) rfl
theorem wk_155 : (Jvm.Cond.fieldLink "UnitsWrong$Deals" (27 : Nat) "UnitsWrong$Deals" "wish" "[I") ∈ bz_T := bz_in 155 (by decide +kernel) rfl
theorem wk_156 : (Jvm.Cond.fieldLink "UnitsWrong$Deals" (30 : Nat) "UnitsWrong$Deals" "units" "[I") ∈ bz_T := bz_in 156 (by decide +kernel) rfl
theorem wk_160 : (Jvm.Cond.fieldLink "UnitsWrong$Deals" (33 : Nat) "UnitsWrong$Deals" "booked" "[J") ∈ bz_T := bz_in 160 (by decide +kernel) rfl
theorem wk_164 : (Jvm.Cond.fieldLink "UnitsWrong$Deals" (37 : Nat) "UnitsWrong$Deals" "right" "[J") ∈ bz_T := bz_in 164 (by decide +kernel) rfl
theorem wk_168 : (Jvm.Cond.fieldLink "UnitsWrong$Deals" (40 : Nat) "UnitsWrong$Deals" "held" "[I") ∈ bz_T := bz_in 168 (by decide +kernel) rfl
theorem wk_170 : (Jvm.Cond.fieldLink "UnitsWrong$Deals" (43 : Nat) "UnitsWrong$Deals" "all" "[I") ∈ bz_T := bz_in 170 (by decide +kernel) rfl
theorem wk_191 : (Jvm.Cond.classLink "UnitsWrong$State" (58 : Nat) "UnitsWrong$Laws") ∈ bz_T := bz_in 191 (by decide +kernel) rfl
theorem wk_192 : (Jvm.Cond.instantiable "UnitsWrong$Laws" (3 : Nat)) ∈ bz_T := bz_in 192 (by decide +kernel) rfl
theorem wk_194 : (Jvm.Cond.instanceMethod ({ cls := "UnitsWrong$Laws", name := "<init>", desc := "()V" } : Jvm.MethodName)) ∈ bz_T := bz_in 194 (by decide +kernel) rfl
theorem wk_196 : (Jvm.Cond.methodLink "UnitsWrong$Laws" (3 : Nat) ({ cls := "java/lang/Object", name := "<init>", desc := "()V" } : Jvm.MethodName)) ∈ bz_T := bz_in 196 (by decide +kernel) rfl
theorem wk_197 : (Jvm.Cond.fieldLink "UnitsWrong$Laws" (11 : Nat) "UnitsWrong$Laws" "taken" "[I") ∈ bz_T := bz_in 197 (by decide +kernel) rfl
theorem wk_198 : (Jvm.Cond.fieldLink "UnitsWrong$Laws" (15 : Nat) "UnitsWrong$Laws" "rules" "[I") ∈ bz_T := bz_in 198 (by decide +kernel) rfl
theorem wk_208 : (Jvm.Cond.methodLink "UnitsWrong$State" (71 : Nat) ({ cls := "java/util/Arrays", name := "fill", desc := "([II)V" } : Jvm.MethodName)) ∈ bz_T := bz_in 208 (by decide +kernel) rfl
theorem wk_209 : (Jvm.Cond.static ({ cls := "java/util/Arrays", name := "fill", desc := "([II)V" } : Jvm.MethodName)) ∈ bz_T := bz_in 209 (by decide +kernel) rfl
theorem wk_211 : (Jvm.Cond.fieldLink "UnitsWrong$State" (9 : Nat) "UnitsWrong$State" "startCash" "[J") ∈ bz_T := bz_in 211 (by decide +kernel) rfl
theorem wk_214 : (Jvm.Cond.fieldLink "UnitsWrong$State" (15 : Nat) "UnitsWrong$State" "foundDay" "[I") ∈ bz_T := bz_in 214 (by decide +kernel) rfl
theorem wk_217 : (Jvm.Cond.fieldLink "UnitsWrong$State" (19 : Nat) "UnitsWrong$State" "zone" "[I") ∈ bz_T := bz_in 217 (by decide +kernel) rfl
theorem wk_219 : (Jvm.Cond.fieldLink "UnitsWrong$State" (22 : Nat) "UnitsWrong$State" "goneDay" "[I") ∈ bz_T := bz_in 219 (by decide +kernel) rfl
theorem wk_221 : (Jvm.Cond.fieldLink "UnitsWrong$State" (25 : Nat) "UnitsWrong$State" "currency" "[I") ∈ bz_T := bz_in 221 (by decide +kernel) rfl
theorem wk_224 : (Jvm.Cond.fieldLink "UnitsWrong$State" (28 : Nat) "UnitsWrong$State" "holidays" "[Z") ∈ bz_T := bz_in 224 (by decide +kernel) rfl
theorem wk_226 : (Jvm.Cond.fieldLink "UnitsWrong$State" (37 : Nat) "UnitsWrong$State" "tellings" "LUnitsWrong$Tellings;") ∈ bz_T := bz_in 226 (by decide +kernel) rfl
theorem wk_229 : (Jvm.Cond.fieldLink "UnitsWrong$State" (41 : Nat) "UnitsWrong$State" "suspects" "LUnitsWrong$Tellings;") ∈ bz_T := bz_in 229 (by decide +kernel) rfl
theorem wk_233 : (Jvm.Cond.fieldLink "UnitsWrong$State" (47 : Nat) "UnitsWrong$State" "trades" "LUnitsWrong$Trades;") ∈ bz_T := bz_in 233 (by decide +kernel) rfl
theorem wk_236 : (Jvm.Cond.fieldLink "UnitsWrong$State" (54 : Nat) "UnitsWrong$State" "deals" "LUnitsWrong$Deals;") ∈ bz_T := bz_in 236 (by decide +kernel) rfl
theorem wk_240 : (Jvm.Cond.fieldLink "UnitsWrong$State" (61 : Nat) "UnitsWrong$State" "laws" "LUnitsWrong$Laws;") ∈ bz_T := bz_in 240 (by decide +kernel) rfl
theorem wk_244 : (Jvm.Cond.fieldLink "UnitsWrong$State" (65 : Nat) "UnitsWrong$State" "bookedPrice" "[I") ∈ bz_T := bz_in 244 (by decide +kernel) rfl
theorem wk_247 : (Jvm.Cond.fieldLink "UnitsWrong$State" (68 : Nat) "UnitsWrong$State" "bookedFee" "[J") ∈ bz_T := bz_in 247 (by decide +kernel) rfl
theorem wk_299 : (Jvm.Cond.classLink "UnitsWrong" (16 : Nat) "UnitsWrong$Text") ∈ bz_T := bz_in 299 (by decide +kernel) rfl
theorem wk_300 : (Jvm.Cond.instantiable "UnitsWrong$Text" (8 : Nat)) ∈ bz_T := bz_in 300 (by decide +kernel) rfl
theorem wk_302 : (Jvm.Cond.instanceMethod ({ cls := "UnitsWrong$Text", name := "<init>", desc := "()V" } : Jvm.MethodName)) ∈ bz_T := bz_in 302 (by decide +kernel) rfl
theorem wk_304 : (Jvm.Cond.methodLink "UnitsWrong$Text" (3 : Nat) ({ cls := "java/lang/Object", name := "<init>", desc := "()V" } : Jvm.MethodName)) ∈ bz_T := bz_in 304 (by decide +kernel) rfl
theorem wk_305 : (Jvm.Cond.fieldLink "UnitsWrong$Text" (11 : Nat) "UnitsWrong$Text" "bytes" "[I") ∈ bz_T := bz_in 305 (by decide +kernel) rfl
theorem wk_306 : (Jvm.Cond.fieldLink "UnitsWrong$Text" (15 : Nat) "UnitsWrong$Text" "told" "[I") ∈ bz_T := bz_in 306 (by decide +kernel) rfl
theorem wk_332 : (Jvm.Cond.classLink "UnitsWrong" (23 : Nat) "UnitsWrong$Course") ∈ bz_T := bz_in 332 (by decide +kernel) rfl
theorem wk_333 : (Jvm.Cond.instantiable "UnitsWrong$Course" (19 : Nat)) ∈ bz_T := bz_in 333 (by decide +kernel) rfl
theorem wk_335 : (Jvm.Cond.instanceMethod ({ cls := "UnitsWrong$Course", name := "<init>", desc := "()V" } : Jvm.MethodName)) ∈ bz_T := bz_in 335 (by decide +kernel) rfl
theorem wk_337 : (Jvm.Cond.methodLink "UnitsWrong$Course" (3 : Nat) ({ cls := "java/lang/Object", name := "<init>", desc := "()V" } : Jvm.MethodName)) ∈ bz_T := bz_in 337 (by decide +kernel) rfl
theorem wk_338 : (Jvm.Cond.fieldLink "UnitsWrong$Course" (9 : Nat) "UnitsWrong$Course" "bookedCash" "[J") ∈ bz_T := bz_in 338 (by decide +kernel) rfl
theorem wk_341 : (Jvm.Cond.fieldLink "UnitsWrong$Course" (15 : Nat) "UnitsWrong$Course" "rightCash" "[J") ∈ bz_T := bz_in 341 (by decide +kernel) rfl
theorem wk_344 : (Jvm.Cond.fieldLink "UnitsWrong$Course" (18 : Nat) "UnitsWrong$Course" "rightPrice" "[I") ∈ bz_T := bz_in 344 (by decide +kernel) rfl
theorem wk_347 : (Jvm.Cond.fieldLink "UnitsWrong$Course" (22 : Nat) "UnitsWrong$Course" "rightFee" "[J") ∈ bz_T := bz_in 347 (by decide +kernel) rfl
theorem wk_349 : (Jvm.Cond.fieldLink "UnitsWrong$Course" (25 : Nat) "UnitsWrong$Course" "pieces" "[I") ∈ bz_T := bz_in 349 (by decide +kernel) rfl
theorem wk_350 : (Jvm.Cond.fieldLink "UnitsWrong$Course" (28 : Nat) "UnitsWrong$Course" "held" "[I") ∈ bz_T := bz_in 350 (by decide +kernel) rfl
theorem wk_351 : (Jvm.Cond.fieldLink "UnitsWrong$Course" (31 : Nat) "UnitsWrong$Course" "all" "[I") ∈ bz_T := bz_in 351 (by decide +kernel) rfl
theorem wk_352 : (Jvm.Cond.fieldLink "UnitsWrong$Course" (34 : Nat) "UnitsWrong$Course" "price" "[I") ∈ bz_T := bz_in 352 (by decide +kernel) rfl
theorem wk_353 : (Jvm.Cond.fieldLink "UnitsWrong$Course" (37 : Nat) "UnitsWrong$Course" "rate" "[I") ∈ bz_T := bz_in 353 (by decide +kernel) rfl
theorem wk_354 : (Jvm.Cond.fieldLink "UnitsWrong$Course" (40 : Nat) "UnitsWrong$Course" "dividend" "[I") ∈ bz_T := bz_in 354 (by decide +kernel) rfl
theorem wk_355 : (Jvm.Cond.fieldLink "UnitsWrong$Course" (43 : Nat) "UnitsWrong$Course" "split" "[I") ∈ bz_T := bz_in 355 (by decide +kernel) rfl
theorem wk_362 : (Jvm.Cond.fieldLink "UnitsWrong$Course" (46 : Nat) "UnitsWrong$Course" "walkedTo" "I") ∈ bz_T := bz_in 362 (by decide +kernel) rfl
theorem wk_403 : (Jvm.Cond.classLink "UnitsWrong" (30 : Nat) "UnitsWrong$Claims") ∈ bz_T := bz_in 403 (by decide +kernel) rfl
theorem wk_404 : (Jvm.Cond.instantiable "UnitsWrong$Claims" (5 : Nat)) ∈ bz_T := bz_in 404 (by decide +kernel) rfl
theorem wk_406 : (Jvm.Cond.instanceMethod ({ cls := "UnitsWrong$Claims", name := "<init>", desc := "()V" } : Jvm.MethodName)) ∈ bz_T := bz_in 406 (by decide +kernel) rfl
theorem wk_408 : (Jvm.Cond.methodLink "UnitsWrong$Claims" (3 : Nat) ({ cls := "java/lang/Object", name := "<init>", desc := "()V" } : Jvm.MethodName)) ∈ bz_T := bz_in 408 (by decide +kernel) rfl
theorem wk_409 : (Jvm.Cond.fieldLink "UnitsWrong$Claims" (9 : Nat) "UnitsWrong$Claims" "lost" "[J") ∈ bz_T := bz_in 409 (by decide +kernel) rfl
theorem wk_411 : (Jvm.Cond.fieldLink "UnitsWrong$Claims" (15 : Nat) "UnitsWrong$Claims" "gained" "[J") ∈ bz_T := bz_in 411 (by decide +kernel) rfl
theorem wk_413 : (Jvm.Cond.fieldLink "UnitsWrong$Claims" (18 : Nat) "UnitsWrong$Claims" "balances" "[J") ∈ bz_T := bz_in 413 (by decide +kernel) rfl
theorem wk_428 : (Jvm.Cond.classLink "UnitsWrong" (37 : Nat) "UnitsWrong$Settlement") ∈ bz_T := bz_in 428 (by decide +kernel) rfl
theorem wk_429 : (Jvm.Cond.instantiable "UnitsWrong$Settlement" (9 : Nat)) ∈ bz_T := bz_in 429 (by decide +kernel) rfl
theorem wk_431 : (Jvm.Cond.instanceMethod ({ cls := "UnitsWrong$Settlement", name := "<init>", desc := "()V" } : Jvm.MethodName)) ∈ bz_T := bz_in 431 (by decide +kernel) rfl
theorem wk_433 : (Jvm.Cond.methodLink "UnitsWrong$Settlement" (5 : Nat) ({ cls := "java/lang/Object", name := "<init>", desc := "()V" } : Jvm.MethodName)) ∈ bz_T := bz_in 433 (by decide +kernel) rfl
theorem wk_434 : (Jvm.Cond.fieldLink "UnitsWrong$Settlement" (11 : Nat) "UnitsWrong$Settlement" "payer" "[I") ∈ bz_T := bz_in 434 (by decide +kernel) rfl
theorem wk_436 : (Jvm.Cond.fieldLink "UnitsWrong$Settlement" (15 : Nat) "UnitsWrong$Settlement" "getter" "[I") ∈ bz_T := bz_in 436 (by decide +kernel) rfl
theorem wk_438 : (Jvm.Cond.fieldLink "UnitsWrong$Settlement" (18 : Nat) "UnitsWrong$Settlement" "amount" "[J") ∈ bz_T := bz_in 438 (by decide +kernel) rfl
theorem wk_442 : (Jvm.Cond.fieldLink "UnitsWrong$Settlement" (22 : Nat) "UnitsWrong$Settlement" "party" "[I") ∈ bz_T := bz_in 442 (by decide +kernel) rfl
theorem wk_443 : (Jvm.Cond.fieldLink "UnitsWrong$Settlement" (25 : Nat) "UnitsWrong$Settlement" "owned" "[J") ∈ bz_T := bz_in 443 (by decide +kernel) rfl
theorem wk_444 : (Jvm.Cond.fieldLink "UnitsWrong$Settlement" (28 : Nat) "UnitsWrong$Settlement" "sums" "[J") ∈ bz_T := bz_in 444 (by decide +kernel) rfl
theorem wk_445 : (Jvm.Cond.fieldLink "UnitsWrong$Settlement" (31 : Nat) "UnitsWrong$Settlement" "most" "[I") ∈ bz_T := bz_in 445 (by decide +kernel) rfl
theorem wk_466 : (Jvm.Cond.classLink "UnitsWrong" (44 : Nat) "UnitsWrong$Audits") ∈ bz_T := bz_in 466 (by decide +kernel) rfl
theorem wk_467 : (Jvm.Cond.instantiable "UnitsWrong$Audits" (8 : Nat)) ∈ bz_T := bz_in 467 (by decide +kernel) rfl
theorem wk_469 : (Jvm.Cond.instanceMethod ({ cls := "UnitsWrong$Audits", name := "<init>", desc := "()V" } : Jvm.MethodName)) ∈ bz_T := bz_in 469 (by decide +kernel) rfl
theorem wk_471 : (Jvm.Cond.methodLink "UnitsWrong$Audits" (3 : Nat) ({ cls := "java/lang/Object", name := "<init>", desc := "()V" } : Jvm.MethodName)) ∈ bz_T := bz_in 471 (by decide +kernel) rfl
theorem wk_472 : (Jvm.Cond.fieldLink "UnitsWrong$Audits" (11 : Nat) "UnitsWrong$Audits" "fund" "[I") ∈ bz_T := bz_in 472 (by decide +kernel) rfl
theorem wk_473 : (Jvm.Cond.fieldLink "UnitsWrong$Audits" (15 : Nat) "UnitsWrong$Audits" "day" "[I") ∈ bz_T := bz_in 473 (by decide +kernel) rfl
theorem wk_474 : (Jvm.Cond.fieldLink "UnitsWrong$Audits" (18 : Nat) "UnitsWrong$Audits" "price" "[I") ∈ bz_T := bz_in 474 (by decide +kernel) rfl
theorem wk_501 : (Jvm.Cond.fieldLink "UnitsWrong" (10 : Nat) "UnitsWrong" "state" "LUnitsWrong$State;") ∈ bz_T := bz_in 501 (by decide +kernel) rfl
theorem wk_502 : (Jvm.Cond.fieldLink "UnitsWrong" (19 : Nat) "UnitsWrong" "text" "LUnitsWrong$Text;") ∈ bz_T := bz_in 502 (by decide +kernel) rfl
theorem wk_503 : (Jvm.Cond.fieldLink "UnitsWrong" (26 : Nat) "UnitsWrong" "course" "LUnitsWrong$Course;") ∈ bz_T := bz_in 503 (by decide +kernel) rfl
theorem wk_504 : (Jvm.Cond.fieldLink "UnitsWrong" (33 : Nat) "UnitsWrong" "claims" "LUnitsWrong$Claims;") ∈ bz_T := bz_in 504 (by decide +kernel) rfl
theorem wk_505 : (Jvm.Cond.fieldLink "UnitsWrong" (40 : Nat) "UnitsWrong" "settlement" "LUnitsWrong$Settlement;") ∈ bz_T := bz_in 505 (by decide +kernel) rfl
theorem wk_506 : (Jvm.Cond.fieldLink "UnitsWrong" (47 : Nat) "UnitsWrong" "audits" "LUnitsWrong$Audits;") ∈ bz_T := bz_in 506 (by decide +kernel) rfl
theorem wk_1153 : (Jvm.Cond.methodLink "UnitsWrongModel" (3 : Nat) ({ cls := "java/lang/Object", name := "<init>", desc := "()V" } : Jvm.MethodName)) ∈ bz_T := bz_in 1153 (by decide +kernel) rfl
theorem wk_1154 : (Jvm.Cond.classLink "UnitsWrongModel" (100 : Nat) "[[[I") ∈ bz_T := bz_in 1154 (by decide +kernel) rfl
theorem wk_1157 : (Jvm.Cond.classLink "UnitsWrongModel" (111 : Nat) "java/lang/String") ∈ bz_T := bz_in 1157 (by decide +kernel) rfl
theorem wk_1162 : (Jvm.Cond.classLink "UnitsWrongModel" (123 : Nat) "[[I") ∈ bz_T := bz_in 1162 (by decide +kernel) rfl
theorem wk_1163 : (Jvm.Cond.classLink "UnitsWrongModel" (143 : Nat) "[[J") ∈ bz_T := bz_in 1163 (by decide +kernel) rfl
theorem wk_1166 : (Jvm.Cond.fieldLink "UnitsWrongModel" (9 : Nat) "UnitsWrongModel" "isHoliday" "[Z") ∈ bz_T := bz_in 1166 (by decide +kernel) rfl
theorem wk_1168 : (Jvm.Cond.fieldLink "UnitsWrongModel" (13 : Nat) "UnitsWrongModel" "subject" "[I") ∈ bz_T := bz_in 1168 (by decide +kernel) rfl
theorem wk_1169 : (Jvm.Cond.fieldLink "UnitsWrongModel" (17 : Nat) "UnitsWrongModel" "number" "[I") ∈ bz_T := bz_in 1169 (by decide +kernel) rfl
theorem wk_1170 : (Jvm.Cond.fieldLink "UnitsWrongModel" (20 : Nat) "UnitsWrongModel" "forDay" "[I") ∈ bz_T := bz_in 1170 (by decide +kernel) rfl
theorem wk_1171 : (Jvm.Cond.fieldLink "UnitsWrongModel" (23 : Nat) "UnitsWrongModel" "value" "[I") ∈ bz_T := bz_in 1171 (by decide +kernel) rfl
theorem wk_1172 : (Jvm.Cond.fieldLink "UnitsWrongModel" (26 : Nat) "UnitsWrongModel" "made" "[I") ∈ bz_T := bz_in 1172 (by decide +kernel) rfl
theorem wk_1173 : (Jvm.Cond.fieldLink "UnitsWrongModel" (29 : Nat) "UnitsWrongModel" "sSubject" "[I") ∈ bz_T := bz_in 1173 (by decide +kernel) rfl
theorem wk_1174 : (Jvm.Cond.fieldLink "UnitsWrongModel" (32 : Nat) "UnitsWrongModel" "sNumber" "[I") ∈ bz_T := bz_in 1174 (by decide +kernel) rfl
theorem wk_1175 : (Jvm.Cond.fieldLink "UnitsWrongModel" (35 : Nat) "UnitsWrongModel" "sDay" "[I") ∈ bz_T := bz_in 1175 (by decide +kernel) rfl
theorem wk_1176 : (Jvm.Cond.fieldLink "UnitsWrongModel" (38 : Nat) "UnitsWrongModel" "sValue" "[I") ∈ bz_T := bz_in 1176 (by decide +kernel) rfl
theorem wk_1179 : (Jvm.Cond.fieldLink "UnitsWrongModel" (41 : Nat) "UnitsWrongModel" "currency" "[I") ∈ bz_T := bz_in 1179 (by decide +kernel) rfl
theorem wk_1180 : (Jvm.Cond.fieldLink "UnitsWrongModel" (44 : Nat) "UnitsWrongModel" "firstCash" "[I") ∈ bz_T := bz_in 1180 (by decide +kernel) rfl
theorem wk_1181 : (Jvm.Cond.fieldLink "UnitsWrongModel" (47 : Nat) "UnitsWrongModel" "zone" "[I") ∈ bz_T := bz_in 1181 (by decide +kernel) rfl
theorem wk_1182 : (Jvm.Cond.fieldLink "UnitsWrongModel" (50 : Nat) "UnitsWrongModel" "goneOn" "[I") ∈ bz_T := bz_in 1182 (by decide +kernel) rfl
theorem wk_1183 : (Jvm.Cond.fieldLink "UnitsWrongModel" (53 : Nat) "UnitsWrongModel" "foundOn" "[I") ∈ bz_T := bz_in 1183 (by decide +kernel) rfl
theorem wk_1186 : (Jvm.Cond.fieldLink "UnitsWrongModel" (56 : Nat) "UnitsWrongModel" "tFund" "[I") ∈ bz_T := bz_in 1186 (by decide +kernel) rfl
theorem wk_1187 : (Jvm.Cond.fieldLink "UnitsWrongModel" (59 : Nat) "UnitsWrongModel" "tPaper" "[I") ∈ bz_T := bz_in 1187 (by decide +kernel) rfl
theorem wk_1188 : (Jvm.Cond.fieldLink "UnitsWrongModel" (62 : Nat) "UnitsWrongModel" "tDay" "[I") ∈ bz_T := bz_in 1188 (by decide +kernel) rfl
theorem wk_1189 : (Jvm.Cond.fieldLink "UnitsWrongModel" (65 : Nat) "UnitsWrongModel" "tPieces" "[I") ∈ bz_T := bz_in 1189 (by decide +kernel) rfl
theorem wk_1190 : (Jvm.Cond.fieldLink "UnitsWrongModel" (68 : Nat) "UnitsWrongModel" "tPence" "[I") ∈ bz_T := bz_in 1190 (by decide +kernel) rfl
theorem wk_1191 : (Jvm.Cond.fieldLink "UnitsWrongModel" (71 : Nat) "UnitsWrongModel" "tMade" "[I") ∈ bz_T := bz_in 1191 (by decide +kernel) rfl
theorem wk_1193 : (Jvm.Cond.fieldLink "UnitsWrongModel" (74 : Nat) "UnitsWrongModel" "dWho" "[I") ∈ bz_T := bz_in 1193 (by decide +kernel) rfl
theorem wk_1194 : (Jvm.Cond.fieldLink "UnitsWrongModel" (77 : Nat) "UnitsWrongModel" "dFund" "[I") ∈ bz_T := bz_in 1194 (by decide +kernel) rfl
theorem wk_1195 : (Jvm.Cond.fieldLink "UnitsWrongModel" (80 : Nat) "UnitsWrongModel" "dMany" "[I") ∈ bz_T := bz_in 1195 (by decide +kernel) rfl
theorem wk_1196 : (Jvm.Cond.fieldLink "UnitsWrongModel" (83 : Nat) "UnitsWrongModel" "dDay" "[I") ∈ bz_T := bz_in 1196 (by decide +kernel) rfl
theorem wk_1197 : (Jvm.Cond.fieldLink "UnitsWrongModel" (86 : Nat) "UnitsWrongModel" "dUnits" "[I") ∈ bz_T := bz_in 1197 (by decide +kernel) rfl
theorem wk_1198 : (Jvm.Cond.fieldLink "UnitsWrongModel" (89 : Nat) "UnitsWrongModel" "isDealt" "[Z") ∈ bz_T := bz_in 1198 (by decide +kernel) rfl
theorem wk_1199 : (Jvm.Cond.fieldLink "UnitsWrongModel" (92 : Nat) "UnitsWrongModel" "booked" "[J") ∈ bz_T := bz_in 1199 (by decide +kernel) rfl
theorem wk_1201 : (Jvm.Cond.fieldLink "UnitsWrongModel" (96 : Nat) "UnitsWrongModel" "text" "[B") ∈ bz_T := bz_in 1201 (by decide +kernel) rfl
theorem wk_1206 : (Jvm.Cond.fieldLink "UnitsWrongModel" (102 : Nat) "UnitsWrongModel" "rules" "[[[I") ∈ bz_T := bz_in 1206 (by decide +kernel) rfl
theorem wk_1207 : (Jvm.Cond.fieldLink "UnitsWrongModel" (105 : Nat) "UnitsWrongModel" "lawDay" "[I") ∈ bz_T := bz_in 1207 (by decide +kernel) rfl
theorem wk_1209 : (Jvm.Cond.fieldLink "UnitsWrongModel" (108 : Nat) "UnitsWrongModel" "plainRules" "[I") ∈ bz_T := bz_in 1209 (by decide +kernel) rfl
theorem wk_1210 : (Jvm.Cond.fieldLink "UnitsWrongModel" (119 : Nat) "UnitsWrongModel" "partyWords" "[Ljava/lang/String;") ∈ bz_T := bz_in 1210 (by decide +kernel) rfl
theorem wk_1211 : (Jvm.Cond.fieldLink "UnitsWrongModel" (125 : Nat) "UnitsWrongModel" "price" "[[I") ∈ bz_T := bz_in 1211 (by decide +kernel) rfl
theorem wk_1212 : (Jvm.Cond.fieldLink "UnitsWrongModel" (128 : Nat) "UnitsWrongModel" "rate" "[[I") ∈ bz_T := bz_in 1212 (by decide +kernel) rfl
theorem wk_1213 : (Jvm.Cond.fieldLink "UnitsWrongModel" (131 : Nat) "UnitsWrongModel" "dividend" "[[I") ∈ bz_T := bz_in 1213 (by decide +kernel) rfl
theorem wk_1214 : (Jvm.Cond.fieldLink "UnitsWrongModel" (134 : Nat) "UnitsWrongModel" "split" "[[I") ∈ bz_T := bz_in 1214 (by decide +kernel) rfl
theorem wk_1215 : (Jvm.Cond.fieldLink "UnitsWrongModel" (137 : Nat) "UnitsWrongModel" "cash" "[J") ∈ bz_T := bz_in 1215 (by decide +kernel) rfl
theorem wk_1216 : (Jvm.Cond.fieldLink "UnitsWrongModel" (140 : Nat) "UnitsWrongModel" "coins" "[J") ∈ bz_T := bz_in 1216 (by decide +kernel) rfl
theorem wk_1217 : (Jvm.Cond.fieldLink "UnitsWrongModel" (145 : Nat) "UnitsWrongModel" "pieces" "[[J") ∈ bz_T := bz_in 1217 (by decide +kernel) rfl
theorem wk_1218 : (Jvm.Cond.fieldLink "UnitsWrongModel" (148 : Nat) "UnitsWrongModel" "unitPrice" "[[J") ∈ bz_T := bz_in 1218 (by decide +kernel) rfl
theorem wk_1219 : (Jvm.Cond.fieldLink "UnitsWrongModel" (151 : Nat) "UnitsWrongModel" "fees" "[[J") ∈ bz_T := bz_in 1219 (by decide +kernel) rfl
theorem wk_1220 : (Jvm.Cond.fieldLink "UnitsWrongModel" (154 : Nat) "UnitsWrongModel" "held" "[[J") ∈ bz_T := bz_in 1220 (by decide +kernel) rfl
theorem wk_1221 : (Jvm.Cond.fieldLink "UnitsWrongModel" (157 : Nat) "UnitsWrongModel" "all" "[J") ∈ bz_T := bz_in 1221 (by decide +kernel) rfl
theorem wk_1222 : (Jvm.Cond.fieldLink "UnitsWrongModel" (160 : Nat) "UnitsWrongModel" "bookedPrice" "[[J") ∈ bz_T := bz_in 1222 (by decide +kernel) rfl
theorem wk_1223 : (Jvm.Cond.fieldLink "UnitsWrongModel" (163 : Nat) "UnitsWrongModel" "bookedFee" "[[J") ∈ bz_T := bz_in 1223 (by decide +kernel) rfl
theorem wk_1224 : (Jvm.Cond.fieldLink "UnitsWrongModel" (166 : Nat) "UnitsWrongModel" "isTold" "[Z") ∈ bz_T := bz_in 1224 (by decide +kernel) rfl
theorem wk_1225 : (Jvm.Cond.fieldLink "UnitsWrongModel" (169 : Nat) "UnitsWrongModel" "had" "[J") ∈ bz_T := bz_in 1225 (by decide +kernel) rfl
theorem wk_1227 : (Jvm.Cond.fieldLink "UnitsWrongModel" (172 : Nat) "UnitsWrongModel" "lost" "[J") ∈ bz_T := bz_in 1227 (by decide +kernel) rfl
theorem wk_1228 : (Jvm.Cond.fieldLink "UnitsWrongModel" (175 : Nat) "UnitsWrongModel" "gained" "[J") ∈ bz_T := bz_in 1228 (by decide +kernel) rfl
theorem wk_1229 : (Jvm.Cond.fieldLink "UnitsWrongModel" (178 : Nat) "UnitsWrongModel" "claims" "[J") ∈ bz_T := bz_in 1229 (by decide +kernel) rfl
theorem wk_1230 : (Jvm.Cond.fieldLink "UnitsWrongModel" (181 : Nat) "UnitsWrongModel" "how" "[I") ∈ bz_T := bz_in 1230 (by decide +kernel) rfl
theorem wk_1231 : (Jvm.Cond.fieldLink "UnitsWrongModel" (184 : Nat) "UnitsWrongModel" "aFund" "[I") ∈ bz_T := bz_in 1231 (by decide +kernel) rfl
theorem wk_1232 : (Jvm.Cond.fieldLink "UnitsWrongModel" (187 : Nat) "UnitsWrongModel" "aDay" "[I") ∈ bz_T := bz_in 1232 (by decide +kernel) rfl
theorem wk_1233 : (Jvm.Cond.fieldLink "UnitsWrongModel" (190 : Nat) "UnitsWrongModel" "aPrice" "[I") ∈ bz_T := bz_in 1233 (by decide +kernel) rfl
theorem wk_1237 : (Jvm.Cond.fieldLink "UnitsWrongModel" (193 : Nat) "UnitsWrongModel" "balance" "[J") ∈ bz_T := bz_in 1237 (by decide +kernel) rfl
theorem wk_1238 : (Jvm.Cond.fieldLink "UnitsWrongModel" (196 : Nat) "UnitsWrongModel" "side" "[I") ∈ bz_T := bz_in 1238 (by decide +kernel) rfl
theorem wk_1240 : (Jvm.Cond.fieldLink "UnitsWrongModel" (199 : Nat) "UnitsWrongModel" "best" "[I") ∈ bz_T := bz_in 1240 (by decide +kernel) rfl
theorem wk_1241 : (Jvm.Cond.fieldLink "UnitsWrongModel" (202 : Nat) "UnitsWrongModel" "sumOf" "[J") ∈ bz_T := bz_in 1241 (by decide +kernel) rfl
theorem wk_1242 : (Jvm.Cond.fieldLink "UnitsWrongModel" (205 : Nat) "UnitsWrongModel" "heaps" "[I") ∈ bz_T := bz_in 1242 (by decide +kernel) rfl
theorem nk_101 : (Jvm.Cond.methodLinkNest "UnitsWrong$State" (46 : Nat) ({ cls := "UnitsWrong$Trades", name := "<init>", desc := "()V" } : Jvm.MethodName) "UnitsWrong") ∈ bz_NL := List.mem_filter.mpr ⟨List.mem_of_getElem? (i := 101) (by decide +kernel), rfl⟩
theorem nk_137 : (Jvm.Cond.methodLinkNest "UnitsWrong$State" (53 : Nat) ({ cls := "UnitsWrong$Deals", name := "<init>", desc := "()V" } : Jvm.MethodName) "UnitsWrong") ∈ bz_NL := List.mem_filter.mpr ⟨List.mem_of_getElem? (i := 137) (by decide +kernel), rfl⟩
theorem nk_193 : (Jvm.Cond.methodLinkNest "UnitsWrong$State" (60 : Nat) ({ cls := "UnitsWrong$Laws", name := "<init>", desc := "()V" } : Jvm.MethodName) "UnitsWrong") ∈ bz_NL := List.mem_filter.mpr ⟨List.mem_of_getElem? (i := 193) (by decide +kernel), rfl⟩
theorem nk_301 : (Jvm.Cond.methodLinkNest "UnitsWrong" (18 : Nat) ({ cls := "UnitsWrong$Text", name := "<init>", desc := "()V" } : Jvm.MethodName) "UnitsWrong") ∈ bz_NL := List.mem_filter.mpr ⟨List.mem_of_getElem? (i := 301) (by decide +kernel), rfl⟩
theorem nk_334 : (Jvm.Cond.methodLinkNest "UnitsWrong" (25 : Nat) ({ cls := "UnitsWrong$Course", name := "<init>", desc := "()V" } : Jvm.MethodName) "UnitsWrong") ∈ bz_NL := List.mem_filter.mpr ⟨List.mem_of_getElem? (i := 334) (by decide +kernel), rfl⟩
theorem nk_405 : (Jvm.Cond.methodLinkNest "UnitsWrong" (32 : Nat) ({ cls := "UnitsWrong$Claims", name := "<init>", desc := "()V" } : Jvm.MethodName) "UnitsWrong") ∈ bz_NL := List.mem_filter.mpr ⟨List.mem_of_getElem? (i := 405) (by decide +kernel), rfl⟩
theorem nk_430 : (Jvm.Cond.methodLinkNest "UnitsWrong" (39 : Nat) ({ cls := "UnitsWrong$Settlement", name := "<init>", desc := "()V" } : Jvm.MethodName) "UnitsWrong") ∈ bz_NL := List.mem_filter.mpr ⟨List.mem_of_getElem? (i := 430) (by decide +kernel), rfl⟩
theorem nk_468 : (Jvm.Cond.methodLinkNest "UnitsWrong" (46 : Nat) ({ cls := "UnitsWrong$Audits", name := "<init>", desc := "()V" } : Jvm.MethodName) "UnitsWrong") ∈ bz_NL := List.mem_filter.mpr ⟨List.mem_of_getElem? (i := 468) (by decide +kernel), rfl⟩
