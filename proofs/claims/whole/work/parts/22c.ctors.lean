def nS_0 : List bz_Sh := []
def mM_0 : bz_Mm := fun _ _ => 0
def nS_1 : List bz_Sh := nS_0 ++ [.inr (11, [(5, 0), (5, 0), (5, 0), (5, 0), (5, 0), (5, 0)])]
def nS_2 : List bz_Sh := nS_1 ++ [.inr (7, [(5, 0), (5, 0), (5, 0), (5, 0), (5, 0), (5, 0), (5, 0), (5, 0), (5, 0), (5, 0), (5, 0), (5, 0), (5, 0), (0, 0), (0, 0), (0, 0), (0, 0), (0, 0)])]
def nS_3 : List bz_Sh := nS_2 ++ [.inl (1, 4, 0)]
def nS_4 : List bz_Sh := nS_3.set 1 (.inr (7, ([(5, 0), (5, 0), (5, 0), (5, 0), (5, 0), (5, 0), (5, 0), (5, 0), (5, 0), (5, 0), (5, 0), (5, 0), (5, 0), (0, 0), (0, 0), (0, 0), (0, 0), (0, 0)] : List (Nat × Nat)).set 0 (4, 2)))
def nS_5 : List bz_Sh := nS_4 ++ [.inl (0, 4, 0)]
def nS_6 : List bz_Sh := nS_5.set 1 (.inr (7, ([(4, 2), (5, 0), (5, 0), (5, 0), (5, 0), (5, 0), (5, 0), (5, 0), (5, 0), (5, 0), (5, 0), (5, 0), (5, 0), (0, 0), (0, 0), (0, 0), (0, 0), (0, 0)] : List (Nat × Nat)).set 1 (4, 3)))
def nS_7 : List bz_Sh := nS_6 ++ [.inl (0, 16, 0)]
def nS_8 : List bz_Sh := nS_7.set 1 (.inr (7, ([(4, 2), (4, 3), (5, 0), (5, 0), (5, 0), (5, 0), (5, 0), (5, 0), (5, 0), (5, 0), (5, 0), (5, 0), (5, 0), (0, 0), (0, 0), (0, 0), (0, 0), (0, 0)] : List (Nat × Nat)).set 2 (4, 4)))
def nS_9 : List bz_Sh := nS_8 ++ [.inl (0, 16, 0)]
def nS_10 : List bz_Sh := nS_9.set 1 (.inr (7, ([(4, 2), (4, 3), (4, 4), (5, 0), (5, 0), (5, 0), (5, 0), (5, 0), (5, 0), (5, 0), (5, 0), (5, 0), (5, 0), (0, 0), (0, 0), (0, 0), (0, 0), (0, 0)] : List (Nat × Nat)).set 3 (4, 5)))
def nS_11 : List bz_Sh := nS_10 ++ [.inl (0, 8, 0)]
def nS_12 : List bz_Sh := nS_11.set 1 (.inr (7, ([(4, 2), (4, 3), (4, 4), (4, 5), (5, 0), (5, 0), (5, 0), (5, 0), (5, 0), (5, 0), (5, 0), (5, 0), (5, 0), (0, 0), (0, 0), (0, 0), (0, 0), (0, 0)] : List (Nat × Nat)).set 4 (4, 6)))
def nS_13 : List bz_Sh := nS_12 ++ [.inl (2, 260, 0)]
def nS_14 : List bz_Sh := nS_13.set 1 (.inr (7, ([(4, 2), (4, 3), (4, 4), (4, 5), (4, 6), (5, 0), (5, 0), (5, 0), (5, 0), (5, 0), (5, 0), (5, 0), (5, 0), (0, 0), (0, 0), (0, 0), (0, 0), (0, 0)] : List (Nat × Nat)).set 5 (4, 7)))
def nS_15 : List bz_Sh := nS_14 ++ [.inr (8, [(5, 0), (5, 0), (5, 0), (5, 0), (5, 0)])]
def nS_16 : List bz_Sh := nS_15 ++ [.inr (1, [(5, 0), (5, 0), (0, 0)])]
def nS_17 : List bz_Sh := nS_16 ++ [.inl (0, 400, 0)]
def nS_18 : List bz_Sh := nS_17.set 9 (.inr (1, ([(5, 0), (5, 0), (0, 0)] : List (Nat × Nat)).set 0 (4, 10)))
def nS_19 : List bz_Sh := nS_18 ++ [.inl (0, 400, 0)]
def nS_20 : List bz_Sh := nS_19.set 9 (.inr (1, ([(4, 10), (5, 0), (0, 0)] : List (Nat × Nat)).set 1 (4, 11)))
def nS_21 : List bz_Sh := nS_20.set 8 (.inr (8, ([(5, 0), (5, 0), (5, 0), (5, 0), (5, 0)] : List (Nat × Nat)).set 0 (4, 9)))
def nS_22 : List bz_Sh := nS_21 ++ [.inl (0, 400, 0)]
def nS_23 : List bz_Sh := nS_22.set 8 (.inr (8, ([(4, 9), (5, 0), (5, 0), (5, 0), (5, 0)] : List (Nat × Nat)).set 1 (4, 12)))
def nS_24 : List bz_Sh := nS_23 ++ [.inl (0, 400, 0)]
def nS_25 : List bz_Sh := nS_24.set 8 (.inr (8, ([(4, 9), (4, 12), (5, 0), (5, 0), (5, 0)] : List (Nat × Nat)).set 2 (4, 13)))
def nS_26 : List bz_Sh := nS_25 ++ [.inl (0, 400, 0)]
def nS_27 : List bz_Sh := nS_26.set 8 (.inr (8, ([(4, 9), (4, 12), (4, 13), (5, 0), (5, 0)] : List (Nat × Nat)).set 3 (4, 14)))
def nS_28 : List bz_Sh := nS_27 ++ [.inl (0, 400, 0)]
def nS_29 : List bz_Sh := nS_28.set 8 (.inr (8, ([(4, 9), (4, 12), (4, 13), (4, 14), (5, 0)] : List (Nat × Nat)).set 4 (4, 15)))
def nS_30 : List bz_Sh := nS_29.set 1 (.inr (7, ([(4, 2), (4, 3), (4, 4), (4, 5), (4, 6), (4, 7), (5, 0), (5, 0), (5, 0), (5, 0), (5, 0), (5, 0), (5, 0), (0, 0), (0, 0), (0, 0), (0, 0), (0, 0)] : List (Nat × Nat)).set 6 (4, 8)))
def nS_31 : List bz_Sh := nS_30 ++ [.inr (8, [(5, 0), (5, 0), (5, 0), (5, 0), (5, 0)])]
def nS_32 : List bz_Sh := nS_31 ++ [.inr (1, [(5, 0), (5, 0), (0, 0)])]
def nS_33 : List bz_Sh := nS_32 ++ [.inl (0, 7, 0)]
def nS_34 : List bz_Sh := nS_33.set 17 (.inr (1, ([(5, 0), (5, 0), (0, 0)] : List (Nat × Nat)).set 0 (4, 18)))
def nS_35 : List bz_Sh := nS_34 ++ [.inl (0, 7, 0)]
def nS_36 : List bz_Sh := nS_35.set 17 (.inr (1, ([(4, 18), (5, 0), (0, 0)] : List (Nat × Nat)).set 1 (4, 19)))
def nS_37 : List bz_Sh := nS_36.set 16 (.inr (8, ([(5, 0), (5, 0), (5, 0), (5, 0), (5, 0)] : List (Nat × Nat)).set 0 (4, 17)))
def nS_38 : List bz_Sh := nS_37 ++ [.inl (0, 7, 0)]
def nS_39 : List bz_Sh := nS_38.set 16 (.inr (8, ([(4, 17), (5, 0), (5, 0), (5, 0), (5, 0)] : List (Nat × Nat)).set 1 (4, 20)))
def nS_40 : List bz_Sh := nS_39 ++ [.inl (0, 7, 0)]
def nS_41 : List bz_Sh := nS_40.set 16 (.inr (8, ([(4, 17), (4, 20), (5, 0), (5, 0), (5, 0)] : List (Nat × Nat)).set 2 (4, 21)))
def nS_42 : List bz_Sh := nS_41 ++ [.inl (0, 7, 0)]
def nS_43 : List bz_Sh := nS_42.set 16 (.inr (8, ([(4, 17), (4, 20), (4, 21), (5, 0), (5, 0)] : List (Nat × Nat)).set 3 (4, 22)))
def nS_44 : List bz_Sh := nS_43 ++ [.inl (0, 7, 0)]
def nS_45 : List bz_Sh := nS_44.set 16 (.inr (8, ([(4, 17), (4, 20), (4, 21), (4, 22), (5, 0)] : List (Nat × Nat)).set 4 (4, 23)))
def nS_46 : List bz_Sh := nS_45.set 1 (.inr (7, ([(4, 2), (4, 3), (4, 4), (4, 5), (4, 6), (4, 7), (4, 8), (5, 0), (5, 0), (5, 0), (5, 0), (5, 0), (5, 0), (0, 0), (0, 0), (0, 0), (0, 0), (0, 0)] : List (Nat × Nat)).set 7 (4, 16)))
def nS_47 : List bz_Sh := nS_46 ++ [.inr (10, [(5, 0), (5, 0), (5, 0), (5, 0), (5, 0), (5, 0)])]
def nS_48 : List bz_Sh := nS_47 ++ [.inr (1, [(5, 0), (5, 0), (0, 0)])]
def nS_49 : List bz_Sh := nS_48 ++ [.inl (0, 120, 0)]
def nS_50 : List bz_Sh := nS_49.set 25 (.inr (1, ([(5, 0), (5, 0), (0, 0)] : List (Nat × Nat)).set 0 (4, 26)))
def nS_51 : List bz_Sh := nS_50 ++ [.inl (0, 120, 0)]
def nS_52 : List bz_Sh := nS_51.set 25 (.inr (1, ([(4, 26), (5, 0), (0, 0)] : List (Nat × Nat)).set 1 (4, 27)))
def nS_53 : List bz_Sh := nS_52.set 24 (.inr (10, ([(5, 0), (5, 0), (5, 0), (5, 0), (5, 0), (5, 0)] : List (Nat × Nat)).set 0 (4, 25)))
def nS_54 : List bz_Sh := nS_53 ++ [.inl (0, 120, 0)]
def nS_55 : List bz_Sh := nS_54.set 24 (.inr (10, ([(4, 25), (5, 0), (5, 0), (5, 0), (5, 0), (5, 0)] : List (Nat × Nat)).set 1 (4, 28)))
def nS_56 : List bz_Sh := nS_55 ++ [.inl (0, 120, 0)]
def nS_57 : List bz_Sh := nS_56.set 24 (.inr (10, ([(4, 25), (4, 28), (5, 0), (5, 0), (5, 0), (5, 0)] : List (Nat × Nat)).set 2 (4, 29)))
def nS_58 : List bz_Sh := nS_57 ++ [.inl (0, 120, 0)]
def nS_59 : List bz_Sh := nS_58.set 24 (.inr (10, ([(4, 25), (4, 28), (4, 29), (5, 0), (5, 0), (5, 0)] : List (Nat × Nat)).set 3 (4, 30)))
def nS_60 : List bz_Sh := nS_59 ++ [.inl (0, 120, 0)]
def nS_61 : List bz_Sh := nS_60.set 24 (.inr (10, ([(4, 25), (4, 28), (4, 29), (4, 30), (5, 0), (5, 0)] : List (Nat × Nat)).set 4 (4, 31)))
def nS_62 : List bz_Sh := nS_61 ++ [.inl (0, 120, 0)]
def nS_63 : List bz_Sh := nS_62.set 24 (.inr (10, ([(4, 25), (4, 28), (4, 29), (4, 30), (4, 31), (5, 0)] : List (Nat × Nat)).set 5 (4, 32)))
def nS_64 : List bz_Sh := nS_63.set 1 (.inr (7, ([(4, 2), (4, 3), (4, 4), (4, 5), (4, 6), (4, 7), (4, 8), (4, 16), (5, 0), (5, 0), (5, 0), (5, 0), (5, 0), (0, 0), (0, 0), (0, 0), (0, 0), (0, 0)] : List (Nat × Nat)).set 8 (4, 24)))
def nS_65 : List bz_Sh := nS_64 ++ [.inr (4, [(5, 0), (5, 0), (5, 0), (5, 0), (5, 0), (5, 0), (5, 0), (5, 0), (5, 0)])]
def nS_66 : List bz_Sh := nS_65 ++ [.inr (1, [(5, 0), (5, 0), (0, 0)])]
def nS_67 : List bz_Sh := nS_66 ++ [.inl (0, 200, 0)]
def nS_68 : List bz_Sh := nS_67.set 34 (.inr (1, ([(5, 0), (5, 0), (0, 0)] : List (Nat × Nat)).set 0 (4, 35)))
def nS_69 : List bz_Sh := nS_68 ++ [.inl (0, 200, 0)]
def nS_70 : List bz_Sh := nS_69.set 34 (.inr (1, ([(4, 35), (5, 0), (0, 0)] : List (Nat × Nat)).set 1 (4, 36)))
def nS_71 : List bz_Sh := nS_70.set 33 (.inr (4, ([(5, 0), (5, 0), (5, 0), (5, 0), (5, 0), (5, 0), (5, 0), (5, 0), (5, 0)] : List (Nat × Nat)).set 0 (4, 34)))
def nS_72 : List bz_Sh := nS_71 ++ [.inl (0, 200, 0)]
def nS_73 : List bz_Sh := nS_72.set 33 (.inr (4, ([(4, 34), (5, 0), (5, 0), (5, 0), (5, 0), (5, 0), (5, 0), (5, 0), (5, 0)] : List (Nat × Nat)).set 1 (4, 37)))
def nS_74 : List bz_Sh := nS_73 ++ [.inl (0, 200, 0)]
def nS_75 : List bz_Sh := nS_74.set 33 (.inr (4, ([(4, 34), (4, 37), (5, 0), (5, 0), (5, 0), (5, 0), (5, 0), (5, 0), (5, 0)] : List (Nat × Nat)).set 2 (4, 38)))
def nS_76 : List bz_Sh := nS_75 ++ [.inl (0, 200, 0)]
def nS_77 : List bz_Sh := nS_76.set 33 (.inr (4, ([(4, 34), (4, 37), (4, 38), (5, 0), (5, 0), (5, 0), (5, 0), (5, 0), (5, 0)] : List (Nat × Nat)).set 3 (4, 39)))
def nS_78 : List bz_Sh := nS_77 ++ [.inl (0, 200, 0)]
def nS_79 : List bz_Sh := nS_78.set 33 (.inr (4, ([(4, 34), (4, 37), (4, 38), (4, 39), (5, 0), (5, 0), (5, 0), (5, 0), (5, 0)] : List (Nat × Nat)).set 4 (4, 40)))
def nS_80 : List bz_Sh := nS_79 ++ [.inl (1, 200, 0)]
def nS_81 : List bz_Sh := nS_80.set 33 (.inr (4, ([(4, 34), (4, 37), (4, 38), (4, 39), (4, 40), (5, 0), (5, 0), (5, 0), (5, 0)] : List (Nat × Nat)).set 5 (4, 41)))
def nS_82 : List bz_Sh := nS_81 ++ [.inl (1, 200, 0)]
def nS_83 : List bz_Sh := nS_82.set 33 (.inr (4, ([(4, 34), (4, 37), (4, 38), (4, 39), (4, 40), (4, 41), (5, 0), (5, 0), (5, 0)] : List (Nat × Nat)).set 6 (4, 42)))
def nS_84 : List bz_Sh := nS_83 ++ [.inl (0, 96, 0)]
def nS_85 : List bz_Sh := nS_84.set 33 (.inr (4, ([(4, 34), (4, 37), (4, 38), (4, 39), (4, 40), (4, 41), (4, 42), (5, 0), (5, 0)] : List (Nat × Nat)).set 7 (4, 43)))
def nS_86 : List bz_Sh := nS_85 ++ [.inl (0, 4, 0)]
def nS_87 : List bz_Sh := nS_86.set 33 (.inr (4, ([(4, 34), (4, 37), (4, 38), (4, 39), (4, 40), (4, 41), (4, 42), (4, 43), (5, 0)] : List (Nat × Nat)).set 8 (4, 44)))
def nS_88 : List bz_Sh := nS_87.set 1 (.inr (7, ([(4, 2), (4, 3), (4, 4), (4, 5), (4, 6), (4, 7), (4, 8), (4, 16), (4, 24), (5, 0), (5, 0), (5, 0), (5, 0), (0, 0), (0, 0), (0, 0), (0, 0), (0, 0)] : List (Nat × Nat)).set 9 (4, 33)))
def nS_89 : List bz_Sh := nS_88 ++ [.inr (5, [(5, 0), (5, 0), (0, 0)])]
def nS_90 : List bz_Sh := nS_89 ++ [.inl (0, 6, 0)]
def nS_91 : List bz_Sh := nS_90.set 45 (.inr (5, ([(5, 0), (5, 0), (0, 0)] : List (Nat × Nat)).set 0 (4, 46)))
def nS_92 : List bz_Sh := nS_91 ++ [.inl (0, 288, 0)]
def nS_93 : List bz_Sh := nS_92.set 45 (.inr (5, ([(4, 46), (5, 0), (0, 0)] : List (Nat × Nat)).set 1 (4, 47)))
def nS_94 : List bz_Sh := nS_93.set 1 (.inr (7, ([(4, 2), (4, 3), (4, 4), (4, 5), (4, 6), (4, 7), (4, 8), (4, 16), (4, 24), (4, 33), (5, 0), (5, 0), (5, 0), (0, 0), (0, 0), (0, 0), (0, 0), (0, 0)] : List (Nat × Nat)).set 10 (4, 45)))
def nS_95 : List bz_Sh := nS_94 ++ [.inl (0, 1040, 0)]
def nS_96 : List bz_Sh := nS_95.set 1 (.inr (7, ([(4, 2), (4, 3), (4, 4), (4, 5), (4, 6), (4, 7), (4, 8), (4, 16), (4, 24), (4, 33), (4, 45), (5, 0), (5, 0), (0, 0), (0, 0), (0, 0), (0, 0), (0, 0)] : List (Nat × Nat)).set 11 (4, 48)))
def nS_97 : List bz_Sh := nS_96 ++ [.inl (1, 1040, 0)]
def nS_98 : List bz_Sh := nS_97.set 1 (.inr (7, ([(4, 2), (4, 3), (4, 4), (4, 5), (4, 6), (4, 7), (4, 8), (4, 16), (4, 24), (4, 33), (4, 45), (4, 48), (5, 0), (0, 0), (0, 0), (0, 0), (0, 0), (0, 0)] : List (Nat × Nat)).set 12 (4, 49)))
def mM_1 : bz_Mm := fl_ mM_0 (bn_id 3) 4 (-1)
def mM_2 : bz_Mm := fl_ mM_1 (bn_id 5) 16 (-1)
def nS_99 : List bz_Sh := nS_98.set 0 (.inr (11, ([(5, 0), (5, 0), (5, 0), (5, 0), (5, 0), (5, 0)] : List (Nat × Nat)).set 0 (4, 1)))
def nS_100 : List bz_Sh := nS_99 ++ [.inr (9, [(5, 0), (5, 0), (0, 0), (0, 0), (0, 0), (0, 0), (0, 0), (0, 0)])]
def nS_101 : List bz_Sh := nS_100 ++ [.inl (0, 600, 0)]
def nS_102 : List bz_Sh := nS_101.set 50 (.inr (9, ([(5, 0), (5, 0), (0, 0), (0, 0), (0, 0), (0, 0), (0, 0), (0, 0)] : List (Nat × Nat)).set 0 (4, 51)))
def nS_103 : List bz_Sh := nS_102 ++ [.inl (0, 60, 0)]
def nS_104 : List bz_Sh := nS_103.set 50 (.inr (9, ([(4, 51), (5, 0), (0, 0), (0, 0), (0, 0), (0, 0), (0, 0), (0, 0)] : List (Nat × Nat)).set 1 (4, 52)))
def nS_105 : List bz_Sh := nS_104.set 0 (.inr (11, ([(4, 1), (5, 0), (5, 0), (5, 0), (5, 0), (5, 0)] : List (Nat × Nat)).set 1 (4, 50)))
def nS_106 : List bz_Sh := nS_105 ++ [.inr (3, [(5, 0), (5, 0), (5, 0), (5, 0), (5, 0), (5, 0), (5, 0), (5, 0), (5, 0), (5, 0), (5, 0), (2, 0), (2, 0), (0, 0), (0, 0), (0, 0), (0, 0), (0, 0), (0, 0)])]
def nS_107 : List bz_Sh := nS_106 ++ [.inl (1, 4, 0)]
def nS_108 : List bz_Sh := nS_107.set 53 (.inr (3, ([(5, 0), (5, 0), (5, 0), (5, 0), (5, 0), (5, 0), (5, 0), (5, 0), (5, 0), (5, 0), (5, 0), (2, 0), (2, 0), (0, 0), (0, 0), (0, 0), (0, 0), (0, 0), (0, 0)] : List (Nat × Nat)).set 0 (4, 54)))
def nS_109 : List bz_Sh := nS_108 ++ [.inl (1, 4, 0)]
def nS_110 : List bz_Sh := nS_109.set 53 (.inr (3, ([(4, 54), (5, 0), (5, 0), (5, 0), (5, 0), (5, 0), (5, 0), (5, 0), (5, 0), (5, 0), (5, 0), (2, 0), (2, 0), (0, 0), (0, 0), (0, 0), (0, 0), (0, 0), (0, 0)] : List (Nat × Nat)).set 1 (4, 55)))
def nS_111 : List bz_Sh := nS_110 ++ [.inl (0, 1040, 0)]
def nS_112 : List bz_Sh := nS_111.set 53 (.inr (3, ([(4, 54), (4, 55), (5, 0), (5, 0), (5, 0), (5, 0), (5, 0), (5, 0), (5, 0), (5, 0), (5, 0), (2, 0), (2, 0), (0, 0), (0, 0), (0, 0), (0, 0), (0, 0), (0, 0)] : List (Nat × Nat)).set 2 (4, 56)))
def nS_113 : List bz_Sh := nS_112 ++ [.inl (1, 1040, 0)]
def nS_114 : List bz_Sh := nS_113.set 53 (.inr (3, ([(4, 54), (4, 55), (4, 56), (5, 0), (5, 0), (5, 0), (5, 0), (5, 0), (5, 0), (5, 0), (5, 0), (2, 0), (2, 0), (0, 0), (0, 0), (0, 0), (0, 0), (0, 0), (0, 0)] : List (Nat × Nat)).set 3 (4, 57)))
def nS_115 : List bz_Sh := nS_114 ++ [.inl (0, 32, 0)]
def nS_116 : List bz_Sh := nS_115.set 53 (.inr (3, ([(4, 54), (4, 55), (4, 56), (4, 57), (5, 0), (5, 0), (5, 0), (5, 0), (5, 0), (5, 0), (5, 0), (2, 0), (2, 0), (0, 0), (0, 0), (0, 0), (0, 0), (0, 0), (0, 0)] : List (Nat × Nat)).set 4 (4, 58)))
def nS_117 : List bz_Sh := nS_116 ++ [.inl (0, 16, 0)]
def nS_118 : List bz_Sh := nS_117.set 53 (.inr (3, ([(4, 54), (4, 55), (4, 56), (4, 57), (4, 58), (5, 0), (5, 0), (5, 0), (5, 0), (5, 0), (5, 0), (2, 0), (2, 0), (0, 0), (0, 0), (0, 0), (0, 0), (0, 0), (0, 0)] : List (Nat × Nat)).set 5 (4, 59)))
def nS_119 : List bz_Sh := nS_118 ++ [.inl (0, 4, 0)]
def nS_120 : List bz_Sh := nS_119.set 53 (.inr (3, ([(4, 54), (4, 55), (4, 56), (4, 57), (4, 58), (4, 59), (5, 0), (5, 0), (5, 0), (5, 0), (5, 0), (2, 0), (2, 0), (0, 0), (0, 0), (0, 0), (0, 0), (0, 0), (0, 0)] : List (Nat × Nat)).set 6 (4, 60)))
def nS_121 : List bz_Sh := nS_120 ++ [.inl (0, 8, 0)]
def nS_122 : List bz_Sh := nS_121.set 53 (.inr (3, ([(4, 54), (4, 55), (4, 56), (4, 57), (4, 58), (4, 59), (4, 60), (5, 0), (5, 0), (5, 0), (5, 0), (2, 0), (2, 0), (0, 0), (0, 0), (0, 0), (0, 0), (0, 0), (0, 0)] : List (Nat × Nat)).set 7 (4, 61)))
def nS_123 : List bz_Sh := nS_122 ++ [.inl (0, 3, 0)]
def nS_124 : List bz_Sh := nS_123.set 53 (.inr (3, ([(4, 54), (4, 55), (4, 56), (4, 57), (4, 58), (4, 59), (4, 60), (4, 61), (5, 0), (5, 0), (5, 0), (2, 0), (2, 0), (0, 0), (0, 0), (0, 0), (0, 0), (0, 0), (0, 0)] : List (Nat × Nat)).set 8 (4, 62)))
def nS_125 : List bz_Sh := nS_124 ++ [.inl (0, 8, 0)]
def nS_126 : List bz_Sh := nS_125.set 53 (.inr (3, ([(4, 54), (4, 55), (4, 56), (4, 57), (4, 58), (4, 59), (4, 60), (4, 61), (4, 62), (5, 0), (5, 0), (2, 0), (2, 0), (0, 0), (0, 0), (0, 0), (0, 0), (0, 0), (0, 0)] : List (Nat × Nat)).set 9 (4, 63)))
def nS_127 : List bz_Sh := nS_126 ++ [.inl (0, 8, 0)]
def nS_128 : List bz_Sh := nS_127.set 53 (.inr (3, ([(4, 54), (4, 55), (4, 56), (4, 57), (4, 58), (4, 59), (4, 60), (4, 61), (4, 62), (4, 63), (5, 0), (2, 0), (2, 0), (0, 0), (0, 0), (0, 0), (0, 0), (0, 0), (0, 0)] : List (Nat × Nat)).set 10 (4, 64)))
def mM_3 : bz_Mm := st_ mM_2 (bn_id 53) 17 (-1)
def nS_129 : List bz_Sh := nS_128.set 0 (.inr (11, ([(4, 1), (4, 50), (5, 0), (5, 0), (5, 0), (5, 0)] : List (Nat × Nat)).set 2 (4, 53)))
def nS_130 : List bz_Sh := nS_129 ++ [.inr (2, [(5, 0), (5, 0), (5, 0), (0, 0), (0, 0)])]
def nS_131 : List bz_Sh := nS_130 ++ [.inl (1, 24, 0)]
def nS_132 : List bz_Sh := nS_131.set 65 (.inr (2, ([(5, 0), (5, 0), (5, 0), (0, 0), (0, 0)] : List (Nat × Nat)).set 0 (4, 66)))
def nS_133 : List bz_Sh := nS_132 ++ [.inl (1, 24, 0)]
def nS_134 : List bz_Sh := nS_133.set 65 (.inr (2, ([(4, 66), (5, 0), (5, 0), (0, 0), (0, 0)] : List (Nat × Nat)).set 1 (4, 67)))
def nS_135 : List bz_Sh := nS_134 ++ [.inl (1, 42, 0)]
def nS_136 : List bz_Sh := nS_135.set 65 (.inr (2, ([(4, 66), (4, 67), (5, 0), (0, 0), (0, 0)] : List (Nat × Nat)).set 2 (4, 68)))
def nS_137 : List bz_Sh := nS_136.set 0 (.inr (11, ([(4, 1), (4, 50), (4, 53), (5, 0), (5, 0), (5, 0)] : List (Nat × Nat)).set 3 (4, 65)))
def nS_138 : List bz_Sh := nS_137 ++ [.inr (6, [(5, 0), (5, 0), (5, 0), (0, 0), (5, 0), (5, 0), (5, 0), (5, 0), (0, 0)])]
def nS_139 : List bz_Sh := nS_138 ++ [.inl (0, 10, 0)]
def nS_140 : List bz_Sh := nS_139.set 69 (.inr (6, ([(5, 0), (5, 0), (5, 0), (0, 0), (5, 0), (5, 0), (5, 0), (5, 0), (0, 0)] : List (Nat × Nat)).set 0 (4, 70)))
def nS_141 : List bz_Sh := nS_140 ++ [.inl (0, 10, 0)]
def nS_142 : List bz_Sh := nS_141.set 69 (.inr (6, ([(4, 70), (5, 0), (5, 0), (0, 0), (5, 0), (5, 0), (5, 0), (5, 0), (0, 0)] : List (Nat × Nat)).set 1 (4, 71)))
def nS_143 : List bz_Sh := nS_142 ++ [.inl (1, 10, 0)]
def nS_144 : List bz_Sh := nS_143.set 69 (.inr (6, ([(4, 70), (4, 71), (5, 0), (0, 0), (5, 0), (5, 0), (5, 0), (5, 0), (0, 0)] : List (Nat × Nat)).set 2 (4, 72)))
def nS_145 : List bz_Sh := nS_144 ++ [.inl (0, 10, 0)]
def nS_146 : List bz_Sh := nS_145.set 69 (.inr (6, ([(4, 70), (4, 71), (4, 72), (0, 0), (5, 0), (5, 0), (5, 0), (5, 0), (0, 0)] : List (Nat × Nat)).set 4 (4, 73)))
def nS_147 : List bz_Sh := nS_146 ++ [.inl (1, 10, 0)]
def nS_148 : List bz_Sh := nS_147.set 69 (.inr (6, ([(4, 70), (4, 71), (4, 72), (0, 0), (4, 73), (5, 0), (5, 0), (5, 0), (0, 0)] : List (Nat × Nat)).set 5 (4, 74)))
def nS_149 : List bz_Sh := nS_148 ++ [.inl (1, 1024, 0)]
def nS_150 : List bz_Sh := nS_149.set 69 (.inr (6, ([(4, 70), (4, 71), (4, 72), (0, 0), (4, 73), (4, 74), (5, 0), (5, 0), (0, 0)] : List (Nat × Nat)).set 6 (4, 75)))
def nS_151 : List bz_Sh := nS_150 ++ [.inl (0, 1024, 0)]
def nS_152 : List bz_Sh := nS_151.set 69 (.inr (6, ([(4, 70), (4, 71), (4, 72), (0, 0), (4, 73), (4, 74), (4, 75), (5, 0), (0, 0)] : List (Nat × Nat)).set 7 (4, 76)))
def nS_153 : List bz_Sh := nS_152.set 0 (.inr (11, ([(4, 1), (4, 50), (4, 53), (4, 65), (5, 0), (5, 0)] : List (Nat × Nat)).set 4 (4, 69)))
def nS_154 : List bz_Sh := nS_153 ++ [.inr (0, [(5, 0), (5, 0), (5, 0), (0, 0), (2, 0), (0, 0), (0, 0), (0, 0)])]
def nS_155 : List bz_Sh := nS_154 ++ [.inl (0, 8, 0)]
def nS_156 : List bz_Sh := nS_155.set 77 (.inr (0, ([(5, 0), (5, 0), (5, 0), (0, 0), (2, 0), (0, 0), (0, 0), (0, 0)] : List (Nat × Nat)).set 0 (4, 78)))
def nS_157 : List bz_Sh := nS_156 ++ [.inl (0, 8, 0)]
def nS_158 : List bz_Sh := nS_157.set 77 (.inr (0, ([(4, 78), (5, 0), (5, 0), (0, 0), (2, 0), (0, 0), (0, 0), (0, 0)] : List (Nat × Nat)).set 1 (4, 79)))
def nS_159 : List bz_Sh := nS_158 ++ [.inl (0, 8, 0)]
def nS_160 : List bz_Sh := nS_159.set 77 (.inr (0, ([(4, 78), (4, 79), (5, 0), (0, 0), (2, 0), (0, 0), (0, 0), (0, 0)] : List (Nat × Nat)).set 2 (4, 80)))
def nS_161 : List bz_Sh := nS_160.set 0 (.inr (11, ([(4, 1), (4, 50), (4, 53), (4, 65), (4, 69), (5, 0)] : List (Nat × Nat)).set 5 (4, 77)))
set_option maxRecDepth 20000 in
theorem kUB_init_9 (E : bz_E) (b0 : Nat) (hAd : ∀ i, i < 235 → E.2.1 i = b0 + bn_pos i) : bn_Ct E b0 yUB_init (.code yUB_init prog_3_method_1_code 2 none) 1 20 2 800 [.ref (b0 + 9), bz_i 400] nS_16 mM_0 nS_20 mM_0 := by
  refine bn_met (by decide +kernel) rfl (Nat.le_of_ble_eq_true rfl) (fun K X Y => ?_)
  have X : bn_X K E b0 prog_3_method_1_code 2 "UnitsWrong$ByDay" 1 20 2 800 := X
  show bn_J K b0 2 0 0 0 [(0, .ref (b0 + 9)), (1, bz_i 400)] [] nS_16 mM_0
  refine n_aload_n X dUB_init_0 rfl 0 rfl ?_
  refine n_obj X wk_47 wk_28 wk_29 dUB_init_1 (by decide) (by decide) (Nat.le_of_ble_eq_true rfl) ?_
  refine n_aload_n X dUB_init_4 rfl 0 rfl ?_
  refine n_iload_n X dUB_init_5 rfl 1 rfl ?_
  refine n_newI X (n := 400) (L := 10) (by decide +kernel) (by decide) (by decide) (fun _ => rfl) (by decide) (by decide) dUB_init_6 ?_
  show bn_J K b0 2 8 1 400 [(0, .ref (b0 + 9)), (1, bz_i 400)] [.ref (b0 + 10), .ref (b0 + 9)] nS_17 mM_0
  refine n_puta X Y (kf := 0) ri_1 ry_1 rk_1 rn_1 rfl (by decide +kernel : nS_17[9]? = some (.inr (1, [(5, 0), (5, 0), (0, 0)]))) (by decide) wk_48 (t := 10) rfl rfl rfl (hAd 10 (by decide)) rfl rfl dUB_init_8 ?_
  show bn_J K b0 2 11 1 400 [(0, .ref (b0 + 9)), (1, bz_i 400)] [] nS_18 mM_0
  refine n_aload_n X dUB_init_11 rfl 0 rfl ?_
  refine n_iload_n X dUB_init_12 rfl 1 rfl ?_
  refine n_newI X (n := 400) (L := 11) (by decide +kernel) (by decide) (by decide) (fun _ => rfl) (by decide) (by decide) dUB_init_13 ?_
  show bn_J K b0 2 15 2 800 [(0, .ref (b0 + 9)), (1, bz_i 400)] [.ref (b0 + 11), .ref (b0 + 9)] nS_19 mM_0
  refine n_puta X Y (kf := 1) ri_1 ry_1 rk_1 rn_1 rfl (by decide +kernel : nS_19[9]? = some (.inr (1, [(4, 10), (5, 0), (0, 0)]))) (by decide) wk_54 (t := 11) rfl rfl rfl (hAd 11 (by decide)) rfl rfl dUB_init_15 ?_
  show bn_J K b0 2 18 2 800 [(0, .ref (b0 + 9)), (1, bz_i 400)] [] nS_20 mM_0
  exact n_ret X Y rfl rfl dUB_init_18
set_option maxRecDepth 20000 in
theorem kUTe_init_8 (E : bz_E) (b0 : Nat) (hAd : ∀ i, i < 235 → E.2.1 i = b0 + bn_pos i) : bn_Ct E b0 yUTe_init (.code yUTe_init prog_10_method_1_code 2 none) 2 41 7 2403 [.ref (b0 + 8), bz_i 400] nS_15 mM_0 nS_29 mM_0 := by
  refine bn_met (by decide +kernel) rfl (Nat.le_of_ble_eq_true rfl) (fun K X Y => ?_)
  have X : bn_X K E b0 prog_10_method_1_code 2 "UnitsWrong$Tellings" 2 41 7 2403 := X
  show bn_J K b0 2 0 0 0 [(0, .ref (b0 + 8)), (1, bz_i 400)] [] nS_15 mM_0
  refine n_aload_n X dUTe_init_0 rfl 0 rfl ?_
  refine n_obj X wk_41 wk_28 wk_29 dUTe_init_1 (by decide) (by decide) (Nat.le_of_ble_eq_true rfl) ?_
  refine n_aload_n X dUTe_init_4 rfl 0 rfl ?_
  refine n_newO X (ci := 1) (fs := [(5, 0), (5, 0), (0, 0)]) (L := 9) (by decide +kernel) ri_1 ry_1 rk_1 wk_42 wk_43 wk_4 rfl (by decide +kernel) (fun _ => rfl) (by decide) (by decide) dUTe_init_5 ?_
  show bn_J K b0 2 8 1 3 [(0, .ref (b0 + 8)), (1, bz_i 400)] [.ref (b0 + 9), .ref (b0 + 8)] nS_16 mM_0
  refine n_dup X dUTe_init_8 rfl ?_
  refine n_iload_n X dUTe_init_9 rfl 1 rfl ?_
  refine n_ci X (kUB_init_9 E b0 hAd) gkUB_init rfl wk_45 rfl (by decide) (by decide) wk_44 rfl (Nat.le_of_ble_eq_true rfl) (by decide) (by decide) dUTe_init_10 ?_
  show bn_J K b0 2 13 3 803 [(0, .ref (b0 + 8)), (1, bz_i 400)] [.ref (b0 + 9), .ref (b0 + 8)] nS_20 mM_0
  refine n_puta X Y (kf := 0) ri_8 ry_8 rk_8 rn_8 rfl (by decide +kernel : nS_20[8]? = some (.inr (8, [(5, 0), (5, 0), (5, 0), (5, 0), (5, 0)]))) (by decide) wk_75 (t := 9) rfl rfl rfl (hAd 9 (by decide)) rfl rfl dUTe_init_13 ?_
  show bn_J K b0 2 16 3 803 [(0, .ref (b0 + 8)), (1, bz_i 400)] [] nS_21 mM_0
  refine n_aload_n X dUTe_init_16 rfl 0 rfl ?_
  refine n_iload_n X dUTe_init_17 rfl 1 rfl ?_
  refine n_newI X (n := 400) (L := 12) (by decide +kernel) (by decide) (by decide) (fun _ => rfl) (by decide) (by decide) dUTe_init_18 ?_
  show bn_J K b0 2 20 4 1203 [(0, .ref (b0 + 8)), (1, bz_i 400)] [.ref (b0 + 12), .ref (b0 + 8)] nS_22 mM_0
  refine n_puta X Y (kf := 1) ri_8 ry_8 rk_8 rn_8 rfl (by decide +kernel : nS_22[8]? = some (.inr (8, [(4, 9), (5, 0), (5, 0), (5, 0), (5, 0)]))) (by decide) wk_79 (t := 12) rfl rfl rfl (hAd 12 (by decide)) rfl rfl dUTe_init_20 ?_
  show bn_J K b0 2 23 4 1203 [(0, .ref (b0 + 8)), (1, bz_i 400)] [] nS_23 mM_0
  refine n_aload_n X dUTe_init_23 rfl 0 rfl ?_
  refine n_iload_n X dUTe_init_24 rfl 1 rfl ?_
  refine n_newI X (n := 400) (L := 13) (by decide +kernel) (by decide) (by decide) (fun _ => rfl) (by decide) (by decide) dUTe_init_25 ?_
  show bn_J K b0 2 27 5 1603 [(0, .ref (b0 + 8)), (1, bz_i 400)] [.ref (b0 + 13), .ref (b0 + 8)] nS_24 mM_0
  refine n_puta X Y (kf := 2) ri_8 ry_8 rk_8 rn_8 rfl (by decide +kernel : nS_24[8]? = some (.inr (8, [(4, 9), (4, 12), (5, 0), (5, 0), (5, 0)]))) (by decide) wk_81 (t := 13) rfl rfl rfl (hAd 13 (by decide)) rfl rfl dUTe_init_27 ?_
  show bn_J K b0 2 30 5 1603 [(0, .ref (b0 + 8)), (1, bz_i 400)] [] nS_25 mM_0
  refine n_aload_n X dUTe_init_30 rfl 0 rfl ?_
  refine n_iload_n X dUTe_init_31 rfl 1 rfl ?_
  refine n_newI X (n := 400) (L := 14) (by decide +kernel) (by decide) (by decide) (fun _ => rfl) (by decide) (by decide) dUTe_init_32 ?_
  show bn_J K b0 2 34 6 2003 [(0, .ref (b0 + 8)), (1, bz_i 400)] [.ref (b0 + 14), .ref (b0 + 8)] nS_26 mM_0
  refine n_puta X Y (kf := 3) ri_8 ry_8 rk_8 rn_8 rfl (by decide +kernel : nS_26[8]? = some (.inr (8, [(4, 9), (4, 12), (4, 13), (5, 0), (5, 0)]))) (by decide) wk_83 (t := 14) rfl rfl rfl (hAd 14 (by decide)) rfl rfl dUTe_init_34 ?_
  show bn_J K b0 2 37 6 2003 [(0, .ref (b0 + 8)), (1, bz_i 400)] [] nS_27 mM_0
  refine n_aload_n X dUTe_init_37 rfl 0 rfl ?_
  refine n_iload_n X dUTe_init_38 rfl 1 rfl ?_
  refine n_newI X (n := 400) (L := 15) (by decide +kernel) (by decide) (by decide) (fun _ => rfl) (by decide) (by decide) dUTe_init_39 ?_
  show bn_J K b0 2 41 7 2403 [(0, .ref (b0 + 8)), (1, bz_i 400)] [.ref (b0 + 15), .ref (b0 + 8)] nS_28 mM_0
  refine n_puta X Y (kf := 4) ri_8 ry_8 rk_8 rn_8 rfl (by decide +kernel : nS_28[8]? = some (.inr (8, [(4, 9), (4, 12), (4, 13), (4, 14), (5, 0)]))) (by decide) wk_86 (t := 15) rfl rfl rfl (hAd 15 (by decide)) rfl rfl dUTe_init_41 ?_
  show bn_J K b0 2 44 7 2403 [(0, .ref (b0 + 8)), (1, bz_i 400)] [] nS_29 mM_0
  exact n_ret X Y rfl rfl dUTe_init_44
set_option maxRecDepth 20000 in
theorem kUB_init_17 (E : bz_E) (b0 : Nat) (hAd : ∀ i, i < 235 → E.2.1 i = b0 + bn_pos i) : bn_Ct E b0 yUB_init (.code yUB_init prog_3_method_1_code 2 none) 1 20 2 14 [.ref (b0 + 17), bz_i 7] nS_32 mM_0 nS_36 mM_0 := by
  refine bn_met (by decide +kernel) rfl (Nat.le_of_ble_eq_true rfl) (fun K X Y => ?_)
  have X : bn_X K E b0 prog_3_method_1_code 2 "UnitsWrong$ByDay" 1 20 2 14 := X
  show bn_J K b0 2 0 0 0 [(0, .ref (b0 + 17)), (1, bz_i 7)] [] nS_32 mM_0
  refine n_aload_n X dUB_init_0 rfl 0 rfl ?_
  refine n_obj X wk_47 wk_28 wk_29 dUB_init_1 (by decide) (by decide) (Nat.le_of_ble_eq_true rfl) ?_
  refine n_aload_n X dUB_init_4 rfl 0 rfl ?_
  refine n_iload_n X dUB_init_5 rfl 1 rfl ?_
  refine n_newI X (n := 7) (L := 18) (by decide +kernel) (by decide) (by decide) (fun _ => rfl) (by decide) (by decide) dUB_init_6 ?_
  show bn_J K b0 2 8 1 7 [(0, .ref (b0 + 17)), (1, bz_i 7)] [.ref (b0 + 18), .ref (b0 + 17)] nS_33 mM_0
  refine n_puta X Y (kf := 0) ri_1 ry_1 rk_1 rn_1 rfl (by decide +kernel : nS_33[17]? = some (.inr (1, [(5, 0), (5, 0), (0, 0)]))) (by decide) wk_48 (t := 18) rfl rfl rfl (hAd 18 (by decide)) rfl rfl dUB_init_8 ?_
  show bn_J K b0 2 11 1 7 [(0, .ref (b0 + 17)), (1, bz_i 7)] [] nS_34 mM_0
  refine n_aload_n X dUB_init_11 rfl 0 rfl ?_
  refine n_iload_n X dUB_init_12 rfl 1 rfl ?_
  refine n_newI X (n := 7) (L := 19) (by decide +kernel) (by decide) (by decide) (fun _ => rfl) (by decide) (by decide) dUB_init_13 ?_
  show bn_J K b0 2 15 2 14 [(0, .ref (b0 + 17)), (1, bz_i 7)] [.ref (b0 + 19), .ref (b0 + 17)] nS_35 mM_0
  refine n_puta X Y (kf := 1) ri_1 ry_1 rk_1 rn_1 rfl (by decide +kernel : nS_35[17]? = some (.inr (1, [(4, 18), (5, 0), (0, 0)]))) (by decide) wk_54 (t := 19) rfl rfl rfl (hAd 19 (by decide)) rfl rfl dUB_init_15 ?_
  show bn_J K b0 2 18 2 14 [(0, .ref (b0 + 17)), (1, bz_i 7)] [] nS_36 mM_0
  exact n_ret X Y rfl rfl dUB_init_18
set_option maxRecDepth 20000 in
theorem kUTe_init_16 (E : bz_E) (b0 : Nat) (hAd : ∀ i, i < 235 → E.2.1 i = b0 + bn_pos i) : bn_Ct E b0 yUTe_init (.code yUTe_init prog_10_method_1_code 2 none) 2 41 7 45 [.ref (b0 + 16), bz_i 7] nS_31 mM_0 nS_45 mM_0 := by
  refine bn_met (by decide +kernel) rfl (Nat.le_of_ble_eq_true rfl) (fun K X Y => ?_)
  have X : bn_X K E b0 prog_10_method_1_code 2 "UnitsWrong$Tellings" 2 41 7 45 := X
  show bn_J K b0 2 0 0 0 [(0, .ref (b0 + 16)), (1, bz_i 7)] [] nS_31 mM_0
  refine n_aload_n X dUTe_init_0 rfl 0 rfl ?_
  refine n_obj X wk_41 wk_28 wk_29 dUTe_init_1 (by decide) (by decide) (Nat.le_of_ble_eq_true rfl) ?_
  refine n_aload_n X dUTe_init_4 rfl 0 rfl ?_
  refine n_newO X (ci := 1) (fs := [(5, 0), (5, 0), (0, 0)]) (L := 17) (by decide +kernel) ri_1 ry_1 rk_1 wk_42 wk_43 wk_4 rfl (by decide +kernel) (fun _ => rfl) (by decide) (by decide) dUTe_init_5 ?_
  show bn_J K b0 2 8 1 3 [(0, .ref (b0 + 16)), (1, bz_i 7)] [.ref (b0 + 17), .ref (b0 + 16)] nS_32 mM_0
  refine n_dup X dUTe_init_8 rfl ?_
  refine n_iload_n X dUTe_init_9 rfl 1 rfl ?_
  refine n_ci X (kUB_init_17 E b0 hAd) gkUB_init rfl wk_45 rfl (by decide) (by decide) wk_44 rfl (Nat.le_of_ble_eq_true rfl) (by decide) (by decide) dUTe_init_10 ?_
  show bn_J K b0 2 13 3 17 [(0, .ref (b0 + 16)), (1, bz_i 7)] [.ref (b0 + 17), .ref (b0 + 16)] nS_36 mM_0
  refine n_puta X Y (kf := 0) ri_8 ry_8 rk_8 rn_8 rfl (by decide +kernel : nS_36[16]? = some (.inr (8, [(5, 0), (5, 0), (5, 0), (5, 0), (5, 0)]))) (by decide) wk_75 (t := 17) rfl rfl rfl (hAd 17 (by decide)) rfl rfl dUTe_init_13 ?_
  show bn_J K b0 2 16 3 17 [(0, .ref (b0 + 16)), (1, bz_i 7)] [] nS_37 mM_0
  refine n_aload_n X dUTe_init_16 rfl 0 rfl ?_
  refine n_iload_n X dUTe_init_17 rfl 1 rfl ?_
  refine n_newI X (n := 7) (L := 20) (by decide +kernel) (by decide) (by decide) (fun _ => rfl) (by decide) (by decide) dUTe_init_18 ?_
  show bn_J K b0 2 20 4 24 [(0, .ref (b0 + 16)), (1, bz_i 7)] [.ref (b0 + 20), .ref (b0 + 16)] nS_38 mM_0
  refine n_puta X Y (kf := 1) ri_8 ry_8 rk_8 rn_8 rfl (by decide +kernel : nS_38[16]? = some (.inr (8, [(4, 17), (5, 0), (5, 0), (5, 0), (5, 0)]))) (by decide) wk_79 (t := 20) rfl rfl rfl (hAd 20 (by decide)) rfl rfl dUTe_init_20 ?_
  show bn_J K b0 2 23 4 24 [(0, .ref (b0 + 16)), (1, bz_i 7)] [] nS_39 mM_0
  refine n_aload_n X dUTe_init_23 rfl 0 rfl ?_
  refine n_iload_n X dUTe_init_24 rfl 1 rfl ?_
  refine n_newI X (n := 7) (L := 21) (by decide +kernel) (by decide) (by decide) (fun _ => rfl) (by decide) (by decide) dUTe_init_25 ?_
  show bn_J K b0 2 27 5 31 [(0, .ref (b0 + 16)), (1, bz_i 7)] [.ref (b0 + 21), .ref (b0 + 16)] nS_40 mM_0
  refine n_puta X Y (kf := 2) ri_8 ry_8 rk_8 rn_8 rfl (by decide +kernel : nS_40[16]? = some (.inr (8, [(4, 17), (4, 20), (5, 0), (5, 0), (5, 0)]))) (by decide) wk_81 (t := 21) rfl rfl rfl (hAd 21 (by decide)) rfl rfl dUTe_init_27 ?_
  show bn_J K b0 2 30 5 31 [(0, .ref (b0 + 16)), (1, bz_i 7)] [] nS_41 mM_0
  refine n_aload_n X dUTe_init_30 rfl 0 rfl ?_
  refine n_iload_n X dUTe_init_31 rfl 1 rfl ?_
  refine n_newI X (n := 7) (L := 22) (by decide +kernel) (by decide) (by decide) (fun _ => rfl) (by decide) (by decide) dUTe_init_32 ?_
  show bn_J K b0 2 34 6 38 [(0, .ref (b0 + 16)), (1, bz_i 7)] [.ref (b0 + 22), .ref (b0 + 16)] nS_42 mM_0
  refine n_puta X Y (kf := 3) ri_8 ry_8 rk_8 rn_8 rfl (by decide +kernel : nS_42[16]? = some (.inr (8, [(4, 17), (4, 20), (4, 21), (5, 0), (5, 0)]))) (by decide) wk_83 (t := 22) rfl rfl rfl (hAd 22 (by decide)) rfl rfl dUTe_init_34 ?_
  show bn_J K b0 2 37 6 38 [(0, .ref (b0 + 16)), (1, bz_i 7)] [] nS_43 mM_0
  refine n_aload_n X dUTe_init_37 rfl 0 rfl ?_
  refine n_iload_n X dUTe_init_38 rfl 1 rfl ?_
  refine n_newI X (n := 7) (L := 23) (by decide +kernel) (by decide) (by decide) (fun _ => rfl) (by decide) (by decide) dUTe_init_39 ?_
  show bn_J K b0 2 41 7 45 [(0, .ref (b0 + 16)), (1, bz_i 7)] [.ref (b0 + 23), .ref (b0 + 16)] nS_44 mM_0
  refine n_puta X Y (kf := 4) ri_8 ry_8 rk_8 rn_8 rfl (by decide +kernel : nS_44[16]? = some (.inr (8, [(4, 17), (4, 20), (4, 21), (4, 22), (5, 0)]))) (by decide) wk_86 (t := 23) rfl rfl rfl (hAd 23 (by decide)) rfl rfl dUTe_init_41 ?_
  show bn_J K b0 2 44 7 45 [(0, .ref (b0 + 16)), (1, bz_i 7)] [] nS_45 mM_0
  exact n_ret X Y rfl rfl dUTe_init_44
set_option maxRecDepth 20000 in
theorem kUB_init_25 (E : bz_E) (b0 : Nat) (hAd : ∀ i, i < 235 → E.2.1 i = b0 + bn_pos i) : bn_Ct E b0 yUB_init (.code yUB_init prog_3_method_1_code 2 none) 1 20 2 240 [.ref (b0 + 25), bz_i 120] nS_48 mM_0 nS_52 mM_0 := by
  refine bn_met (by decide +kernel) rfl (Nat.le_of_ble_eq_true rfl) (fun K X Y => ?_)
  have X : bn_X K E b0 prog_3_method_1_code 2 "UnitsWrong$ByDay" 1 20 2 240 := X
  show bn_J K b0 2 0 0 0 [(0, .ref (b0 + 25)), (1, bz_i 120)] [] nS_48 mM_0
  refine n_aload_n X dUB_init_0 rfl 0 rfl ?_
  refine n_obj X wk_47 wk_28 wk_29 dUB_init_1 (by decide) (by decide) (Nat.le_of_ble_eq_true rfl) ?_
  refine n_aload_n X dUB_init_4 rfl 0 rfl ?_
  refine n_iload_n X dUB_init_5 rfl 1 rfl ?_
  refine n_newI X (n := 120) (L := 26) (by decide +kernel) (by decide) (by decide) (fun _ => rfl) (by decide) (by decide) dUB_init_6 ?_
  show bn_J K b0 2 8 1 120 [(0, .ref (b0 + 25)), (1, bz_i 120)] [.ref (b0 + 26), .ref (b0 + 25)] nS_49 mM_0
  refine n_puta X Y (kf := 0) ri_1 ry_1 rk_1 rn_1 rfl (by decide +kernel : nS_49[25]? = some (.inr (1, [(5, 0), (5, 0), (0, 0)]))) (by decide) wk_48 (t := 26) rfl rfl rfl (hAd 26 (by decide)) rfl rfl dUB_init_8 ?_
  show bn_J K b0 2 11 1 120 [(0, .ref (b0 + 25)), (1, bz_i 120)] [] nS_50 mM_0
  refine n_aload_n X dUB_init_11 rfl 0 rfl ?_
  refine n_iload_n X dUB_init_12 rfl 1 rfl ?_
  refine n_newI X (n := 120) (L := 27) (by decide +kernel) (by decide) (by decide) (fun _ => rfl) (by decide) (by decide) dUB_init_13 ?_
  show bn_J K b0 2 15 2 240 [(0, .ref (b0 + 25)), (1, bz_i 120)] [.ref (b0 + 27), .ref (b0 + 25)] nS_51 mM_0
  refine n_puta X Y (kf := 1) ri_1 ry_1 rk_1 rn_1 rfl (by decide +kernel : nS_51[25]? = some (.inr (1, [(4, 26), (5, 0), (0, 0)]))) (by decide) wk_54 (t := 27) rfl rfl rfl (hAd 27 (by decide)) rfl rfl dUB_init_15 ?_
  show bn_J K b0 2 18 2 240 [(0, .ref (b0 + 25)), (1, bz_i 120)] [] nS_52 mM_0
  exact n_ret X Y rfl rfl dUB_init_18
set_option maxRecDepth 20000 in
theorem kUTr_init_24 (E : bz_E) (b0 : Nat) (hAd : ∀ i, i < 235 → E.2.1 i = b0 + bn_pos i) : bn_Ct E b0 yUTr_init (.code yUTr_init prog_12_method_1_code 1 none) 2 41 8 843 [.ref (b0 + 24)] nS_47 mM_0 nS_63 mM_0 := by
  refine bn_met (by decide +kernel) rfl (Nat.le_of_ble_eq_true rfl) (fun K X Y => ?_)
  have X : bn_X K E b0 prog_12_method_1_code 1 "UnitsWrong$Trades" 2 41 8 843 := X
  show bn_J K b0 1 0 0 0 [(0, .ref (b0 + 24))] [] nS_47 mM_0
  refine n_aload_n X dUTr_init_0 rfl 0 rfl ?_
  refine n_obj X wk_104 wk_28 wk_29 dUTr_init_1 (by decide) (by decide) (Nat.le_of_ble_eq_true rfl) ?_
  refine n_aload_n X dUTr_init_4 rfl 0 rfl ?_
  refine n_newO X (ci := 1) (fs := [(5, 0), (5, 0), (0, 0)]) (L := 25) (by decide +kernel) ri_1 ry_1 rk_1 wk_105 wk_43 wk_4 rfl (by decide +kernel) (fun _ => rfl) (by decide) (by decide) dUTr_init_5 ?_
  show bn_J K b0 1 8 1 3 [(0, .ref (b0 + 24))] [.ref (b0 + 25), .ref (b0 + 24)] nS_48 mM_0
  refine n_dup X dUTr_init_8 rfl ?_
  refine n_bipush X dUTr_init_9 rfl ?_
  refine n_ci X (kUB_init_25 E b0 hAd) gkUB_init rfl wk_45 rfl (by decide) (by decide) wk_106 rfl (Nat.le_of_ble_eq_true rfl) (by decide) (by decide) dUTr_init_11 ?_
  show bn_J K b0 1 14 3 243 [(0, .ref (b0 + 24))] [.ref (b0 + 25), .ref (b0 + 24)] nS_52 mM_0
  refine n_puta X Y (kf := 0) ri_10 ry_10 rk_10 rn_10 rfl (by decide +kernel : nS_52[24]? = some (.inr (10, [(5, 0), (5, 0), (5, 0), (5, 0), (5, 0), (5, 0)]))) (by decide) wk_107 (t := 25) rfl rfl rfl (hAd 25 (by decide)) rfl rfl dUTr_init_14 ?_
  show bn_J K b0 1 17 3 243 [(0, .ref (b0 + 24))] [] nS_53 mM_0
  refine n_aload_n X dUTr_init_17 rfl 0 rfl ?_
  refine n_bipush X dUTr_init_18 rfl ?_
  refine n_newI X (n := 120) (L := 28) (by decide +kernel) (by decide) (by decide) (fun _ => rfl) (by decide) (by decide) dUTr_init_20 ?_
  show bn_J K b0 1 22 4 363 [(0, .ref (b0 + 24))] [.ref (b0 + 28), .ref (b0 + 24)] nS_54 mM_0
  refine n_puta X Y (kf := 1) ri_10 ry_10 rk_10 rn_10 rfl (by decide +kernel : nS_54[24]? = some (.inr (10, [(4, 25), (5, 0), (5, 0), (5, 0), (5, 0), (5, 0)]))) (by decide) wk_110 (t := 28) rfl rfl rfl (hAd 28 (by decide)) rfl rfl dUTr_init_22 ?_
  show bn_J K b0 1 25 4 363 [(0, .ref (b0 + 24))] [] nS_55 mM_0
  refine n_aload_n X dUTr_init_25 rfl 0 rfl ?_
  refine n_bipush X dUTr_init_26 rfl ?_
  refine n_newI X (n := 120) (L := 29) (by decide +kernel) (by decide) (by decide) (fun _ => rfl) (by decide) (by decide) dUTr_init_28 ?_
  show bn_J K b0 1 30 5 483 [(0, .ref (b0 + 24))] [.ref (b0 + 29), .ref (b0 + 24)] nS_56 mM_0
  refine n_puta X Y (kf := 2) ri_10 ry_10 rk_10 rn_10 rfl (by decide +kernel : nS_56[24]? = some (.inr (10, [(4, 25), (4, 28), (5, 0), (5, 0), (5, 0), (5, 0)]))) (by decide) wk_112 (t := 29) rfl rfl rfl (hAd 29 (by decide)) rfl rfl dUTr_init_30 ?_
  show bn_J K b0 1 33 5 483 [(0, .ref (b0 + 24))] [] nS_57 mM_0
  refine n_aload_n X dUTr_init_33 rfl 0 rfl ?_
  refine n_bipush X dUTr_init_34 rfl ?_
  refine n_newI X (n := 120) (L := 30) (by decide +kernel) (by decide) (by decide) (fun _ => rfl) (by decide) (by decide) dUTr_init_36 ?_
  show bn_J K b0 1 38 6 603 [(0, .ref (b0 + 24))] [.ref (b0 + 30), .ref (b0 + 24)] nS_58 mM_0
  refine n_puta X Y (kf := 3) ri_10 ry_10 rk_10 rn_10 rfl (by decide +kernel : nS_58[24]? = some (.inr (10, [(4, 25), (4, 28), (4, 29), (5, 0), (5, 0), (5, 0)]))) (by decide) wk_114 (t := 30) rfl rfl rfl (hAd 30 (by decide)) rfl rfl dUTr_init_38 ?_
  show bn_J K b0 1 41 6 603 [(0, .ref (b0 + 24))] [] nS_59 mM_0
  refine n_aload_n X dUTr_init_41 rfl 0 rfl ?_
  refine n_bipush X dUTr_init_42 rfl ?_
  refine n_newI X (n := 120) (L := 31) (by decide +kernel) (by decide) (by decide) (fun _ => rfl) (by decide) (by decide) dUTr_init_44 ?_
  show bn_J K b0 1 46 7 723 [(0, .ref (b0 + 24))] [.ref (b0 + 31), .ref (b0 + 24)] nS_60 mM_0
  refine n_puta X Y (kf := 4) ri_10 ry_10 rk_10 rn_10 rfl (by decide +kernel : nS_60[24]? = some (.inr (10, [(4, 25), (4, 28), (4, 29), (4, 30), (5, 0), (5, 0)]))) (by decide) wk_117 (t := 31) rfl rfl rfl (hAd 31 (by decide)) rfl rfl dUTr_init_46 ?_
  show bn_J K b0 1 49 7 723 [(0, .ref (b0 + 24))] [] nS_61 mM_0
  refine n_aload_n X dUTr_init_49 rfl 0 rfl ?_
  refine n_bipush X dUTr_init_50 rfl ?_
  refine n_newI X (n := 120) (L := 32) (by decide +kernel) (by decide) (by decide) (fun _ => rfl) (by decide) (by decide) dUTr_init_52 ?_
  show bn_J K b0 1 54 8 843 [(0, .ref (b0 + 24))] [.ref (b0 + 32), .ref (b0 + 24)] nS_62 mM_0
  refine n_puta X Y (kf := 5) ri_10 ry_10 rk_10 rn_10 rfl (by decide +kernel : nS_62[24]? = some (.inr (10, [(4, 25), (4, 28), (4, 29), (4, 30), (4, 31), (5, 0)]))) (by decide) wk_120 (t := 32) rfl rfl rfl (hAd 32 (by decide)) rfl rfl dUTr_init_54 ?_
  show bn_J K b0 1 57 8 843 [(0, .ref (b0 + 24))] [] nS_63 mM_0
  exact n_ret X Y rfl rfl dUTr_init_57
set_option maxRecDepth 20000 in
theorem kUB_init_34 (E : bz_E) (b0 : Nat) (hAd : ∀ i, i < 235 → E.2.1 i = b0 + bn_pos i) : bn_Ct E b0 yUB_init (.code yUB_init prog_3_method_1_code 2 none) 1 20 2 400 [.ref (b0 + 34), bz_i 200] nS_66 mM_0 nS_70 mM_0 := by
  refine bn_met (by decide +kernel) rfl (Nat.le_of_ble_eq_true rfl) (fun K X Y => ?_)
  have X : bn_X K E b0 prog_3_method_1_code 2 "UnitsWrong$ByDay" 1 20 2 400 := X
  show bn_J K b0 2 0 0 0 [(0, .ref (b0 + 34)), (1, bz_i 200)] [] nS_66 mM_0
  refine n_aload_n X dUB_init_0 rfl 0 rfl ?_
  refine n_obj X wk_47 wk_28 wk_29 dUB_init_1 (by decide) (by decide) (Nat.le_of_ble_eq_true rfl) ?_
  refine n_aload_n X dUB_init_4 rfl 0 rfl ?_
  refine n_iload_n X dUB_init_5 rfl 1 rfl ?_
  refine n_newI X (n := 200) (L := 35) (by decide +kernel) (by decide) (by decide) (fun _ => rfl) (by decide) (by decide) dUB_init_6 ?_
  show bn_J K b0 2 8 1 200 [(0, .ref (b0 + 34)), (1, bz_i 200)] [.ref (b0 + 35), .ref (b0 + 34)] nS_67 mM_0
  refine n_puta X Y (kf := 0) ri_1 ry_1 rk_1 rn_1 rfl (by decide +kernel : nS_67[34]? = some (.inr (1, [(5, 0), (5, 0), (0, 0)]))) (by decide) wk_48 (t := 35) rfl rfl rfl (hAd 35 (by decide)) rfl rfl dUB_init_8 ?_
  show bn_J K b0 2 11 1 200 [(0, .ref (b0 + 34)), (1, bz_i 200)] [] nS_68 mM_0
  refine n_aload_n X dUB_init_11 rfl 0 rfl ?_
  refine n_iload_n X dUB_init_12 rfl 1 rfl ?_
  refine n_newI X (n := 200) (L := 36) (by decide +kernel) (by decide) (by decide) (fun _ => rfl) (by decide) (by decide) dUB_init_13 ?_
  show bn_J K b0 2 15 2 400 [(0, .ref (b0 + 34)), (1, bz_i 200)] [.ref (b0 + 36), .ref (b0 + 34)] nS_69 mM_0
  refine n_puta X Y (kf := 1) ri_1 ry_1 rk_1 rn_1 rfl (by decide +kernel : nS_69[34]? = some (.inr (1, [(4, 35), (5, 0), (0, 0)]))) (by decide) wk_54 (t := 36) rfl rfl rfl (hAd 36 (by decide)) rfl rfl dUB_init_15 ?_
  show bn_J K b0 2 18 2 400 [(0, .ref (b0 + 34)), (1, bz_i 200)] [] nS_70 mM_0
  exact n_ret X Y rfl rfl dUB_init_18
set_option maxRecDepth 20000 in
theorem kUD_init_33 (E : bz_E) (b0 : Nat) (hAd : ∀ i, i < 235 → E.2.1 i = b0 + bn_pos i) : bn_Ct E b0 yUD_init (.code yUD_init prog_6_method_1_code 1 none) 2 41 11 1703 [.ref (b0 + 33)] nS_65 mM_0 nS_87 mM_0 := by
  refine bn_met (by decide +kernel) rfl (Nat.le_of_ble_eq_true rfl) (fun K X Y => ?_)
  have X : bn_X K E b0 prog_6_method_1_code 1 "UnitsWrong$Deals" 2 41 11 1703 := X
  show bn_J K b0 1 0 0 0 [(0, .ref (b0 + 33))] [] nS_65 mM_0
  refine n_aload_n X dUD_init_0 rfl 0 rfl ?_
  refine n_obj X wk_140 wk_28 wk_29 dUD_init_1 (by decide) (by decide) (Nat.le_of_ble_eq_true rfl) ?_
  refine n_aload_n X dUD_init_4 rfl 0 rfl ?_
  refine n_newO X (ci := 1) (fs := [(5, 0), (5, 0), (0, 0)]) (L := 34) (by decide +kernel) ri_1 ry_1 rk_1 wk_141 wk_43 wk_4 rfl (by decide +kernel) (fun _ => rfl) (by decide) (by decide) dUD_init_5 ?_
  show bn_J K b0 1 8 1 3 [(0, .ref (b0 + 33))] [.ref (b0 + 34), .ref (b0 + 33)] nS_66 mM_0
  refine n_dup X dUD_init_8 rfl ?_
  refine n_sipush X dUD_init_9 rfl ?_
  refine n_ci X (kUB_init_34 E b0 hAd) gkUB_init rfl wk_45 rfl (by decide) (by decide) wk_142 rfl (Nat.le_of_ble_eq_true rfl) (by decide) (by decide) dUD_init_12 ?_
  show bn_J K b0 1 15 3 403 [(0, .ref (b0 + 33))] [.ref (b0 + 34), .ref (b0 + 33)] nS_70 mM_0
  refine n_puta X Y (kf := 0) ri_4 ry_4 rk_4 rn_4 rfl (by decide +kernel : nS_70[33]? = some (.inr (4, [(5, 0), (5, 0), (5, 0), (5, 0), (5, 0), (5, 0), (5, 0), (5, 0), (5, 0)]))) (by decide) wk_143 (t := 34) rfl rfl rfl (hAd 34 (by decide)) rfl rfl dUD_init_15 ?_
  show bn_J K b0 1 18 3 403 [(0, .ref (b0 + 33))] [] nS_71 mM_0
  refine n_aload_n X dUD_init_18 rfl 0 rfl ?_
  refine n_sipush X dUD_init_19 rfl ?_
  refine n_newI X (n := 200) (L := 37) (by decide +kernel) (by decide) (by decide) (fun _ => rfl) (by decide) (by decide) dUD_init_22 ?_
  show bn_J K b0 1 24 4 603 [(0, .ref (b0 + 33))] [.ref (b0 + 37), .ref (b0 + 33)] nS_72 mM_0
  refine n_puta X Y (kf := 1) ri_4 ry_4 rk_4 rn_4 rfl (by decide +kernel : nS_72[33]? = some (.inr (4, [(4, 34), (5, 0), (5, 0), (5, 0), (5, 0), (5, 0), (5, 0), (5, 0), (5, 0)]))) (by decide) wk_147 (t := 37) rfl rfl rfl (hAd 37 (by decide)) rfl rfl dUD_init_24 ?_
  show bn_J K b0 1 27 4 603 [(0, .ref (b0 + 33))] [] nS_73 mM_0
  refine n_aload_n X dUD_init_27 rfl 0 rfl ?_
  refine n_sipush X dUD_init_28 rfl ?_
  refine n_newI X (n := 200) (L := 38) (by decide +kernel) (by decide) (by decide) (fun _ => rfl) (by decide) (by decide) dUD_init_31 ?_
  show bn_J K b0 1 33 5 803 [(0, .ref (b0 + 33))] [.ref (b0 + 38), .ref (b0 + 33)] nS_74 mM_0
  refine n_puta X Y (kf := 2) ri_4 ry_4 rk_4 rn_4 rfl (by decide +kernel : nS_74[33]? = some (.inr (4, [(4, 34), (4, 37), (5, 0), (5, 0), (5, 0), (5, 0), (5, 0), (5, 0), (5, 0)]))) (by decide) wk_151 (t := 38) rfl rfl rfl (hAd 38 (by decide)) rfl rfl dUD_init_33 ?_
  show bn_J K b0 1 36 5 803 [(0, .ref (b0 + 33))] [] nS_75 mM_0
  refine n_aload_n X dUD_init_36 rfl 0 rfl ?_
  refine n_sipush X dUD_init_37 rfl ?_
  refine n_newI X (n := 200) (L := 39) (by decide +kernel) (by decide) (by decide) (fun _ => rfl) (by decide) (by decide) dUD_init_40 ?_
  show bn_J K b0 1 42 6 1003 [(0, .ref (b0 + 33))] [.ref (b0 + 39), .ref (b0 + 33)] nS_76 mM_0
  refine n_puta X Y (kf := 3) ri_4 ry_4 rk_4 rn_4 rfl (by decide +kernel : nS_76[33]? = some (.inr (4, [(4, 34), (4, 37), (4, 38), (5, 0), (5, 0), (5, 0), (5, 0), (5, 0), (5, 0)]))) (by decide) wk_155 (t := 39) rfl rfl rfl (hAd 39 (by decide)) rfl rfl dUD_init_42 ?_
  show bn_J K b0 1 45 6 1003 [(0, .ref (b0 + 33))] [] nS_77 mM_0
  refine n_aload_n X dUD_init_45 rfl 0 rfl ?_
  refine n_sipush X dUD_init_46 rfl ?_
  refine n_newI X (n := 200) (L := 40) (by decide +kernel) (by decide) (by decide) (fun _ => rfl) (by decide) (by decide) dUD_init_49 ?_
  show bn_J K b0 1 51 7 1203 [(0, .ref (b0 + 33))] [.ref (b0 + 40), .ref (b0 + 33)] nS_78 mM_0
  refine n_puta X Y (kf := 4) ri_4 ry_4 rk_4 rn_4 rfl (by decide +kernel : nS_78[33]? = some (.inr (4, [(4, 34), (4, 37), (4, 38), (4, 39), (5, 0), (5, 0), (5, 0), (5, 0), (5, 0)]))) (by decide) wk_156 (t := 40) rfl rfl rfl (hAd 40 (by decide)) rfl rfl dUD_init_51 ?_
  show bn_J K b0 1 54 7 1203 [(0, .ref (b0 + 33))] [] nS_79 mM_0
  refine n_aload_n X dUD_init_54 rfl 0 rfl ?_
  refine n_sipush X dUD_init_55 rfl ?_
  refine n_newJ X (n := 200) (L := 41) (by decide +kernel) (by decide) (by decide) (fun _ => rfl) (by decide) (by decide) dUD_init_58 ?_
  show bn_J K b0 1 60 8 1403 [(0, .ref (b0 + 33))] [.ref (b0 + 41), .ref (b0 + 33)] nS_80 mM_0
  refine n_puta X Y (kf := 5) ri_4 ry_4 rk_4 rn_4 rfl (by decide +kernel : nS_80[33]? = some (.inr (4, [(4, 34), (4, 37), (4, 38), (4, 39), (4, 40), (5, 0), (5, 0), (5, 0), (5, 0)]))) (by decide) wk_160 (t := 41) rfl rfl rfl (hAd 41 (by decide)) rfl rfl dUD_init_60 ?_
  show bn_J K b0 1 63 8 1403 [(0, .ref (b0 + 33))] [] nS_81 mM_0
  refine n_aload_n X dUD_init_63 rfl 0 rfl ?_
  refine n_sipush X dUD_init_64 rfl ?_
  refine n_newJ X (n := 200) (L := 42) (by decide +kernel) (by decide) (by decide) (fun _ => rfl) (by decide) (by decide) dUD_init_67 ?_
  show bn_J K b0 1 69 9 1603 [(0, .ref (b0 + 33))] [.ref (b0 + 42), .ref (b0 + 33)] nS_82 mM_0
  refine n_puta X Y (kf := 6) ri_4 ry_4 rk_4 rn_4 rfl (by decide +kernel : nS_82[33]? = some (.inr (4, [(4, 34), (4, 37), (4, 38), (4, 39), (4, 40), (4, 41), (5, 0), (5, 0), (5, 0)]))) (by decide) wk_164 (t := 42) rfl rfl rfl (hAd 42 (by decide)) rfl rfl dUD_init_69 ?_
  show bn_J K b0 1 72 9 1603 [(0, .ref (b0 + 33))] [] nS_83 mM_0
  refine n_aload_n X dUD_init_72 rfl 0 rfl ?_
  refine n_bipush X dUD_init_73 rfl ?_
  refine n_newI X (n := 96) (L := 43) (by decide +kernel) (by decide) (by decide) (fun _ => rfl) (by decide) (by decide) dUD_init_75 ?_
  show bn_J K b0 1 77 10 1699 [(0, .ref (b0 + 33))] [.ref (b0 + 43), .ref (b0 + 33)] nS_84 mM_0
  refine n_puta X Y (kf := 7) ri_4 ry_4 rk_4 rn_4 rfl (by decide +kernel : nS_84[33]? = some (.inr (4, [(4, 34), (4, 37), (4, 38), (4, 39), (4, 40), (4, 41), (4, 42), (5, 0), (5, 0)]))) (by decide) wk_168 (t := 43) rfl rfl rfl (hAd 43 (by decide)) rfl rfl dUD_init_77 ?_
  show bn_J K b0 1 80 10 1699 [(0, .ref (b0 + 33))] [] nS_85 mM_0
  refine n_aload_n X dUD_init_80 rfl 0 rfl ?_
  refine n_iconst X dUD_init_81 ?_
  refine n_newI X (n := 4) (L := 44) (by decide +kernel) (by decide) (by decide) (fun _ => rfl) (by decide) (by decide) dUD_init_82 ?_
  show bn_J K b0 1 84 11 1703 [(0, .ref (b0 + 33))] [.ref (b0 + 44), .ref (b0 + 33)] nS_86 mM_0
  refine n_puta X Y (kf := 8) ri_4 ry_4 rk_4 rn_4 rfl (by decide +kernel : nS_86[33]? = some (.inr (4, [(4, 34), (4, 37), (4, 38), (4, 39), (4, 40), (4, 41), (4, 42), (4, 43), (5, 0)]))) (by decide) wk_170 (t := 44) rfl rfl rfl (hAd 44 (by decide)) rfl rfl dUD_init_84 ?_
  show bn_J K b0 1 87 11 1703 [(0, .ref (b0 + 33))] [] nS_87 mM_0
  exact n_ret X Y rfl rfl dUD_init_87
set_option maxRecDepth 20000 in
theorem kUL_init_45 (E : bz_E) (b0 : Nat) (hAd : ∀ i, i < 235 → E.2.1 i = b0 + bn_pos i) : bn_Ct E b0 yUL_init (.code yUL_init prog_7_method_1_code 1 none) 1 20 2 294 [.ref (b0 + 45)] nS_89 mM_0 nS_93 mM_0 := by
  refine bn_met (by decide +kernel) rfl (Nat.le_of_ble_eq_true rfl) (fun K X Y => ?_)
  have X : bn_X K E b0 prog_7_method_1_code 1 "UnitsWrong$Laws" 1 20 2 294 := X
  show bn_J K b0 1 0 0 0 [(0, .ref (b0 + 45))] [] nS_89 mM_0
  refine n_aload_n X dUL_init_0 rfl 0 rfl ?_
  refine n_obj X wk_196 wk_28 wk_29 dUL_init_1 (by decide) (by decide) (Nat.le_of_ble_eq_true rfl) ?_
  refine n_aload_n X dUL_init_4 rfl 0 rfl ?_
  refine n_bipush X dUL_init_5 rfl ?_
  refine n_newI X (n := 6) (L := 46) (by decide +kernel) (by decide) (by decide) (fun _ => rfl) (by decide) (by decide) dUL_init_7 ?_
  show bn_J K b0 1 9 1 6 [(0, .ref (b0 + 45))] [.ref (b0 + 46), .ref (b0 + 45)] nS_90 mM_0
  refine n_puta X Y (kf := 0) ri_5 ry_5 rk_5 rn_5 rfl (by decide +kernel : nS_90[45]? = some (.inr (5, [(5, 0), (5, 0), (0, 0)]))) (by decide) wk_197 (t := 46) rfl rfl rfl (hAd 46 (by decide)) rfl rfl dUL_init_9 ?_
  show bn_J K b0 1 12 1 6 [(0, .ref (b0 + 45))] [] nS_91 mM_0
  refine n_aload_n X dUL_init_12 rfl 0 rfl ?_
  refine n_sipush X dUL_init_13 rfl ?_
  refine n_newI X (n := 288) (L := 47) (by decide +kernel) (by decide) (by decide) (fun _ => rfl) (by decide) (by decide) dUL_init_16 ?_
  show bn_J K b0 1 18 2 294 [(0, .ref (b0 + 45))] [.ref (b0 + 47), .ref (b0 + 45)] nS_92 mM_0
  refine n_puta X Y (kf := 1) ri_5 ry_5 rk_5 rn_5 rfl (by decide +kernel : nS_92[45]? = some (.inr (5, [(4, 46), (5, 0), (0, 0)]))) (by decide) wk_198 (t := 47) rfl rfl rfl (hAd 47 (by decide)) rfl rfl dUL_init_18 ?_
  show bn_J K b0 1 21 2 294 [(0, .ref (b0 + 45))] [] nS_93 mM_0
  exact n_ret X Y rfl rfl dUL_init_21
set_option maxRecDepth 20000 in
theorem kUS_init_1 (E : bz_E) (b0 : Nat) (hAd : ∀ i, i < 235 → E.2.1 i = b0 + bn_pos i) : bn_Ct E b0 yUS_init (.code yUS_init prog_9_method_1_code 1 none) 3 62 48 7704 [.ref (b0 + 1)] nS_2 mM_0 nS_98 mM_2 := by
  refine bn_met (by decide +kernel) rfl (Nat.le_of_ble_eq_true rfl) (fun K X Y => ?_)
  have X : bn_X K E b0 prog_9_method_1_code 1 "UnitsWrong$State" 3 62 48 7704 := X
  show bn_J K b0 1 0 0 0 [(0, .ref (b0 + 1))] [] nS_2 mM_0
  refine n_aload_n X dUS_init_0 rfl 0 rfl ?_
  refine n_obj X wk_35 wk_28 wk_29 dUS_init_1 (by decide) (by decide) (Nat.le_of_ble_eq_true rfl) ?_
  refine n_aload_n X dUS_init_4 rfl 0 rfl ?_
  refine n_iconst X dUS_init_5 ?_
  refine n_newJ X (n := 4) (L := 2) (by decide +kernel) (by decide) (by decide) (fun _ => rfl) (by decide) (by decide) dUS_init_6 ?_
  show bn_J K b0 1 8 1 4 [(0, .ref (b0 + 1))] [.ref (b0 + 2), .ref (b0 + 1)] nS_3 mM_0
  refine n_puta X Y (kf := 0) ri_7 ry_7 rk_7 rn_7 rfl (by decide +kernel : nS_3[1]? = some (.inr (7, [(5, 0), (5, 0), (5, 0), (5, 0), (5, 0), (5, 0), (5, 0), (5, 0), (5, 0), (5, 0), (5, 0), (5, 0), (5, 0), (0, 0), (0, 0), (0, 0), (0, 0), (0, 0)]))) (by decide) wk_211 (t := 2) rfl rfl rfl (hAd 2 (by decide)) rfl rfl dUS_init_8 ?_
  show bn_J K b0 1 11 1 4 [(0, .ref (b0 + 1))] [] nS_4 mM_0
  refine n_aload_n X dUS_init_11 rfl 0 rfl ?_
  refine n_iconst X dUS_init_12 ?_
  refine n_newI X (n := 4) (L := 3) (by decide +kernel) (by decide) (by decide) (fun _ => rfl) (by decide) (by decide) dUS_init_13 ?_
  show bn_J K b0 1 15 2 8 [(0, .ref (b0 + 1))] [.ref (b0 + 3), .ref (b0 + 1)] nS_5 mM_0
  refine n_puta X Y (kf := 1) ri_7 ry_7 rk_7 rn_7 rfl (by decide +kernel : nS_5[1]? = some (.inr (7, [(4, 2), (5, 0), (5, 0), (5, 0), (5, 0), (5, 0), (5, 0), (5, 0), (5, 0), (5, 0), (5, 0), (5, 0), (5, 0), (0, 0), (0, 0), (0, 0), (0, 0), (0, 0)]))) (by decide) wk_214 (t := 3) rfl rfl rfl (hAd 3 (by decide)) rfl rfl dUS_init_15 ?_
  show bn_J K b0 1 18 2 8 [(0, .ref (b0 + 1))] [] nS_6 mM_0
  refine n_aload_n X dUS_init_18 rfl 0 rfl ?_
  refine n_bipush X dUS_init_19 rfl ?_
  refine n_newI X (n := 16) (L := 4) (by decide +kernel) (by decide) (by decide) (fun _ => rfl) (by decide) (by decide) dUS_init_21 ?_
  show bn_J K b0 1 23 3 24 [(0, .ref (b0 + 1))] [.ref (b0 + 4), .ref (b0 + 1)] nS_7 mM_0
  refine n_puta X Y (kf := 2) ri_7 ry_7 rk_7 rn_7 rfl (by decide +kernel : nS_7[1]? = some (.inr (7, [(4, 2), (4, 3), (5, 0), (5, 0), (5, 0), (5, 0), (5, 0), (5, 0), (5, 0), (5, 0), (5, 0), (5, 0), (5, 0), (0, 0), (0, 0), (0, 0), (0, 0), (0, 0)]))) (by decide) wk_217 (t := 4) rfl rfl rfl (hAd 4 (by decide)) rfl rfl dUS_init_23 ?_
  show bn_J K b0 1 26 3 24 [(0, .ref (b0 + 1))] [] nS_8 mM_0
  refine n_aload_n X dUS_init_26 rfl 0 rfl ?_
  refine n_bipush X dUS_init_27 rfl ?_
  refine n_newI X (n := 16) (L := 5) (by decide +kernel) (by decide) (by decide) (fun _ => rfl) (by decide) (by decide) dUS_init_29 ?_
  show bn_J K b0 1 31 4 40 [(0, .ref (b0 + 1))] [.ref (b0 + 5), .ref (b0 + 1)] nS_9 mM_0
  refine n_puta X Y (kf := 3) ri_7 ry_7 rk_7 rn_7 rfl (by decide +kernel : nS_9[1]? = some (.inr (7, [(4, 2), (4, 3), (4, 4), (5, 0), (5, 0), (5, 0), (5, 0), (5, 0), (5, 0), (5, 0), (5, 0), (5, 0), (5, 0), (0, 0), (0, 0), (0, 0), (0, 0), (0, 0)]))) (by decide) wk_219 (t := 5) rfl rfl rfl (hAd 5 (by decide)) rfl rfl dUS_init_31 ?_
  show bn_J K b0 1 34 4 40 [(0, .ref (b0 + 1))] [] nS_10 mM_0
  refine n_aload_n X dUS_init_34 rfl 0 rfl ?_
  refine n_bipush X dUS_init_35 rfl ?_
  refine n_newI X (n := 8) (L := 6) (by decide +kernel) (by decide) (by decide) (fun _ => rfl) (by decide) (by decide) dUS_init_37 ?_
  show bn_J K b0 1 39 5 48 [(0, .ref (b0 + 1))] [.ref (b0 + 6), .ref (b0 + 1)] nS_11 mM_0
  refine n_puta X Y (kf := 4) ri_7 ry_7 rk_7 rn_7 rfl (by decide +kernel : nS_11[1]? = some (.inr (7, [(4, 2), (4, 3), (4, 4), (4, 5), (5, 0), (5, 0), (5, 0), (5, 0), (5, 0), (5, 0), (5, 0), (5, 0), (5, 0), (0, 0), (0, 0), (0, 0), (0, 0), (0, 0)]))) (by decide) wk_221 (t := 6) rfl rfl rfl (hAd 6 (by decide)) rfl rfl dUS_init_39 ?_
  show bn_J K b0 1 42 5 48 [(0, .ref (b0 + 1))] [] nS_12 mM_0
  refine n_aload_n X dUS_init_42 rfl 0 rfl ?_
  refine n_sipush X dUS_init_43 rfl ?_
  refine n_newZ X (n := 260) (L := 7) (by decide +kernel) (by decide) (by decide) (fun _ => rfl) (by decide) (by decide) dUS_init_46 ?_
  show bn_J K b0 1 48 6 308 [(0, .ref (b0 + 1))] [.ref (b0 + 7), .ref (b0 + 1)] nS_13 mM_0
  refine n_puta X Y (kf := 5) ri_7 ry_7 rk_7 rn_7 rfl (by decide +kernel : nS_13[1]? = some (.inr (7, [(4, 2), (4, 3), (4, 4), (4, 5), (4, 6), (5, 0), (5, 0), (5, 0), (5, 0), (5, 0), (5, 0), (5, 0), (5, 0), (0, 0), (0, 0), (0, 0), (0, 0), (0, 0)]))) (by decide) wk_224 (t := 7) rfl rfl rfl (hAd 7 (by decide)) rfl rfl dUS_init_48 ?_
  show bn_J K b0 1 51 6 308 [(0, .ref (b0 + 1))] [] nS_14 mM_0
  refine n_aload_n X dUS_init_51 rfl 0 rfl ?_
  refine n_newO X (ci := 8) (fs := [(5, 0), (5, 0), (5, 0), (5, 0), (5, 0)]) (L := 8) (by decide +kernel) ri_8 ry_8 rk_8 wk_36 wk_37 wk_3 rfl (by decide +kernel) (fun _ => rfl) (by decide) (by decide) dUS_init_52 ?_
  show bn_J K b0 1 55 7 313 [(0, .ref (b0 + 1))] [.ref (b0 + 8), .ref (b0 + 1)] nS_15 mM_0
  refine n_dup X dUS_init_55 rfl ?_
  refine n_sipush X dUS_init_56 rfl ?_
  refine n_ci X (kUTe_init_8 E b0 hAd) gkUTe_init rfl wk_39 rfl (by decide) (by decide) wk_38 rfl (Nat.le_of_ble_eq_true rfl) (by decide) (by decide) dUS_init_59 ?_
  show bn_J K b0 1 62 14 2716 [(0, .ref (b0 + 1))] [.ref (b0 + 8), .ref (b0 + 1)] nS_29 mM_0
  refine n_puta X Y (kf := 6) ri_7 ry_7 rk_7 rn_7 rfl (by decide +kernel : nS_29[1]? = some (.inr (7, [(4, 2), (4, 3), (4, 4), (4, 5), (4, 6), (4, 7), (5, 0), (5, 0), (5, 0), (5, 0), (5, 0), (5, 0), (5, 0), (0, 0), (0, 0), (0, 0), (0, 0), (0, 0)]))) (by decide) wk_226 (t := 8) rfl rfl rfl (hAd 8 (by decide)) rfl rfl dUS_init_62 ?_
  show bn_J K b0 1 65 14 2716 [(0, .ref (b0 + 1))] [] nS_30 mM_0
  refine n_aload_n X dUS_init_65 rfl 0 rfl ?_
  refine n_newO X (ci := 8) (fs := [(5, 0), (5, 0), (5, 0), (5, 0), (5, 0)]) (L := 16) (by decide +kernel) ri_8 ry_8 rk_8 wk_36 wk_37 wk_3 rfl (by decide +kernel) (fun _ => rfl) (by decide) (by decide) dUS_init_66 ?_
  show bn_J K b0 1 69 15 2721 [(0, .ref (b0 + 1))] [.ref (b0 + 16), .ref (b0 + 1)] nS_31 mM_0
  refine n_dup X dUS_init_69 rfl ?_
  refine n_bipush X dUS_init_70 rfl ?_
  refine n_ci X (kUTe_init_16 E b0 hAd) gkUTe_init rfl wk_39 rfl (by decide) (by decide) wk_38 rfl (Nat.le_of_ble_eq_true rfl) (by decide) (by decide) dUS_init_72 ?_
  show bn_J K b0 1 75 22 2766 [(0, .ref (b0 + 1))] [.ref (b0 + 16), .ref (b0 + 1)] nS_45 mM_0
  refine n_puta X Y (kf := 7) ri_7 ry_7 rk_7 rn_7 rfl (by decide +kernel : nS_45[1]? = some (.inr (7, [(4, 2), (4, 3), (4, 4), (4, 5), (4, 6), (4, 7), (4, 8), (5, 0), (5, 0), (5, 0), (5, 0), (5, 0), (5, 0), (0, 0), (0, 0), (0, 0), (0, 0), (0, 0)]))) (by decide) wk_229 (t := 16) rfl rfl rfl (hAd 16 (by decide)) rfl rfl dUS_init_75 ?_
  show bn_J K b0 1 78 22 2766 [(0, .ref (b0 + 1))] [] nS_46 mM_0
  refine n_aload_n X dUS_init_78 rfl 0 rfl ?_
  refine n_newO X (ci := 10) (fs := [(5, 0), (5, 0), (5, 0), (5, 0), (5, 0), (5, 0)]) (L := 24) (by decide +kernel) ri_10 ry_10 rk_10 wk_99 wk_100 wk_5 rfl (by decide +kernel) (fun _ => rfl) (by decide) (by decide) dUS_init_79 ?_
  show bn_J K b0 1 82 23 2772 [(0, .ref (b0 + 1))] [.ref (b0 + 24), .ref (b0 + 1)] nS_47 mM_0
  refine n_dup X dUS_init_82 rfl ?_
  refine n_cin X (kUTr_init_24 E b0 hAd) gkUTr_init rfl wk_102 rfl (by decide) (by decide) nk_101 rfl (Nat.le_of_ble_eq_true rfl) (by decide) (by decide) dUS_init_83 ?_
  show bn_J K b0 1 86 31 3615 [(0, .ref (b0 + 1))] [.ref (b0 + 24), .ref (b0 + 1)] nS_63 mM_0
  refine n_puta X Y (kf := 8) ri_7 ry_7 rk_7 rn_7 rfl (by decide +kernel : nS_63[1]? = some (.inr (7, [(4, 2), (4, 3), (4, 4), (4, 5), (4, 6), (4, 7), (4, 8), (4, 16), (5, 0), (5, 0), (5, 0), (5, 0), (5, 0), (0, 0), (0, 0), (0, 0), (0, 0), (0, 0)]))) (by decide) wk_233 (t := 24) rfl rfl rfl (hAd 24 (by decide)) rfl rfl dUS_init_86 ?_
  show bn_J K b0 1 89 31 3615 [(0, .ref (b0 + 1))] [] nS_64 mM_0
  refine n_aload_n X dUS_init_89 rfl 0 rfl ?_
  refine n_newO X (ci := 4) (fs := [(5, 0), (5, 0), (5, 0), (5, 0), (5, 0), (5, 0), (5, 0), (5, 0), (5, 0)]) (L := 33) (by decide +kernel) ri_4 ry_4 rk_4 wk_135 wk_136 wk_6 rfl (by decide +kernel) (fun _ => rfl) (by decide) (by decide) dUS_init_90 ?_
  show bn_J K b0 1 93 32 3624 [(0, .ref (b0 + 1))] [.ref (b0 + 33), .ref (b0 + 1)] nS_65 mM_0
  refine n_dup X dUS_init_93 rfl ?_
  refine n_cin X (kUD_init_33 E b0 hAd) gkUD_init rfl wk_138 rfl (by decide) (by decide) nk_137 rfl (Nat.le_of_ble_eq_true rfl) (by decide) (by decide) dUS_init_94 ?_
  show bn_J K b0 1 97 43 5327 [(0, .ref (b0 + 1))] [.ref (b0 + 33), .ref (b0 + 1)] nS_87 mM_0
  refine n_puta X Y (kf := 9) ri_7 ry_7 rk_7 rn_7 rfl (by decide +kernel : nS_87[1]? = some (.inr (7, [(4, 2), (4, 3), (4, 4), (4, 5), (4, 6), (4, 7), (4, 8), (4, 16), (4, 24), (5, 0), (5, 0), (5, 0), (5, 0), (0, 0), (0, 0), (0, 0), (0, 0), (0, 0)]))) (by decide) wk_236 (t := 33) rfl rfl rfl (hAd 33 (by decide)) rfl rfl dUS_init_97 ?_
  show bn_J K b0 1 100 43 5327 [(0, .ref (b0 + 1))] [] nS_88 mM_0
  refine n_aload_n X dUS_init_100 rfl 0 rfl ?_
  refine n_newO X (ci := 5) (fs := [(5, 0), (5, 0), (0, 0)]) (L := 45) (by decide +kernel) ri_5 ry_5 rk_5 wk_191 wk_192 wk_7 rfl (by decide +kernel) (fun _ => rfl) (by decide) (by decide) dUS_init_101 ?_
  show bn_J K b0 1 104 44 5330 [(0, .ref (b0 + 1))] [.ref (b0 + 45), .ref (b0 + 1)] nS_89 mM_0
  refine n_dup X dUS_init_104 rfl ?_
  refine n_cin X (kUL_init_45 E b0 hAd) gkUL_init rfl wk_194 rfl (by decide) (by decide) nk_193 rfl (Nat.le_of_ble_eq_true rfl) (by decide) (by decide) dUS_init_105 ?_
  show bn_J K b0 1 108 46 5624 [(0, .ref (b0 + 1))] [.ref (b0 + 45), .ref (b0 + 1)] nS_93 mM_0
  refine n_puta X Y (kf := 10) ri_7 ry_7 rk_7 rn_7 rfl (by decide +kernel : nS_93[1]? = some (.inr (7, [(4, 2), (4, 3), (4, 4), (4, 5), (4, 6), (4, 7), (4, 8), (4, 16), (4, 24), (4, 33), (5, 0), (5, 0), (5, 0), (0, 0), (0, 0), (0, 0), (0, 0), (0, 0)]))) (by decide) wk_240 (t := 45) rfl rfl rfl (hAd 45 (by decide)) rfl rfl dUS_init_108 ?_
  show bn_J K b0 1 111 46 5624 [(0, .ref (b0 + 1))] [] nS_94 mM_0
  refine n_aload_n X dUS_init_111 rfl 0 rfl ?_
  refine n_sipush X dUS_init_112 rfl ?_
  refine n_newI X (n := 1040) (L := 48) (by decide +kernel) (by decide) (by decide) (fun _ => rfl) (by decide) (by decide) dUS_init_115 ?_
  show bn_J K b0 1 117 47 6664 [(0, .ref (b0 + 1))] [.ref (b0 + 48), .ref (b0 + 1)] nS_95 mM_0
  refine n_puta X Y (kf := 11) ri_7 ry_7 rk_7 rn_7 rfl (by decide +kernel : nS_95[1]? = some (.inr (7, [(4, 2), (4, 3), (4, 4), (4, 5), (4, 6), (4, 7), (4, 8), (4, 16), (4, 24), (4, 33), (4, 45), (5, 0), (5, 0), (0, 0), (0, 0), (0, 0), (0, 0), (0, 0)]))) (by decide) wk_244 (t := 48) rfl rfl rfl (hAd 48 (by decide)) rfl rfl dUS_init_117 ?_
  show bn_J K b0 1 120 47 6664 [(0, .ref (b0 + 1))] [] nS_96 mM_0
  refine n_aload_n X dUS_init_120 rfl 0 rfl ?_
  refine n_sipush X dUS_init_121 rfl ?_
  refine n_newJ X (n := 1040) (L := 49) (by decide +kernel) (by decide) (by decide) (fun _ => rfl) (by decide) (by decide) dUS_init_124 ?_
  show bn_J K b0 1 126 48 7704 [(0, .ref (b0 + 1))] [.ref (b0 + 49), .ref (b0 + 1)] nS_97 mM_0
  refine n_puta X Y (kf := 12) ri_7 ry_7 rk_7 rn_7 rfl (by decide +kernel : nS_97[1]? = some (.inr (7, [(4, 2), (4, 3), (4, 4), (4, 5), (4, 6), (4, 7), (4, 8), (4, 16), (4, 24), (4, 33), (4, 45), (4, 48), (5, 0), (0, 0), (0, 0), (0, 0), (0, 0), (0, 0)]))) (by decide) wk_247 (t := 49) rfl rfl rfl (hAd 49 (by decide)) rfl rfl dUS_init_126 ?_
  show bn_J K b0 1 129 48 7704 [(0, .ref (b0 + 1))] [] nS_98 mM_0
  refine n_aload_n X dUS_init_129 rfl 0 rfl ?_
  refine n_geta X (kf := 1) ri_7 rfl (by decide +kernel : nS_98[1]? = some (.inr (7, [(4, 2), (4, 3), (4, 4), (4, 5), (4, 6), (4, 7), (4, 8), (4, 16), (4, 24), (4, 33), (4, 45), (4, 48), (4, 49), (0, 0), (0, 0), (0, 0), (0, 0), (0, 0)]))) (by decide) wk_214 rfl (hAd 3 (by decide)) dUS_init_130 ?_
  show bn_J K b0 1 133 48 7704 [(0, .ref (b0 + 1))] [.ref (b0 + 3)] nS_98 mM_0
  refine n_iconst X dUS_init_133 ?_
  refine n_cs X (n_fill E b0 (a := 3) (n := 4) (v := (-1)) (by decide +kernel) (by decide +kernel) (by decide)) gyJA_fill1 wk_209 rfl (by decide) (by decide) wk_208 rfl (Nat.le_of_ble_eq_true rfl) (by decide) (by decide) dUS_init_134 ?_
  show bn_J K b0 1 137 48 7704 [(0, .ref (b0 + 1))] [] nS_98 mM_1
  refine n_aload_n X dUS_init_137 rfl 0 rfl ?_
  refine n_geta X (kf := 3) ri_7 rfl (by decide +kernel : nS_98[1]? = some (.inr (7, [(4, 2), (4, 3), (4, 4), (4, 5), (4, 6), (4, 7), (4, 8), (4, 16), (4, 24), (4, 33), (4, 45), (4, 48), (4, 49), (0, 0), (0, 0), (0, 0), (0, 0), (0, 0)]))) (by decide) wk_219 rfl (hAd 5 (by decide)) dUS_init_138 ?_
  show bn_J K b0 1 141 48 7704 [(0, .ref (b0 + 1))] [.ref (b0 + 5)] nS_98 mM_1
  refine n_iconst X dUS_init_141 ?_
  refine n_cs X (n_fill E b0 (a := 5) (n := 16) (v := (-1)) (by decide +kernel) (by decide +kernel) (by decide)) gyJA_fill1 wk_209 rfl (by decide) (by decide) wk_208 rfl (Nat.le_of_ble_eq_true rfl) (by decide) (by decide) dUS_init_142 ?_
  show bn_J K b0 1 145 48 7704 [(0, .ref (b0 + 1))] [] nS_98 mM_2
  exact n_ret X Y rfl rfl dUS_init_145
set_option maxRecDepth 20000 in
theorem kUX_init_50 (E : bz_E) (b0 : Nat) (hAd : ∀ i, i < 235 → E.2.1 i = b0 + bn_pos i) : bn_Ct E b0 yUX_init (.code yUX_init prog_11_method_1_code 1 none) 1 20 2 660 [.ref (b0 + 50)] nS_100 mM_2 nS_104 mM_2 := by
  refine bn_met (by decide +kernel) rfl (Nat.le_of_ble_eq_true rfl) (fun K X Y => ?_)
  have X : bn_X K E b0 prog_11_method_1_code 1 "UnitsWrong$Text" 1 20 2 660 := X
  show bn_J K b0 1 0 0 0 [(0, .ref (b0 + 50))] [] nS_100 mM_2
  refine n_aload_n X dUX_init_0 rfl 0 rfl ?_
  refine n_obj X wk_304 wk_28 wk_29 dUX_init_1 (by decide) (by decide) (Nat.le_of_ble_eq_true rfl) ?_
  refine n_aload_n X dUX_init_4 rfl 0 rfl ?_
  refine n_sipush X dUX_init_5 rfl ?_
  refine n_newI X (n := 600) (L := 51) (by decide +kernel) (by decide) (by decide) (fun _ => rfl) (by decide) (by decide) dUX_init_8 ?_
  show bn_J K b0 1 10 1 600 [(0, .ref (b0 + 50))] [.ref (b0 + 51), .ref (b0 + 50)] nS_101 mM_2
  refine n_puta X Y (kf := 0) ri_9 ry_9 rk_9 rn_9 rfl (by decide +kernel : nS_101[50]? = some (.inr (9, [(5, 0), (5, 0), (0, 0), (0, 0), (0, 0), (0, 0), (0, 0), (0, 0)]))) (by decide) wk_305 (t := 51) rfl rfl rfl (hAd 51 (by decide)) rfl rfl dUX_init_10 ?_
  show bn_J K b0 1 13 1 600 [(0, .ref (b0 + 50))] [] nS_102 mM_2
  refine n_aload_n X dUX_init_13 rfl 0 rfl ?_
  refine n_bipush X dUX_init_14 rfl ?_
  refine n_newI X (n := 60) (L := 52) (by decide +kernel) (by decide) (by decide) (fun _ => rfl) (by decide) (by decide) dUX_init_16 ?_
  show bn_J K b0 1 18 2 660 [(0, .ref (b0 + 50))] [.ref (b0 + 52), .ref (b0 + 50)] nS_103 mM_2
  refine n_puta X Y (kf := 1) ri_9 ry_9 rk_9 rn_9 rfl (by decide +kernel : nS_103[50]? = some (.inr (9, [(4, 51), (5, 0), (0, 0), (0, 0), (0, 0), (0, 0), (0, 0), (0, 0)]))) (by decide) wk_306 (t := 52) rfl rfl rfl (hAd 52 (by decide)) rfl rfl dUX_init_18 ?_
  show bn_J K b0 1 21 2 660 [(0, .ref (b0 + 50))] [] nS_104 mM_2
  exact n_ret X Y rfl rfl dUX_init_21
set_option maxRecDepth 20000 in
theorem kUC_init_53 (E : bz_E) (b0 : Nat) (hAd : ∀ i, i < 235 → E.2.1 i = b0 + bn_pos i) : bn_Ct E b0 yUC_init (.code yUC_init prog_5_method_1_code 1 none) 1 20 11 2167 [.ref (b0 + 53)] nS_106 mM_2 nS_128 mM_3 := by
  refine bn_met (by decide +kernel) rfl (Nat.le_of_ble_eq_true rfl) (fun K X Y => ?_)
  have X : bn_X K E b0 prog_5_method_1_code 1 "UnitsWrong$Course" 1 20 11 2167 := X
  show bn_J K b0 1 0 0 0 [(0, .ref (b0 + 53))] [] nS_106 mM_2
  refine n_aload_n X dUC_init_0 rfl 0 rfl ?_
  refine n_obj X wk_337 wk_28 wk_29 dUC_init_1 (by decide) (by decide) (Nat.le_of_ble_eq_true rfl) ?_
  refine n_aload_n X dUC_init_4 rfl 0 rfl ?_
  refine n_iconst X dUC_init_5 ?_
  refine n_newJ X (n := 4) (L := 54) (by decide +kernel) (by decide) (by decide) (fun _ => rfl) (by decide) (by decide) dUC_init_6 ?_
  show bn_J K b0 1 8 1 4 [(0, .ref (b0 + 53))] [.ref (b0 + 54), .ref (b0 + 53)] nS_107 mM_2
  refine n_puta X Y (kf := 0) ri_3 ry_3 rk_3 rn_3 rfl (by decide +kernel : nS_107[53]? = some (.inr (3, [(5, 0), (5, 0), (5, 0), (5, 0), (5, 0), (5, 0), (5, 0), (5, 0), (5, 0), (5, 0), (5, 0), (2, 0), (2, 0), (0, 0), (0, 0), (0, 0), (0, 0), (0, 0), (0, 0)]))) (by decide) wk_338 (t := 54) rfl rfl rfl (hAd 54 (by decide)) rfl rfl dUC_init_8 ?_
  show bn_J K b0 1 11 1 4 [(0, .ref (b0 + 53))] [] nS_108 mM_2
  refine n_aload_n X dUC_init_11 rfl 0 rfl ?_
  refine n_iconst X dUC_init_12 ?_
  refine n_newJ X (n := 4) (L := 55) (by decide +kernel) (by decide) (by decide) (fun _ => rfl) (by decide) (by decide) dUC_init_13 ?_
  show bn_J K b0 1 15 2 8 [(0, .ref (b0 + 53))] [.ref (b0 + 55), .ref (b0 + 53)] nS_109 mM_2
  refine n_puta X Y (kf := 1) ri_3 ry_3 rk_3 rn_3 rfl (by decide +kernel : nS_109[53]? = some (.inr (3, [(4, 54), (5, 0), (5, 0), (5, 0), (5, 0), (5, 0), (5, 0), (5, 0), (5, 0), (5, 0), (5, 0), (2, 0), (2, 0), (0, 0), (0, 0), (0, 0), (0, 0), (0, 0), (0, 0)]))) (by decide) wk_341 (t := 55) rfl rfl rfl (hAd 55 (by decide)) rfl rfl dUC_init_15 ?_
  show bn_J K b0 1 18 2 8 [(0, .ref (b0 + 53))] [] nS_110 mM_2
  refine n_aload_n X dUC_init_18 rfl 0 rfl ?_
  refine n_sipush X dUC_init_19 rfl ?_
  refine n_newI X (n := 1040) (L := 56) (by decide +kernel) (by decide) (by decide) (fun _ => rfl) (by decide) (by decide) dUC_init_22 ?_
  show bn_J K b0 1 24 3 1048 [(0, .ref (b0 + 53))] [.ref (b0 + 56), .ref (b0 + 53)] nS_111 mM_2
  refine n_puta X Y (kf := 2) ri_3 ry_3 rk_3 rn_3 rfl (by decide +kernel : nS_111[53]? = some (.inr (3, [(4, 54), (4, 55), (5, 0), (5, 0), (5, 0), (5, 0), (5, 0), (5, 0), (5, 0), (5, 0), (5, 0), (2, 0), (2, 0), (0, 0), (0, 0), (0, 0), (0, 0), (0, 0), (0, 0)]))) (by decide) wk_344 (t := 56) rfl rfl rfl (hAd 56 (by decide)) rfl rfl dUC_init_24 ?_
  show bn_J K b0 1 27 3 1048 [(0, .ref (b0 + 53))] [] nS_112 mM_2
  refine n_aload_n X dUC_init_27 rfl 0 rfl ?_
  refine n_sipush X dUC_init_28 rfl ?_
  refine n_newJ X (n := 1040) (L := 57) (by decide +kernel) (by decide) (by decide) (fun _ => rfl) (by decide) (by decide) dUC_init_31 ?_
  show bn_J K b0 1 33 4 2088 [(0, .ref (b0 + 53))] [.ref (b0 + 57), .ref (b0 + 53)] nS_113 mM_2
  refine n_puta X Y (kf := 3) ri_3 ry_3 rk_3 rn_3 rfl (by decide +kernel : nS_113[53]? = some (.inr (3, [(4, 54), (4, 55), (4, 56), (5, 0), (5, 0), (5, 0), (5, 0), (5, 0), (5, 0), (5, 0), (5, 0), (2, 0), (2, 0), (0, 0), (0, 0), (0, 0), (0, 0), (0, 0), (0, 0)]))) (by decide) wk_347 (t := 57) rfl rfl rfl (hAd 57 (by decide)) rfl rfl dUC_init_33 ?_
  show bn_J K b0 1 36 4 2088 [(0, .ref (b0 + 53))] [] nS_114 mM_2
  refine n_aload_n X dUC_init_36 rfl 0 rfl ?_
  refine n_bipush X dUC_init_37 rfl ?_
  refine n_newI X (n := 32) (L := 58) (by decide +kernel) (by decide) (by decide) (fun _ => rfl) (by decide) (by decide) dUC_init_39 ?_
  show bn_J K b0 1 41 5 2120 [(0, .ref (b0 + 53))] [.ref (b0 + 58), .ref (b0 + 53)] nS_115 mM_2
  refine n_puta X Y (kf := 4) ri_3 ry_3 rk_3 rn_3 rfl (by decide +kernel : nS_115[53]? = some (.inr (3, [(4, 54), (4, 55), (4, 56), (4, 57), (5, 0), (5, 0), (5, 0), (5, 0), (5, 0), (5, 0), (5, 0), (2, 0), (2, 0), (0, 0), (0, 0), (0, 0), (0, 0), (0, 0), (0, 0)]))) (by decide) wk_349 (t := 58) rfl rfl rfl (hAd 58 (by decide)) rfl rfl dUC_init_41 ?_
  show bn_J K b0 1 44 5 2120 [(0, .ref (b0 + 53))] [] nS_116 mM_2
  refine n_aload_n X dUC_init_44 rfl 0 rfl ?_
  refine n_bipush X dUC_init_45 rfl ?_
  refine n_newI X (n := 16) (L := 59) (by decide +kernel) (by decide) (by decide) (fun _ => rfl) (by decide) (by decide) dUC_init_47 ?_
  show bn_J K b0 1 49 6 2136 [(0, .ref (b0 + 53))] [.ref (b0 + 59), .ref (b0 + 53)] nS_117 mM_2
  refine n_puta X Y (kf := 5) ri_3 ry_3 rk_3 rn_3 rfl (by decide +kernel : nS_117[53]? = some (.inr (3, [(4, 54), (4, 55), (4, 56), (4, 57), (4, 58), (5, 0), (5, 0), (5, 0), (5, 0), (5, 0), (5, 0), (2, 0), (2, 0), (0, 0), (0, 0), (0, 0), (0, 0), (0, 0), (0, 0)]))) (by decide) wk_350 (t := 59) rfl rfl rfl (hAd 59 (by decide)) rfl rfl dUC_init_49 ?_
  show bn_J K b0 1 52 6 2136 [(0, .ref (b0 + 53))] [] nS_118 mM_2
  refine n_aload_n X dUC_init_52 rfl 0 rfl ?_
  refine n_iconst X dUC_init_53 ?_
  refine n_newI X (n := 4) (L := 60) (by decide +kernel) (by decide) (by decide) (fun _ => rfl) (by decide) (by decide) dUC_init_54 ?_
  show bn_J K b0 1 56 7 2140 [(0, .ref (b0 + 53))] [.ref (b0 + 60), .ref (b0 + 53)] nS_119 mM_2
  refine n_puta X Y (kf := 6) ri_3 ry_3 rk_3 rn_3 rfl (by decide +kernel : nS_119[53]? = some (.inr (3, [(4, 54), (4, 55), (4, 56), (4, 57), (4, 58), (4, 59), (5, 0), (5, 0), (5, 0), (5, 0), (5, 0), (2, 0), (2, 0), (0, 0), (0, 0), (0, 0), (0, 0), (0, 0), (0, 0)]))) (by decide) wk_351 (t := 60) rfl rfl rfl (hAd 60 (by decide)) rfl rfl dUC_init_56 ?_
  show bn_J K b0 1 59 7 2140 [(0, .ref (b0 + 53))] [] nS_120 mM_2
  refine n_aload_n X dUC_init_59 rfl 0 rfl ?_
  refine n_bipush X dUC_init_60 rfl ?_
  refine n_newI X (n := 8) (L := 61) (by decide +kernel) (by decide) (by decide) (fun _ => rfl) (by decide) (by decide) dUC_init_62 ?_
  show bn_J K b0 1 64 8 2148 [(0, .ref (b0 + 53))] [.ref (b0 + 61), .ref (b0 + 53)] nS_121 mM_2
  refine n_puta X Y (kf := 7) ri_3 ry_3 rk_3 rn_3 rfl (by decide +kernel : nS_121[53]? = some (.inr (3, [(4, 54), (4, 55), (4, 56), (4, 57), (4, 58), (4, 59), (4, 60), (5, 0), (5, 0), (5, 0), (5, 0), (2, 0), (2, 0), (0, 0), (0, 0), (0, 0), (0, 0), (0, 0), (0, 0)]))) (by decide) wk_352 (t := 61) rfl rfl rfl (hAd 61 (by decide)) rfl rfl dUC_init_64 ?_
  show bn_J K b0 1 67 8 2148 [(0, .ref (b0 + 53))] [] nS_122 mM_2
  refine n_aload_n X dUC_init_67 rfl 0 rfl ?_
  refine n_iconst X dUC_init_68 ?_
  refine n_newI X (n := 3) (L := 62) (by decide +kernel) (by decide) (by decide) (fun _ => rfl) (by decide) (by decide) dUC_init_69 ?_
  show bn_J K b0 1 71 9 2151 [(0, .ref (b0 + 53))] [.ref (b0 + 62), .ref (b0 + 53)] nS_123 mM_2
  refine n_puta X Y (kf := 8) ri_3 ry_3 rk_3 rn_3 rfl (by decide +kernel : nS_123[53]? = some (.inr (3, [(4, 54), (4, 55), (4, 56), (4, 57), (4, 58), (4, 59), (4, 60), (4, 61), (5, 0), (5, 0), (5, 0), (2, 0), (2, 0), (0, 0), (0, 0), (0, 0), (0, 0), (0, 0), (0, 0)]))) (by decide) wk_353 (t := 62) rfl rfl rfl (hAd 62 (by decide)) rfl rfl dUC_init_71 ?_
  show bn_J K b0 1 74 9 2151 [(0, .ref (b0 + 53))] [] nS_124 mM_2
  refine n_aload_n X dUC_init_74 rfl 0 rfl ?_
  refine n_bipush X dUC_init_75 rfl ?_
  refine n_newI X (n := 8) (L := 63) (by decide +kernel) (by decide) (by decide) (fun _ => rfl) (by decide) (by decide) dUC_init_77 ?_
  show bn_J K b0 1 79 10 2159 [(0, .ref (b0 + 53))] [.ref (b0 + 63), .ref (b0 + 53)] nS_125 mM_2
  refine n_puta X Y (kf := 9) ri_3 ry_3 rk_3 rn_3 rfl (by decide +kernel : nS_125[53]? = some (.inr (3, [(4, 54), (4, 55), (4, 56), (4, 57), (4, 58), (4, 59), (4, 60), (4, 61), (4, 62), (5, 0), (5, 0), (2, 0), (2, 0), (0, 0), (0, 0), (0, 0), (0, 0), (0, 0), (0, 0)]))) (by decide) wk_354 (t := 63) rfl rfl rfl (hAd 63 (by decide)) rfl rfl dUC_init_79 ?_
  show bn_J K b0 1 82 10 2159 [(0, .ref (b0 + 53))] [] nS_126 mM_2
  refine n_aload_n X dUC_init_82 rfl 0 rfl ?_
  refine n_bipush X dUC_init_83 rfl ?_
  refine n_newI X (n := 8) (L := 64) (by decide +kernel) (by decide) (by decide) (fun _ => rfl) (by decide) (by decide) dUC_init_85 ?_
  show bn_J K b0 1 87 11 2167 [(0, .ref (b0 + 53))] [.ref (b0 + 64), .ref (b0 + 53)] nS_127 mM_2
  refine n_puta X Y (kf := 10) ri_3 ry_3 rk_3 rn_3 rfl (by decide +kernel : nS_127[53]? = some (.inr (3, [(4, 54), (4, 55), (4, 56), (4, 57), (4, 58), (4, 59), (4, 60), (4, 61), (4, 62), (4, 63), (5, 0), (2, 0), (2, 0), (0, 0), (0, 0), (0, 0), (0, 0), (0, 0), (0, 0)]))) (by decide) wk_355 (t := 64) rfl rfl rfl (hAd 64 (by decide)) rfl rfl dUC_init_87 ?_
  show bn_J K b0 1 90 11 2167 [(0, .ref (b0 + 53))] [] nS_128 mM_2
  refine n_aload_n X dUC_init_90 rfl 0 rfl ?_
  refine n_iconst X dUC_init_91 ?_
  refine n_puti X (kf := 17) ri_3 ry_3 rk_3 rn_3 rfl (by decide +kernel : nS_128[53]? = some (.inr (3, [(4, 54), (4, 55), (4, 56), (4, 57), (4, 58), (4, 59), (4, 60), (4, 61), (4, 62), (4, 63), (4, 64), (2, 0), (2, 0), (0, 0), (0, 0), (0, 0), (0, 0), (0, 0), (0, 0)]))) (by decide) wk_362 (by decide +kernel) rfl rfl rfl dUC_init_92 ?_
  show bn_J K b0 1 95 11 2167 [(0, .ref (b0 + 53))] [] nS_128 mM_3
  exact n_ret X Y rfl rfl dUC_init_95
set_option maxRecDepth 20000 in
theorem kUQ_init_65 (E : bz_E) (b0 : Nat) (hAd : ∀ i, i < 235 → E.2.1 i = b0 + bn_pos i) : bn_Ct E b0 yUQ_init (.code yUQ_init prog_4_method_1_code 1 none) 1 20 3 90 [.ref (b0 + 65)] nS_130 mM_3 nS_136 mM_3 := by
  refine bn_met (by decide +kernel) rfl (Nat.le_of_ble_eq_true rfl) (fun K X Y => ?_)
  have X : bn_X K E b0 prog_4_method_1_code 1 "UnitsWrong$Claims" 1 20 3 90 := X
  show bn_J K b0 1 0 0 0 [(0, .ref (b0 + 65))] [] nS_130 mM_3
  refine n_aload_n X dUQ_init_0 rfl 0 rfl ?_
  refine n_obj X wk_408 wk_28 wk_29 dUQ_init_1 (by decide) (by decide) (Nat.le_of_ble_eq_true rfl) ?_
  refine n_aload_n X dUQ_init_4 rfl 0 rfl ?_
  refine n_bipush X dUQ_init_5 rfl ?_
  refine n_newJ X (n := 24) (L := 66) (by decide +kernel) (by decide) (by decide) (fun _ => rfl) (by decide) (by decide) dUQ_init_7 ?_
  show bn_J K b0 1 9 1 24 [(0, .ref (b0 + 65))] [.ref (b0 + 66), .ref (b0 + 65)] nS_131 mM_3
  refine n_puta X Y (kf := 0) ri_2 ry_2 rk_2 rn_2 rfl (by decide +kernel : nS_131[65]? = some (.inr (2, [(5, 0), (5, 0), (5, 0), (0, 0), (0, 0)]))) (by decide) wk_409 (t := 66) rfl rfl rfl (hAd 66 (by decide)) rfl rfl dUQ_init_9 ?_
  show bn_J K b0 1 12 1 24 [(0, .ref (b0 + 65))] [] nS_132 mM_3
  refine n_aload_n X dUQ_init_12 rfl 0 rfl ?_
  refine n_bipush X dUQ_init_13 rfl ?_
  refine n_newJ X (n := 24) (L := 67) (by decide +kernel) (by decide) (by decide) (fun _ => rfl) (by decide) (by decide) dUQ_init_15 ?_
  show bn_J K b0 1 17 2 48 [(0, .ref (b0 + 65))] [.ref (b0 + 67), .ref (b0 + 65)] nS_133 mM_3
  refine n_puta X Y (kf := 1) ri_2 ry_2 rk_2 rn_2 rfl (by decide +kernel : nS_133[65]? = some (.inr (2, [(4, 66), (5, 0), (5, 0), (0, 0), (0, 0)]))) (by decide) wk_411 (t := 67) rfl rfl rfl (hAd 67 (by decide)) rfl rfl dUQ_init_17 ?_
  show bn_J K b0 1 20 2 48 [(0, .ref (b0 + 65))] [] nS_134 mM_3
  refine n_aload_n X dUQ_init_20 rfl 0 rfl ?_
  refine n_bipush X dUQ_init_21 rfl ?_
  refine n_newJ X (n := 42) (L := 68) (by decide +kernel) (by decide) (by decide) (fun _ => rfl) (by decide) (by decide) dUQ_init_23 ?_
  show bn_J K b0 1 25 3 90 [(0, .ref (b0 + 65))] [.ref (b0 + 68), .ref (b0 + 65)] nS_135 mM_3
  refine n_puta X Y (kf := 2) ri_2 ry_2 rk_2 rn_2 rfl (by decide +kernel : nS_135[65]? = some (.inr (2, [(4, 66), (4, 67), (5, 0), (0, 0), (0, 0)]))) (by decide) wk_413 (t := 68) rfl rfl rfl (hAd 68 (by decide)) rfl rfl dUQ_init_25 ?_
  show bn_J K b0 1 28 3 90 [(0, .ref (b0 + 65))] [] nS_136 mM_3
  exact n_ret X Y rfl rfl dUQ_init_28
set_option maxRecDepth 20000 in
theorem kUG_init_69 (E : bz_E) (b0 : Nat) (hAd : ∀ i, i < 235 → E.2.1 i = b0 + bn_pos i) : bn_Ct E b0 yUG_init (.code yUG_init prog_8_method_1_code 1 none) 1 20 7 2098 [.ref (b0 + 69)] nS_138 mM_3 nS_152 mM_3 := by
  refine bn_met (by decide +kernel) rfl (Nat.le_of_ble_eq_true rfl) (fun K X Y => ?_)
  have X : bn_X K E b0 prog_8_method_1_code 1 "UnitsWrong$Settlement" 1 20 7 2098 := X
  show bn_J K b0 1 0 0 0 [(0, .ref (b0 + 69))] [] nS_138 mM_3
  refine n_aload_n X dUG_init_0 rfl 0 rfl ?_
  refine n_obj X wk_433 wk_28 wk_29 dUG_init_1 (by decide) (by decide) (Nat.le_of_ble_eq_true rfl) ?_
  refine n_aload_n X dUG_init_4 rfl 0 rfl ?_
  refine n_bipush X dUG_init_5 rfl ?_
  refine n_newI X (n := 10) (L := 70) (by decide +kernel) (by decide) (by decide) (fun _ => rfl) (by decide) (by decide) dUG_init_7 ?_
  show bn_J K b0 1 9 1 10 [(0, .ref (b0 + 69))] [.ref (b0 + 70), .ref (b0 + 69)] nS_139 mM_3
  refine n_puta X Y (kf := 0) ri_6 ry_6 rk_6 rn_6 rfl (by decide +kernel : nS_139[69]? = some (.inr (6, [(5, 0), (5, 0), (5, 0), (0, 0), (5, 0), (5, 0), (5, 0), (5, 0), (0, 0)]))) (by decide) wk_434 (t := 70) rfl rfl rfl (hAd 70 (by decide)) rfl rfl dUG_init_9 ?_
  show bn_J K b0 1 12 1 10 [(0, .ref (b0 + 69))] [] nS_140 mM_3
  refine n_aload_n X dUG_init_12 rfl 0 rfl ?_
  refine n_bipush X dUG_init_13 rfl ?_
  refine n_newI X (n := 10) (L := 71) (by decide +kernel) (by decide) (by decide) (fun _ => rfl) (by decide) (by decide) dUG_init_15 ?_
  show bn_J K b0 1 17 2 20 [(0, .ref (b0 + 69))] [.ref (b0 + 71), .ref (b0 + 69)] nS_141 mM_3
  refine n_puta X Y (kf := 1) ri_6 ry_6 rk_6 rn_6 rfl (by decide +kernel : nS_141[69]? = some (.inr (6, [(4, 70), (5, 0), (5, 0), (0, 0), (5, 0), (5, 0), (5, 0), (5, 0), (0, 0)]))) (by decide) wk_436 (t := 71) rfl rfl rfl (hAd 71 (by decide)) rfl rfl dUG_init_17 ?_
  show bn_J K b0 1 20 2 20 [(0, .ref (b0 + 69))] [] nS_142 mM_3
  refine n_aload_n X dUG_init_20 rfl 0 rfl ?_
  refine n_bipush X dUG_init_21 rfl ?_
  refine n_newJ X (n := 10) (L := 72) (by decide +kernel) (by decide) (by decide) (fun _ => rfl) (by decide) (by decide) dUG_init_23 ?_
  show bn_J K b0 1 25 3 30 [(0, .ref (b0 + 69))] [.ref (b0 + 72), .ref (b0 + 69)] nS_143 mM_3
  refine n_puta X Y (kf := 2) ri_6 ry_6 rk_6 rn_6 rfl (by decide +kernel : nS_143[69]? = some (.inr (6, [(4, 70), (4, 71), (5, 0), (0, 0), (5, 0), (5, 0), (5, 0), (5, 0), (0, 0)]))) (by decide) wk_438 (t := 72) rfl rfl rfl (hAd 72 (by decide)) rfl rfl dUG_init_25 ?_
  show bn_J K b0 1 28 3 30 [(0, .ref (b0 + 69))] [] nS_144 mM_3
  refine n_aload_n X dUG_init_28 rfl 0 rfl ?_
  refine n_bipush X dUG_init_29 rfl ?_
  refine n_newI X (n := 10) (L := 73) (by decide +kernel) (by decide) (by decide) (fun _ => rfl) (by decide) (by decide) dUG_init_31 ?_
  show bn_J K b0 1 33 4 40 [(0, .ref (b0 + 69))] [.ref (b0 + 73), .ref (b0 + 69)] nS_145 mM_3
  refine n_puta X Y (kf := 4) ri_6 ry_6 rk_6 rn_6 rfl (by decide +kernel : nS_145[69]? = some (.inr (6, [(4, 70), (4, 71), (4, 72), (0, 0), (5, 0), (5, 0), (5, 0), (5, 0), (0, 0)]))) (by decide) wk_442 (t := 73) rfl rfl rfl (hAd 73 (by decide)) rfl rfl dUG_init_33 ?_
  show bn_J K b0 1 36 4 40 [(0, .ref (b0 + 69))] [] nS_146 mM_3
  refine n_aload_n X dUG_init_36 rfl 0 rfl ?_
  refine n_bipush X dUG_init_37 rfl ?_
  refine n_newJ X (n := 10) (L := 74) (by decide +kernel) (by decide) (by decide) (fun _ => rfl) (by decide) (by decide) dUG_init_39 ?_
  show bn_J K b0 1 41 5 50 [(0, .ref (b0 + 69))] [.ref (b0 + 74), .ref (b0 + 69)] nS_147 mM_3
  refine n_puta X Y (kf := 5) ri_6 ry_6 rk_6 rn_6 rfl (by decide +kernel : nS_147[69]? = some (.inr (6, [(4, 70), (4, 71), (4, 72), (0, 0), (4, 73), (5, 0), (5, 0), (5, 0), (0, 0)]))) (by decide) wk_443 (t := 74) rfl rfl rfl (hAd 74 (by decide)) rfl rfl dUG_init_41 ?_
  show bn_J K b0 1 44 5 50 [(0, .ref (b0 + 69))] [] nS_148 mM_3
  refine n_aload_n X dUG_init_44 rfl 0 rfl ?_
  refine n_sipush X dUG_init_45 rfl ?_
  refine n_newJ X (n := 1024) (L := 75) (by decide +kernel) (by decide) (by decide) (fun _ => rfl) (by decide) (by decide) dUG_init_48 ?_
  show bn_J K b0 1 50 6 1074 [(0, .ref (b0 + 69))] [.ref (b0 + 75), .ref (b0 + 69)] nS_149 mM_3
  refine n_puta X Y (kf := 6) ri_6 ry_6 rk_6 rn_6 rfl (by decide +kernel : nS_149[69]? = some (.inr (6, [(4, 70), (4, 71), (4, 72), (0, 0), (4, 73), (4, 74), (5, 0), (5, 0), (0, 0)]))) (by decide) wk_444 (t := 75) rfl rfl rfl (hAd 75 (by decide)) rfl rfl dUG_init_50 ?_
  show bn_J K b0 1 53 6 1074 [(0, .ref (b0 + 69))] [] nS_150 mM_3
  refine n_aload_n X dUG_init_53 rfl 0 rfl ?_
  refine n_sipush X dUG_init_54 rfl ?_
  refine n_newI X (n := 1024) (L := 76) (by decide +kernel) (by decide) (by decide) (fun _ => rfl) (by decide) (by decide) dUG_init_57 ?_
  show bn_J K b0 1 59 7 2098 [(0, .ref (b0 + 69))] [.ref (b0 + 76), .ref (b0 + 69)] nS_151 mM_3
  refine n_puta X Y (kf := 7) ri_6 ry_6 rk_6 rn_6 rfl (by decide +kernel : nS_151[69]? = some (.inr (6, [(4, 70), (4, 71), (4, 72), (0, 0), (4, 73), (4, 74), (4, 75), (5, 0), (0, 0)]))) (by decide) wk_445 (t := 76) rfl rfl rfl (hAd 76 (by decide)) rfl rfl dUG_init_59 ?_
  show bn_J K b0 1 62 7 2098 [(0, .ref (b0 + 69))] [] nS_152 mM_3
  exact n_ret X Y rfl rfl dUG_init_62
set_option maxRecDepth 20000 in
theorem kUA_init_77 (E : bz_E) (b0 : Nat) (hAd : ∀ i, i < 235 → E.2.1 i = b0 + bn_pos i) : bn_Ct E b0 yUA_init (.code yUA_init prog_2_method_1_code 1 none) 1 20 3 24 [.ref (b0 + 77)] nS_154 mM_3 nS_160 mM_3 := by
  refine bn_met (by decide +kernel) rfl (Nat.le_of_ble_eq_true rfl) (fun K X Y => ?_)
  have X : bn_X K E b0 prog_2_method_1_code 1 "UnitsWrong$Audits" 1 20 3 24 := X
  show bn_J K b0 1 0 0 0 [(0, .ref (b0 + 77))] [] nS_154 mM_3
  refine n_aload_n X dUA_init_0 rfl 0 rfl ?_
  refine n_obj X wk_471 wk_28 wk_29 dUA_init_1 (by decide) (by decide) (Nat.le_of_ble_eq_true rfl) ?_
  refine n_aload_n X dUA_init_4 rfl 0 rfl ?_
  refine n_bipush X dUA_init_5 rfl ?_
  refine n_newI X (n := 8) (L := 78) (by decide +kernel) (by decide) (by decide) (fun _ => rfl) (by decide) (by decide) dUA_init_7 ?_
  show bn_J K b0 1 9 1 8 [(0, .ref (b0 + 77))] [.ref (b0 + 78), .ref (b0 + 77)] nS_155 mM_3
  refine n_puta X Y (kf := 0) ri_0 ry_0 rk_0 rn_0 rfl (by decide +kernel : nS_155[77]? = some (.inr (0, [(5, 0), (5, 0), (5, 0), (0, 0), (2, 0), (0, 0), (0, 0), (0, 0)]))) (by decide) wk_472 (t := 78) rfl rfl rfl (hAd 78 (by decide)) rfl rfl dUA_init_9 ?_
  show bn_J K b0 1 12 1 8 [(0, .ref (b0 + 77))] [] nS_156 mM_3
  refine n_aload_n X dUA_init_12 rfl 0 rfl ?_
  refine n_bipush X dUA_init_13 rfl ?_
  refine n_newI X (n := 8) (L := 79) (by decide +kernel) (by decide) (by decide) (fun _ => rfl) (by decide) (by decide) dUA_init_15 ?_
  show bn_J K b0 1 17 2 16 [(0, .ref (b0 + 77))] [.ref (b0 + 79), .ref (b0 + 77)] nS_157 mM_3
  refine n_puta X Y (kf := 1) ri_0 ry_0 rk_0 rn_0 rfl (by decide +kernel : nS_157[77]? = some (.inr (0, [(4, 78), (5, 0), (5, 0), (0, 0), (2, 0), (0, 0), (0, 0), (0, 0)]))) (by decide) wk_473 (t := 79) rfl rfl rfl (hAd 79 (by decide)) rfl rfl dUA_init_17 ?_
  show bn_J K b0 1 20 2 16 [(0, .ref (b0 + 77))] [] nS_158 mM_3
  refine n_aload_n X dUA_init_20 rfl 0 rfl ?_
  refine n_bipush X dUA_init_21 rfl ?_
  refine n_newI X (n := 8) (L := 80) (by decide +kernel) (by decide) (by decide) (fun _ => rfl) (by decide) (by decide) dUA_init_23 ?_
  show bn_J K b0 1 25 3 24 [(0, .ref (b0 + 77))] [.ref (b0 + 80), .ref (b0 + 77)] nS_159 mM_3
  refine n_puta X Y (kf := 2) ri_0 ry_0 rk_0 rn_0 rfl (by decide +kernel : nS_159[77]? = some (.inr (0, [(4, 78), (4, 79), (5, 0), (0, 0), (2, 0), (0, 0), (0, 0), (0, 0)]))) (by decide) wk_474 (t := 80) rfl rfl rfl (hAd 80 (by decide)) rfl rfl dUA_init_25 ?_
  show bn_J K b0 1 28 3 24 [(0, .ref (b0 + 77))] [] nS_160 mM_3
  exact n_ret X Y rfl rfl dUA_init_28
set_option maxRecDepth 20000 in
theorem kU_init_0 (E : bz_E) (b0 : Nat) (hAd : ∀ i, i < 235 → E.2.1 i = b0 + bn_pos i) : bn_Ct E b0 yU_init (.code yU_init prog_1_method_1_code 1 none) 4 82 80 12810 [.ref (b0 + 0)] nS_1 mM_0 nS_161 mM_3 := by
  refine bn_met (by decide +kernel) rfl (Nat.le_of_ble_eq_true rfl) (fun K X Y => ?_)
  have X : bn_X K E b0 prog_1_method_1_code 1 "UnitsWrong" 4 82 80 12810 := X
  show bn_J K b0 1 0 0 0 [(0, .ref (b0 + 0))] [] nS_1 mM_0
  refine n_aload_n X dU_init_0 rfl 0 rfl ?_
  refine n_obj X wk_27 wk_28 wk_29 dU_init_1 (by decide) (by decide) (Nat.le_of_ble_eq_true rfl) ?_
  refine n_aload_n X dU_init_4 rfl 0 rfl ?_
  refine n_newO X (ci := 7) (fs := [(5, 0), (5, 0), (5, 0), (5, 0), (5, 0), (5, 0), (5, 0), (5, 0), (5, 0), (5, 0), (5, 0), (5, 0), (5, 0), (0, 0), (0, 0), (0, 0), (0, 0), (0, 0)]) (L := 1) (by decide +kernel) ri_7 ry_7 rk_7 wk_30 wk_31 wk_2 rfl (by decide +kernel) (fun _ => rfl) (by decide) (by decide) dU_init_5 ?_
  show bn_J K b0 1 8 1 18 [(0, .ref (b0 + 0))] [.ref (b0 + 1), .ref (b0 + 0)] nS_2 mM_0
  refine n_dup X dU_init_8 rfl ?_
  refine n_ci X (kUS_init_1 E b0 hAd) gkUS_init rfl wk_33 rfl (by decide) (by decide) wk_32 rfl (Nat.le_of_ble_eq_true rfl) (by decide) (by decide) dU_init_9 ?_
  show bn_J K b0 1 12 49 7722 [(0, .ref (b0 + 0))] [.ref (b0 + 1), .ref (b0 + 0)] nS_98 mM_2
  refine n_puta X Y (kf := 0) ri_11 ry_11 rk_11 rn_11 rfl (by decide +kernel : nS_98[0]? = some (.inr (11, [(5, 0), (5, 0), (5, 0), (5, 0), (5, 0), (5, 0)]))) (by decide) wk_501 (t := 1) rfl rfl rfl (hAd 1 (by decide)) rfl rfl dU_init_12 ?_
  show bn_J K b0 1 15 49 7722 [(0, .ref (b0 + 0))] [] nS_99 mM_2
  refine n_aload_n X dU_init_15 rfl 0 rfl ?_
  refine n_newO X (ci := 9) (fs := [(5, 0), (5, 0), (0, 0), (0, 0), (0, 0), (0, 0), (0, 0), (0, 0)]) (L := 50) (by decide +kernel) ri_9 ry_9 rk_9 wk_299 wk_300 wk_9 rfl (by decide +kernel) (fun _ => rfl) (by decide) (by decide) dU_init_16 ?_
  show bn_J K b0 1 19 50 7730 [(0, .ref (b0 + 0))] [.ref (b0 + 50), .ref (b0 + 0)] nS_100 mM_2
  refine n_dup X dU_init_19 rfl ?_
  refine n_cin X (kUX_init_50 E b0 hAd) gkUX_init rfl wk_302 rfl (by decide) (by decide) nk_301 rfl (Nat.le_of_ble_eq_true rfl) (by decide) (by decide) dU_init_20 ?_
  show bn_J K b0 1 23 52 8390 [(0, .ref (b0 + 0))] [.ref (b0 + 50), .ref (b0 + 0)] nS_104 mM_2
  refine n_puta X Y (kf := 1) ri_11 ry_11 rk_11 rn_11 rfl (by decide +kernel : nS_104[0]? = some (.inr (11, [(4, 1), (5, 0), (5, 0), (5, 0), (5, 0), (5, 0)]))) (by decide) wk_502 (t := 50) rfl rfl rfl (hAd 50 (by decide)) rfl rfl dU_init_23 ?_
  show bn_J K b0 1 26 52 8390 [(0, .ref (b0 + 0))] [] nS_105 mM_2
  refine n_aload_n X dU_init_26 rfl 0 rfl ?_
  refine n_newO X (ci := 3) (fs := [(5, 0), (5, 0), (5, 0), (5, 0), (5, 0), (5, 0), (5, 0), (5, 0), (5, 0), (5, 0), (5, 0), (2, 0), (2, 0), (0, 0), (0, 0), (0, 0), (0, 0), (0, 0), (0, 0)]) (L := 53) (by decide +kernel) ri_3 ry_3 rk_3 wk_332 wk_333 wk_10 rfl (by decide +kernel) (fun _ => rfl) (by decide) (by decide) dU_init_27 ?_
  show bn_J K b0 1 30 53 8409 [(0, .ref (b0 + 0))] [.ref (b0 + 53), .ref (b0 + 0)] nS_106 mM_2
  refine n_dup X dU_init_30 rfl ?_
  refine n_cin X (kUC_init_53 E b0 hAd) gkUC_init rfl wk_335 rfl (by decide) (by decide) nk_334 rfl (Nat.le_of_ble_eq_true rfl) (by decide) (by decide) dU_init_31 ?_
  show bn_J K b0 1 34 64 10576 [(0, .ref (b0 + 0))] [.ref (b0 + 53), .ref (b0 + 0)] nS_128 mM_3
  refine n_puta X Y (kf := 2) ri_11 ry_11 rk_11 rn_11 rfl (by decide +kernel : nS_128[0]? = some (.inr (11, [(4, 1), (4, 50), (5, 0), (5, 0), (5, 0), (5, 0)]))) (by decide) wk_503 (t := 53) rfl rfl rfl (hAd 53 (by decide)) rfl rfl dU_init_34 ?_
  show bn_J K b0 1 37 64 10576 [(0, .ref (b0 + 0))] [] nS_129 mM_3
  refine n_aload_n X dU_init_37 rfl 0 rfl ?_
  refine n_newO X (ci := 2) (fs := [(5, 0), (5, 0), (5, 0), (0, 0), (0, 0)]) (L := 65) (by decide +kernel) ri_2 ry_2 rk_2 wk_403 wk_404 wk_11 rfl (by decide +kernel) (fun _ => rfl) (by decide) (by decide) dU_init_38 ?_
  show bn_J K b0 1 41 65 10581 [(0, .ref (b0 + 0))] [.ref (b0 + 65), .ref (b0 + 0)] nS_130 mM_3
  refine n_dup X dU_init_41 rfl ?_
  refine n_cin X (kUQ_init_65 E b0 hAd) gkUQ_init rfl wk_406 rfl (by decide) (by decide) nk_405 rfl (Nat.le_of_ble_eq_true rfl) (by decide) (by decide) dU_init_42 ?_
  show bn_J K b0 1 45 68 10671 [(0, .ref (b0 + 0))] [.ref (b0 + 65), .ref (b0 + 0)] nS_136 mM_3
  refine n_puta X Y (kf := 3) ri_11 ry_11 rk_11 rn_11 rfl (by decide +kernel : nS_136[0]? = some (.inr (11, [(4, 1), (4, 50), (4, 53), (5, 0), (5, 0), (5, 0)]))) (by decide) wk_504 (t := 65) rfl rfl rfl (hAd 65 (by decide)) rfl rfl dU_init_45 ?_
  show bn_J K b0 1 48 68 10671 [(0, .ref (b0 + 0))] [] nS_137 mM_3
  refine n_aload_n X dU_init_48 rfl 0 rfl ?_
  refine n_newO X (ci := 6) (fs := [(5, 0), (5, 0), (5, 0), (0, 0), (5, 0), (5, 0), (5, 0), (5, 0), (0, 0)]) (L := 69) (by decide +kernel) ri_6 ry_6 rk_6 wk_428 wk_429 wk_12 rfl (by decide +kernel) (fun _ => rfl) (by decide) (by decide) dU_init_49 ?_
  show bn_J K b0 1 52 69 10680 [(0, .ref (b0 + 0))] [.ref (b0 + 69), .ref (b0 + 0)] nS_138 mM_3
  refine n_dup X dU_init_52 rfl ?_
  refine n_cin X (kUG_init_69 E b0 hAd) gkUG_init rfl wk_431 rfl (by decide) (by decide) nk_430 rfl (Nat.le_of_ble_eq_true rfl) (by decide) (by decide) dU_init_53 ?_
  show bn_J K b0 1 56 76 12778 [(0, .ref (b0 + 0))] [.ref (b0 + 69), .ref (b0 + 0)] nS_152 mM_3
  refine n_puta X Y (kf := 4) ri_11 ry_11 rk_11 rn_11 rfl (by decide +kernel : nS_152[0]? = some (.inr (11, [(4, 1), (4, 50), (4, 53), (4, 65), (5, 0), (5, 0)]))) (by decide) wk_505 (t := 69) rfl rfl rfl (hAd 69 (by decide)) rfl rfl dU_init_56 ?_
  show bn_J K b0 1 59 76 12778 [(0, .ref (b0 + 0))] [] nS_153 mM_3
  refine n_aload_n X dU_init_59 rfl 0 rfl ?_
  refine n_newO X (ci := 0) (fs := [(5, 0), (5, 0), (5, 0), (0, 0), (2, 0), (0, 0), (0, 0), (0, 0)]) (L := 77) (by decide +kernel) ri_0 ry_0 rk_0 wk_466 wk_467 wk_13 rfl (by decide +kernel) (fun _ => rfl) (by decide) (by decide) dU_init_60 ?_
  show bn_J K b0 1 63 77 12786 [(0, .ref (b0 + 0))] [.ref (b0 + 77), .ref (b0 + 0)] nS_154 mM_3
  refine n_dup X dU_init_63 rfl ?_
  refine n_cin X (kUA_init_77 E b0 hAd) gkUA_init rfl wk_469 rfl (by decide) (by decide) nk_468 rfl (Nat.le_of_ble_eq_true rfl) (by decide) (by decide) dU_init_64 ?_
  show bn_J K b0 1 67 80 12810 [(0, .ref (b0 + 0))] [.ref (b0 + 77), .ref (b0 + 0)] nS_160 mM_3
  refine n_puta X Y (kf := 5) ri_11 ry_11 rk_11 rn_11 rfl (by decide +kernel : nS_160[0]? = some (.inr (11, [(4, 1), (4, 50), (4, 53), (4, 65), (4, 69), (5, 0)]))) (by decide) wk_506 (t := 77) rfl rfl rfl (hAd 77 (by decide)) rfl rfl dU_init_67 ?_
  show bn_J K b0 1 70 80 12810 [(0, .ref (b0 + 0))] [] nS_161 mM_3
  exact n_ret X Y rfl rfl dU_init_70
