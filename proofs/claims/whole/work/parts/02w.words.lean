theorem wd_1 : (Jvm.Cond.initialized "UnitsWrong") ∈ bz_T := bz_in 1 (by decide +kernel) rfl
theorem wd_2 : (Jvm.Cond.initialized "UnitsWrong$State") ∈ bz_T := bz_in 2 (by decide +kernel) rfl
theorem wd_3 : (Jvm.Cond.initialized "UnitsWrong$Tellings") ∈ bz_T := bz_in 3 (by decide +kernel) rfl
theorem wd_4 : (Jvm.Cond.initialized "UnitsWrong$ByDay") ∈ bz_T := bz_in 4 (by decide +kernel) rfl
theorem wd_5 : (Jvm.Cond.initialized "UnitsWrong$Trades") ∈ bz_T := bz_in 5 (by decide +kernel) rfl
theorem wd_6 : (Jvm.Cond.initialized "UnitsWrong$Deals") ∈ bz_T := bz_in 6 (by decide +kernel) rfl
theorem wd_7 : (Jvm.Cond.initialized "UnitsWrong$Laws") ∈ bz_T := bz_in 7 (by decide +kernel) rfl
theorem wd_8 : (Jvm.Cond.initialized "java/util/Arrays") ∈ bz_T := bz_in 8 (by decide +kernel) rfl
theorem wd_9 : (Jvm.Cond.initialized "UnitsWrong$Text") ∈ bz_T := bz_in 9 (by decide +kernel) rfl
theorem wd_10 : (Jvm.Cond.initialized "UnitsWrong$Course") ∈ bz_T := bz_in 10 (by decide +kernel) rfl
theorem wd_11 : (Jvm.Cond.initialized "UnitsWrong$Claims") ∈ bz_T := bz_in 11 (by decide +kernel) rfl
theorem wd_12 : (Jvm.Cond.initialized "UnitsWrong$Settlement") ∈ bz_T := bz_in 12 (by decide +kernel) rfl
theorem wd_13 : (Jvm.Cond.initialized "UnitsWrong$Audits") ∈ bz_T := bz_in 13 (by decide +kernel) rfl
theorem wd_14 : (Jvm.Cond.initialized "UnitsWrongModel") ∈ bz_T := bz_in 14 (by decide +kernel) rfl
theorem wd_15 : (Jvm.Cond.initialized "java/lang/Math") ∈ bz_T := bz_in 15 (by decide +kernel) rfl
theorem wd_16 : (Jvm.Cond.initialized "java/lang/String") ∈ bz_T := bz_in 16 (by decide +kernel) rfl
theorem wd_20 : (Jvm.Cond.initialized "java/lang/System") ∈ bz_T := bz_in 20 (by decide +kernel) rfl
theorem wd_21 : (Jvm.Cond.initialized "java/lang/Integer") ∈ bz_T := bz_in 21 (by decide +kernel) rfl
theorem wd_48 : (Jvm.Cond.fieldLink "UnitsWrong$ByDay" (9 : Nat) "UnitsWrong$ByDay" "day" "[I") ∈ bz_T := bz_in 48 (by decide +kernel) rfl
theorem wd_49 : (Jvm.Cond.fieldLink "UnitsWrong$Tellings" (44 : Nat) "UnitsWrong$ByDay" "day" "[I") ∈ bz_T := bz_in 49 (by decide +kernel) rfl
theorem wd_50 : (Jvm.Cond.fieldLink "UnitsWrong$Claims" (69 : Nat) "UnitsWrong$ByDay" "day" "[I") ∈ bz_T := bz_in 50 (by decide +kernel) rfl
theorem wd_51 : (Jvm.Cond.fieldLink "UnitsWrong$Deals" (70 : Nat) "UnitsWrong$ByDay" "day" "[I") ∈ bz_T := bz_in 51 (by decide +kernel) rfl
theorem wd_52 : (Jvm.Cond.fieldLink "UnitsWrong" (125 : Nat) "UnitsWrong$ByDay" "day" "[I") ∈ bz_T := bz_in 52 (by decide +kernel) rfl
theorem wd_53 : (Jvm.Cond.fieldLink "UnitsWrong$Course" (212 : Nat) "UnitsWrong$ByDay" "day" "[I") ∈ bz_T := bz_in 53 (by decide +kernel) rfl
theorem wd_54 : (Jvm.Cond.fieldLink "UnitsWrong$ByDay" (15 : Nat) "UnitsWrong$ByDay" "order" "[I") ∈ bz_T := bz_in 54 (by decide +kernel) rfl
theorem wd_55 : (Jvm.Cond.fieldLink "UnitsWrong$Tellings" (41 : Nat) "UnitsWrong$ByDay" "order" "[I") ∈ bz_T := bz_in 55 (by decide +kernel) rfl
theorem wd_56 : (Jvm.Cond.fieldLink "UnitsWrong$Deals" (64 : Nat) "UnitsWrong$ByDay" "order" "[I") ∈ bz_T := bz_in 56 (by decide +kernel) rfl
theorem wd_57 : (Jvm.Cond.fieldLink "UnitsWrong$Course" (215 : Nat) "UnitsWrong$ByDay" "order" "[I") ∈ bz_T := bz_in 57 (by decide +kernel) rfl
theorem wd_58 : (Jvm.Cond.fieldLink "UnitsWrong$ByDay" (18 : Nat) "UnitsWrong$ByDay" "size" "I") ∈ bz_T := bz_in 58 (by decide +kernel) rfl
theorem wd_59 : (Jvm.Cond.fieldLink "UnitsWrong$Tellings" (37 : Nat) "UnitsWrong$ByDay" "size" "I") ∈ bz_T := bz_in 59 (by decide +kernel) rfl
theorem wd_60 : (Jvm.Cond.fieldLink "UnitsWrong$Audits" (53 : Nat) "UnitsWrong$ByDay" "size" "I") ∈ bz_T := bz_in 60 (by decide +kernel) rfl
theorem wd_61 : (Jvm.Cond.fieldLink "UnitsWrong$Claims" (64 : Nat) "UnitsWrong$ByDay" "size" "I") ∈ bz_T := bz_in 61 (by decide +kernel) rfl
theorem wd_62 : (Jvm.Cond.fieldLink "UnitsWrong$Deals" (60 : Nat) "UnitsWrong$ByDay" "size" "I") ∈ bz_T := bz_in 62 (by decide +kernel) rfl
theorem wd_63 : (Jvm.Cond.fieldLink "UnitsWrong" (105 : Nat) "UnitsWrong$ByDay" "size" "I") ∈ bz_T := bz_in 63 (by decide +kernel) rfl
theorem wd_64 : (Jvm.Cond.fieldLink "UnitsWrong$Course" (207 : Nat) "UnitsWrong$ByDay" "size" "I") ∈ bz_T := bz_in 64 (by decide +kernel) rfl
theorem wd_75 : (Jvm.Cond.fieldLink "UnitsWrong$Tellings" (14 : Nat) "UnitsWrong$Tellings" "byDay" "LUnitsWrong$ByDay;") ∈ bz_T := bz_in 75 (by decide +kernel) rfl
theorem wd_76 : (Jvm.Cond.fieldLink "UnitsWrong$Audits" (47 : Nat) "UnitsWrong$Tellings" "byDay" "LUnitsWrong$ByDay;") ∈ bz_T := bz_in 76 (by decide +kernel) rfl
theorem wd_77 : (Jvm.Cond.fieldLink "UnitsWrong" (101 : Nat) "UnitsWrong$Tellings" "byDay" "LUnitsWrong$ByDay;") ∈ bz_T := bz_in 77 (by decide +kernel) rfl
theorem wd_78 : (Jvm.Cond.fieldLink "UnitsWrong$Course" (204 : Nat) "UnitsWrong$Tellings" "byDay" "LUnitsWrong$ByDay;") ∈ bz_T := bz_in 78 (by decide +kernel) rfl
theorem wd_79 : (Jvm.Cond.fieldLink "UnitsWrong$Tellings" (20 : Nat) "UnitsWrong$Tellings" "subject" "[I") ∈ bz_T := bz_in 79 (by decide +kernel) rfl
theorem wd_80 : (Jvm.Cond.fieldLink "UnitsWrong$Course" (231 : Nat) "UnitsWrong$Tellings" "subject" "[I") ∈ bz_T := bz_in 80 (by decide +kernel) rfl
theorem wd_81 : (Jvm.Cond.fieldLink "UnitsWrong$Tellings" (24 : Nat) "UnitsWrong$Tellings" "number" "[I") ∈ bz_T := bz_in 81 (by decide +kernel) rfl
theorem wd_82 : (Jvm.Cond.fieldLink "UnitsWrong$Course" (225 : Nat) "UnitsWrong$Tellings" "number" "[I") ∈ bz_T := bz_in 82 (by decide +kernel) rfl
theorem wd_83 : (Jvm.Cond.fieldLink "UnitsWrong$Tellings" (27 : Nat) "UnitsWrong$Tellings" "value" "[I") ∈ bz_T := bz_in 83 (by decide +kernel) rfl
theorem wd_84 : (Jvm.Cond.fieldLink "UnitsWrong" (122 : Nat) "UnitsWrong$Tellings" "value" "[I") ∈ bz_T := bz_in 84 (by decide +kernel) rfl
theorem wd_85 : (Jvm.Cond.fieldLink "UnitsWrong$Course" (228 : Nat) "UnitsWrong$Tellings" "value" "[I") ∈ bz_T := bz_in 85 (by decide +kernel) rfl
theorem wd_86 : (Jvm.Cond.fieldLink "UnitsWrong$Tellings" (30 : Nat) "UnitsWrong$Tellings" "made" "[I") ∈ bz_T := bz_in 86 (by decide +kernel) rfl
theorem wd_87 : (Jvm.Cond.fieldLink "UnitsWrong$Course" (218 : Nat) "UnitsWrong$Tellings" "made" "[I") ∈ bz_T := bz_in 87 (by decide +kernel) rfl
theorem wd_107 : (Jvm.Cond.fieldLink "UnitsWrong$Trades" (16 : Nat) "UnitsWrong$Trades" "byDay" "LUnitsWrong$ByDay;") ∈ bz_T := bz_in 107 (by decide +kernel) rfl
theorem wd_108 : (Jvm.Cond.fieldLink "UnitsWrong$Course" (243 : Nat) "UnitsWrong$Trades" "byDay" "LUnitsWrong$ByDay;") ∈ bz_T := bz_in 108 (by decide +kernel) rfl
theorem wd_109 : (Jvm.Cond.fieldLink "UnitsWrong" (359 : Nat) "UnitsWrong$Trades" "byDay" "LUnitsWrong$ByDay;") ∈ bz_T := bz_in 109 (by decide +kernel) rfl
theorem wd_110 : (Jvm.Cond.fieldLink "UnitsWrong$Trades" (20 : Nat) "UnitsWrong$Trades" "fund" "[I") ∈ bz_T := bz_in 110 (by decide +kernel) rfl
theorem wd_111 : (Jvm.Cond.fieldLink "UnitsWrong$Course" (247 : Nat) "UnitsWrong$Trades" "fund" "[I") ∈ bz_T := bz_in 111 (by decide +kernel) rfl
theorem wd_112 : (Jvm.Cond.fieldLink "UnitsWrong$Trades" (24 : Nat) "UnitsWrong$Trades" "paper" "[I") ∈ bz_T := bz_in 112 (by decide +kernel) rfl
theorem wd_113 : (Jvm.Cond.fieldLink "UnitsWrong$Course" (250 : Nat) "UnitsWrong$Trades" "paper" "[I") ∈ bz_T := bz_in 113 (by decide +kernel) rfl
theorem wd_115 : (Jvm.Cond.fieldLink "UnitsWrong" (142 : Nat) "UnitsWrong$Trades" "pieces" "[I") ∈ bz_T := bz_in 115 (by decide +kernel) rfl
theorem wd_116 : (Jvm.Cond.fieldLink "UnitsWrong$Course" (253 : Nat) "UnitsWrong$Trades" "pieces" "[I") ∈ bz_T := bz_in 116 (by decide +kernel) rfl
theorem wd_118 : (Jvm.Cond.fieldLink "UnitsWrong" (145 : Nat) "UnitsWrong$Trades" "pence" "[I") ∈ bz_T := bz_in 118 (by decide +kernel) rfl
theorem wd_119 : (Jvm.Cond.fieldLink "UnitsWrong$Course" (254 : Nat) "UnitsWrong$Trades" "pence" "[I") ∈ bz_T := bz_in 119 (by decide +kernel) rfl
theorem wd_120 : (Jvm.Cond.fieldLink "UnitsWrong$Trades" (33 : Nat) "UnitsWrong$Trades" "made" "[I") ∈ bz_T := bz_in 120 (by decide +kernel) rfl
theorem wd_121 : (Jvm.Cond.fieldLink "UnitsWrong$Course" (246 : Nat) "UnitsWrong$Trades" "made" "[I") ∈ bz_T := bz_in 121 (by decide +kernel) rfl
theorem wd_143 : (Jvm.Cond.fieldLink "UnitsWrong$Deals" (16 : Nat) "UnitsWrong$Deals" "byDay" "LUnitsWrong$ByDay;") ∈ bz_T := bz_in 143 (by decide +kernel) rfl
theorem wd_144 : (Jvm.Cond.fieldLink "UnitsWrong$Claims" (58 : Nat) "UnitsWrong$Deals" "byDay" "LUnitsWrong$ByDay;") ∈ bz_T := bz_in 144 (by decide +kernel) rfl
theorem wd_145 : (Jvm.Cond.fieldLink "UnitsWrong$Course" (193 : Nat) "UnitsWrong$Deals" "byDay" "LUnitsWrong$ByDay;") ∈ bz_T := bz_in 145 (by decide +kernel) rfl
theorem wd_146 : (Jvm.Cond.fieldLink "UnitsWrong" (267 : Nat) "UnitsWrong$Deals" "byDay" "LUnitsWrong$ByDay;") ∈ bz_T := bz_in 146 (by decide +kernel) rfl
theorem wd_147 : (Jvm.Cond.fieldLink "UnitsWrong$Deals" (20 : Nat) "UnitsWrong$Deals" "who" "[I") ∈ bz_T := bz_in 147 (by decide +kernel) rfl
theorem wd_148 : (Jvm.Cond.fieldLink "UnitsWrong$Claims" (98 : Nat) "UnitsWrong$Deals" "who" "[I") ∈ bz_T := bz_in 148 (by decide +kernel) rfl
theorem wd_149 : (Jvm.Cond.fieldLink "UnitsWrong$Course" (305 : Nat) "UnitsWrong$Deals" "who" "[I") ∈ bz_T := bz_in 149 (by decide +kernel) rfl
theorem wd_150 : (Jvm.Cond.fieldLink "UnitsWrong" (268 : Nat) "UnitsWrong$Deals" "who" "[I") ∈ bz_T := bz_in 150 (by decide +kernel) rfl
theorem wd_151 : (Jvm.Cond.fieldLink "UnitsWrong$Deals" (24 : Nat) "UnitsWrong$Deals" "fund" "[I") ∈ bz_T := bz_in 151 (by decide +kernel) rfl
theorem wd_152 : (Jvm.Cond.fieldLink "UnitsWrong$Claims" (73 : Nat) "UnitsWrong$Deals" "fund" "[I") ∈ bz_T := bz_in 152 (by decide +kernel) rfl
theorem wd_153 : (Jvm.Cond.fieldLink "UnitsWrong$Course" (295 : Nat) "UnitsWrong$Deals" "fund" "[I") ∈ bz_T := bz_in 153 (by decide +kernel) rfl
theorem wd_154 : (Jvm.Cond.fieldLink "UnitsWrong" (271 : Nat) "UnitsWrong$Deals" "fund" "[I") ∈ bz_T := bz_in 154 (by decide +kernel) rfl
theorem wd_155 : (Jvm.Cond.fieldLink "UnitsWrong$Deals" (27 : Nat) "UnitsWrong$Deals" "wish" "[I") ∈ bz_T := bz_in 155 (by decide +kernel) rfl
theorem wd_156 : (Jvm.Cond.fieldLink "UnitsWrong$Deals" (30 : Nat) "UnitsWrong$Deals" "units" "[I") ∈ bz_T := bz_in 156 (by decide +kernel) rfl
theorem wd_157 : (Jvm.Cond.fieldLink "UnitsWrong$Claims" (75 : Nat) "UnitsWrong$Deals" "units" "[I") ∈ bz_T := bz_in 157 (by decide +kernel) rfl
theorem wd_158 : (Jvm.Cond.fieldLink "UnitsWrong$Course" (296 : Nat) "UnitsWrong$Deals" "units" "[I") ∈ bz_T := bz_in 158 (by decide +kernel) rfl
theorem wd_159 : (Jvm.Cond.fieldLink "UnitsWrong" (274 : Nat) "UnitsWrong$Deals" "units" "[I") ∈ bz_T := bz_in 159 (by decide +kernel) rfl
theorem wd_161 : (Jvm.Cond.fieldLink "UnitsWrong$Claims" (92 : Nat) "UnitsWrong$Deals" "booked" "[J") ∈ bz_T := bz_in 161 (by decide +kernel) rfl
theorem wd_162 : (Jvm.Cond.fieldLink "UnitsWrong$Course" (120 : Nat) "UnitsWrong$Deals" "booked" "[J") ∈ bz_T := bz_in 162 (by decide +kernel) rfl
theorem wd_163 : (Jvm.Cond.fieldLink "UnitsWrong" (277 : Nat) "UnitsWrong$Deals" "booked" "[J") ∈ bz_T := bz_in 163 (by decide +kernel) rfl
theorem wd_165 : (Jvm.Cond.fieldLink "UnitsWrong$Claims" (95 : Nat) "UnitsWrong$Deals" "right" "[J") ∈ bz_T := bz_in 165 (by decide +kernel) rfl
theorem wd_166 : (Jvm.Cond.fieldLink "UnitsWrong$Course" (163 : Nat) "UnitsWrong$Deals" "right" "[J") ∈ bz_T := bz_in 166 (by decide +kernel) rfl
theorem wd_167 : (Jvm.Cond.fieldLink "UnitsWrong" (280 : Nat) "UnitsWrong$Deals" "right" "[J") ∈ bz_T := bz_in 167 (by decide +kernel) rfl
theorem wd_168 : (Jvm.Cond.fieldLink "UnitsWrong$Deals" (40 : Nat) "UnitsWrong$Deals" "held" "[I") ∈ bz_T := bz_in 168 (by decide +kernel) rfl
theorem wd_169 : (Jvm.Cond.fieldLink "UnitsWrong" (237 : Nat) "UnitsWrong$Deals" "held" "[I") ∈ bz_T := bz_in 169 (by decide +kernel) rfl
theorem wd_170 : (Jvm.Cond.fieldLink "UnitsWrong$Deals" (43 : Nat) "UnitsWrong$Deals" "all" "[I") ∈ bz_T := bz_in 170 (by decide +kernel) rfl
theorem wd_171 : (Jvm.Cond.fieldLink "UnitsWrong" (356 : Nat) "UnitsWrong$Deals" "all" "[I") ∈ bz_T := bz_in 171 (by decide +kernel) rfl
theorem wd_197 : (Jvm.Cond.fieldLink "UnitsWrong$Laws" (11 : Nat) "UnitsWrong$Laws" "taken" "[I") ∈ bz_T := bz_in 197 (by decide +kernel) rfl
theorem wd_198 : (Jvm.Cond.fieldLink "UnitsWrong$Laws" (15 : Nat) "UnitsWrong$Laws" "rules" "[I") ∈ bz_T := bz_in 198 (by decide +kernel) rfl
theorem wd_199 : (Jvm.Cond.fieldLink "UnitsWrong$Laws" (18 : Nat) "UnitsWrong$Laws" "size" "I") ∈ bz_T := bz_in 199 (by decide +kernel) rfl
theorem wd_200 : (Jvm.Cond.fieldLink "UnitsWrong" (177 : Nat) "UnitsWrong$Laws" "size" "I") ∈ bz_T := bz_in 200 (by decide +kernel) rfl
theorem wd_209 : (Jvm.Cond.static ({ cls := "java/util/Arrays", name := "fill", desc := "([II)V" } : Jvm.MethodName)) ∈ bz_T := bz_in 209 (by decide +kernel) rfl
theorem wd_210 : (Jvm.Cond.code ({ cls := "java/util/Arrays", name := "fill", desc := "([II)V" } : Jvm.MethodName) prog_21_method_103_code (4 : Nat) (Option.none : Option Jvm.ClassFile.FieldType)) ∈ bz_T := bz_in 210 (by decide +kernel) rfl
theorem wd_212 : (Jvm.Cond.fieldLink "UnitsWrong" (63 : Nat) "UnitsWrong$State" "startCash" "[J") ∈ bz_T := bz_in 212 (by decide +kernel) rfl
theorem wd_213 : (Jvm.Cond.fieldLink "UnitsWrong$Course" (132 : Nat) "UnitsWrong$State" "startCash" "[J") ∈ bz_T := bz_in 213 (by decide +kernel) rfl
theorem wd_215 : (Jvm.Cond.fieldLink "UnitsWrong$Claims" (115 : Nat) "UnitsWrong$State" "foundDay" "[I") ∈ bz_T := bz_in 215 (by decide +kernel) rfl
theorem wd_216 : (Jvm.Cond.fieldLink "UnitsWrong" (293 : Nat) "UnitsWrong$State" "foundDay" "[I") ∈ bz_T := bz_in 216 (by decide +kernel) rfl
theorem wd_217 : (Jvm.Cond.fieldLink "UnitsWrong$State" (19 : Nat) "UnitsWrong$State" "zone" "[I") ∈ bz_T := bz_in 217 (by decide +kernel) rfl
theorem wd_218 : (Jvm.Cond.fieldLink "UnitsWrong" (73 : Nat) "UnitsWrong$State" "zone" "[I") ∈ bz_T := bz_in 218 (by decide +kernel) rfl
theorem wd_219 : (Jvm.Cond.fieldLink "UnitsWrong$State" (22 : Nat) "UnitsWrong$State" "goneDay" "[I") ∈ bz_T := bz_in 219 (by decide +kernel) rfl
theorem wd_220 : (Jvm.Cond.fieldLink "UnitsWrong" (290 : Nat) "UnitsWrong$State" "goneDay" "[I") ∈ bz_T := bz_in 220 (by decide +kernel) rfl
theorem wd_222 : (Jvm.Cond.fieldLink "UnitsWrong" (55 : Nat) "UnitsWrong$State" "currency" "[I") ∈ bz_T := bz_in 222 (by decide +kernel) rfl
theorem wd_223 : (Jvm.Cond.fieldLink "UnitsWrong$Course" (240 : Nat) "UnitsWrong$State" "currency" "[I") ∈ bz_T := bz_in 223 (by decide +kernel) rfl
theorem wd_224 : (Jvm.Cond.fieldLink "UnitsWrong$State" (28 : Nat) "UnitsWrong$State" "holidays" "[Z") ∈ bz_T := bz_in 224 (by decide +kernel) rfl
theorem wd_225 : (Jvm.Cond.fieldLink "UnitsWrong" (76 : Nat) "UnitsWrong$State" "holidays" "[Z") ∈ bz_T := bz_in 225 (by decide +kernel) rfl
theorem wd_227 : (Jvm.Cond.fieldLink "UnitsWrong" (91 : Nat) "UnitsWrong$State" "tellings" "LUnitsWrong$Tellings;") ∈ bz_T := bz_in 227 (by decide +kernel) rfl
theorem wd_228 : (Jvm.Cond.fieldLink "UnitsWrong$Course" (201 : Nat) "UnitsWrong$State" "tellings" "LUnitsWrong$Tellings;") ∈ bz_T := bz_in 228 (by decide +kernel) rfl
theorem wd_230 : (Jvm.Cond.fieldLink "UnitsWrong$Audits" (43 : Nat) "UnitsWrong$State" "suspects" "LUnitsWrong$Tellings;") ∈ bz_T := bz_in 230 (by decide +kernel) rfl
theorem wd_231 : (Jvm.Cond.fieldLink "UnitsWrong$Course" (170 : Nat) "UnitsWrong$State" "suspects" "LUnitsWrong$Tellings;") ∈ bz_T := bz_in 231 (by decide +kernel) rfl
theorem wd_232 : (Jvm.Cond.fieldLink "UnitsWrong" (306 : Nat) "UnitsWrong$State" "suspects" "LUnitsWrong$Tellings;") ∈ bz_T := bz_in 232 (by decide +kernel) rfl
theorem wd_234 : (Jvm.Cond.fieldLink "UnitsWrong$Course" (185 : Nat) "UnitsWrong$State" "trades" "LUnitsWrong$Trades;") ∈ bz_T := bz_in 234 (by decide +kernel) rfl
theorem wd_235 : (Jvm.Cond.fieldLink "UnitsWrong" (134 : Nat) "UnitsWrong$State" "trades" "LUnitsWrong$Trades;") ∈ bz_T := bz_in 235 (by decide +kernel) rfl
theorem wd_237 : (Jvm.Cond.fieldLink "UnitsWrong$Claims" (50 : Nat) "UnitsWrong$State" "deals" "LUnitsWrong$Deals;") ∈ bz_T := bz_in 237 (by decide +kernel) rfl
theorem wd_238 : (Jvm.Cond.fieldLink "UnitsWrong$Course" (105 : Nat) "UnitsWrong$State" "deals" "LUnitsWrong$Deals;") ∈ bz_T := bz_in 238 (by decide +kernel) rfl
theorem wd_239 : (Jvm.Cond.fieldLink "UnitsWrong" (155 : Nat) "UnitsWrong$State" "deals" "LUnitsWrong$Deals;") ∈ bz_T := bz_in 239 (by decide +kernel) rfl
theorem wd_240 : (Jvm.Cond.fieldLink "UnitsWrong$State" (61 : Nat) "UnitsWrong$State" "laws" "LUnitsWrong$Laws;") ∈ bz_T := bz_in 240 (by decide +kernel) rfl
theorem wd_241 : (Jvm.Cond.fieldLink "UnitsWrong$Claims" (21 : Nat) "UnitsWrong$State" "laws" "LUnitsWrong$Laws;") ∈ bz_T := bz_in 241 (by decide +kernel) rfl
theorem wd_242 : (Jvm.Cond.fieldLink "UnitsWrong" (173 : Nat) "UnitsWrong$State" "laws" "LUnitsWrong$Laws;") ∈ bz_T := bz_in 242 (by decide +kernel) rfl
theorem wd_243 : (Jvm.Cond.fieldLink "UnitsWrong$Course" (277 : Nat) "UnitsWrong$State" "laws" "LUnitsWrong$Laws;") ∈ bz_T := bz_in 243 (by decide +kernel) rfl
theorem wd_245 : (Jvm.Cond.fieldLink "UnitsWrong$Course" (50 : Nat) "UnitsWrong$State" "bookedPrice" "[I") ∈ bz_T := bz_in 245 (by decide +kernel) rfl
theorem wd_246 : (Jvm.Cond.fieldLink "UnitsWrong" (201 : Nat) "UnitsWrong$State" "bookedPrice" "[I") ∈ bz_T := bz_in 246 (by decide +kernel) rfl
theorem wd_248 : (Jvm.Cond.fieldLink "UnitsWrong$Course" (113 : Nat) "UnitsWrong$State" "bookedFee" "[J") ∈ bz_T := bz_in 248 (by decide +kernel) rfl
theorem wd_249 : (Jvm.Cond.fieldLink "UnitsWrong" (216 : Nat) "UnitsWrong$State" "bookedFee" "[J") ∈ bz_T := bz_in 249 (by decide +kernel) rfl
theorem wd_250 : (Jvm.Cond.fieldLink "UnitsWrong" (51 : Nat) "UnitsWrong$State" "now" "I") ∈ bz_T := bz_in 250 (by decide +kernel) rfl
theorem wd_251 : (Jvm.Cond.fieldLink "UnitsWrong$Course" (84 : Nat) "UnitsWrong$State" "now" "I") ∈ bz_T := bz_in 251 (by decide +kernel) rfl
theorem wd_252 : (Jvm.Cond.fieldLink "UnitsWrong$State" (97 : Nat) "UnitsWrong$State" "now" "I") ∈ bz_T := bz_in 252 (by decide +kernel) rfl
theorem wd_253 : (Jvm.Cond.fieldLink "UnitsWrong$State" (77 : Nat) "UnitsWrong$State" "funds" "I") ∈ bz_T := bz_in 253 (by decide +kernel) rfl
theorem wd_254 : (Jvm.Cond.fieldLink "UnitsWrong" (60 : Nat) "UnitsWrong$State" "funds" "I") ∈ bz_T := bz_in 254 (by decide +kernel) rfl
theorem wd_255 : (Jvm.Cond.fieldLink "UnitsWrong$Course" (94 : Nat) "UnitsWrong$State" "funds" "I") ∈ bz_T := bz_in 255 (by decide +kernel) rfl
theorem wd_256 : (Jvm.Cond.fieldLink "UnitsWrong$State" (81 : Nat) "UnitsWrong$State" "holders" "I") ∈ bz_T := bz_in 256 (by decide +kernel) rfl
theorem wd_257 : (Jvm.Cond.fieldLink "UnitsWrong" (70 : Nat) "UnitsWrong$State" "holders" "I") ∈ bz_T := bz_in 257 (by decide +kernel) rfl
theorem wd_258 : (Jvm.Cond.fieldLink "UnitsWrong" (80 : Nat) "UnitsWrong$State" "holidaysTold" "I") ∈ bz_T := bz_in 258 (by decide +kernel) rfl
theorem wd_259 : (Jvm.Cond.fieldLink "UnitsWrong$Audits" (32 : Nat) "UnitsWrong$State" "changes" "I") ∈ bz_T := bz_in 259 (by decide +kernel) rfl
theorem wd_260 : (Jvm.Cond.fieldLink "UnitsWrong" (67 : Nat) "UnitsWrong$State" "changes" "I") ∈ bz_T := bz_in 260 (by decide +kernel) rfl
theorem wd_261 : (Jvm.Cond.fieldLink "UnitsWrong$Course" (70 : Nat) "UnitsWrong$State" "changes" "I") ∈ bz_T := bz_in 261 (by decide +kernel) rfl
theorem wd_305 : (Jvm.Cond.fieldLink "UnitsWrong$Text" (11 : Nat) "UnitsWrong$Text" "bytes" "[I") ∈ bz_T := bz_in 305 (by decide +kernel) rfl
theorem wd_306 : (Jvm.Cond.fieldLink "UnitsWrong$Text" (15 : Nat) "UnitsWrong$Text" "told" "[I") ∈ bz_T := bz_in 306 (by decide +kernel) rfl
theorem wd_307 : (Jvm.Cond.fieldLink "UnitsWrong" (180 : Nat) "UnitsWrong$Text" "told" "[I") ∈ bz_T := bz_in 307 (by decide +kernel) rfl
theorem wd_308 : (Jvm.Cond.fieldLink "UnitsWrong$Text" (18 : Nat) "UnitsWrong$Text" "length" "I") ∈ bz_T := bz_in 308 (by decide +kernel) rfl
theorem wd_309 : (Jvm.Cond.fieldLink "UnitsWrong" (162 : Nat) "UnitsWrong$Text" "length" "I") ∈ bz_T := bz_in 309 (by decide +kernel) rfl
theorem wd_310 : (Jvm.Cond.fieldLink "UnitsWrong$Text" (51 : Nat) "UnitsWrong$Text" "kind" "I") ∈ bz_T := bz_in 310 (by decide +kernel) rfl
theorem wd_311 : (Jvm.Cond.fieldLink "UnitsWrong$Text" (58 : Nat) "UnitsWrong$Text" "start" "I") ∈ bz_T := bz_in 311 (by decide +kernel) rfl
theorem wd_312 : (Jvm.Cond.fieldLink "UnitsWrong$Text" (29 : Nat) "UnitsWrong$Text" "behind" "I") ∈ bz_T := bz_in 312 (by decide +kernel) rfl
theorem wd_313 : (Jvm.Cond.fieldLink "UnitsWrong$Text" (111 : Nat) "UnitsWrong$Text" "number" "I") ∈ bz_T := bz_in 313 (by decide +kernel) rfl
theorem wd_314 : (Jvm.Cond.fieldLink "UnitsWrong$Text" (32 : Nat) "UnitsWrong$Text" "faultAt" "I") ∈ bz_T := bz_in 314 (by decide +kernel) rfl
theorem wd_338 : (Jvm.Cond.fieldLink "UnitsWrong$Course" (9 : Nat) "UnitsWrong$Course" "bookedCash" "[J") ∈ bz_T := bz_in 338 (by decide +kernel) rfl
theorem wd_339 : (Jvm.Cond.fieldLink "UnitsWrong$Claims" (121 : Nat) "UnitsWrong$Course" "bookedCash" "[J") ∈ bz_T := bz_in 339 (by decide +kernel) rfl
theorem wd_340 : (Jvm.Cond.fieldLink "UnitsWrong" (261 : Nat) "UnitsWrong$Course" "bookedCash" "[J") ∈ bz_T := bz_in 340 (by decide +kernel) rfl
theorem wd_341 : (Jvm.Cond.fieldLink "UnitsWrong$Course" (15 : Nat) "UnitsWrong$Course" "rightCash" "[J") ∈ bz_T := bz_in 341 (by decide +kernel) rfl
theorem wd_342 : (Jvm.Cond.fieldLink "UnitsWrong$Claims" (118 : Nat) "UnitsWrong$Course" "rightCash" "[J") ∈ bz_T := bz_in 342 (by decide +kernel) rfl
theorem wd_343 : (Jvm.Cond.fieldLink "UnitsWrong" (264 : Nat) "UnitsWrong$Course" "rightCash" "[J") ∈ bz_T := bz_in 343 (by decide +kernel) rfl
theorem wd_344 : (Jvm.Cond.fieldLink "UnitsWrong$Course" (18 : Nat) "UnitsWrong$Course" "rightPrice" "[I") ∈ bz_T := bz_in 344 (by decide +kernel) rfl
theorem wd_345 : (Jvm.Cond.fieldLink "UnitsWrong$Audits" (90 : Nat) "UnitsWrong$Course" "rightPrice" "[I") ∈ bz_T := bz_in 345 (by decide +kernel) rfl
theorem wd_346 : (Jvm.Cond.fieldLink "UnitsWrong" (213 : Nat) "UnitsWrong$Course" "rightPrice" "[I") ∈ bz_T := bz_in 346 (by decide +kernel) rfl
theorem wd_347 : (Jvm.Cond.fieldLink "UnitsWrong$Course" (22 : Nat) "UnitsWrong$Course" "rightFee" "[J") ∈ bz_T := bz_in 347 (by decide +kernel) rfl
theorem wd_348 : (Jvm.Cond.fieldLink "UnitsWrong" (222 : Nat) "UnitsWrong$Course" "rightFee" "[J") ∈ bz_T := bz_in 348 (by decide +kernel) rfl
theorem wd_349 : (Jvm.Cond.fieldLink "UnitsWrong$Course" (25 : Nat) "UnitsWrong$Course" "pieces" "[I") ∈ bz_T := bz_in 349 (by decide +kernel) rfl
theorem wd_350 : (Jvm.Cond.fieldLink "UnitsWrong$Course" (28 : Nat) "UnitsWrong$Course" "held" "[I") ∈ bz_T := bz_in 350 (by decide +kernel) rfl
theorem wd_351 : (Jvm.Cond.fieldLink "UnitsWrong$Course" (31 : Nat) "UnitsWrong$Course" "all" "[I") ∈ bz_T := bz_in 351 (by decide +kernel) rfl
theorem wd_352 : (Jvm.Cond.fieldLink "UnitsWrong$Course" (34 : Nat) "UnitsWrong$Course" "price" "[I") ∈ bz_T := bz_in 352 (by decide +kernel) rfl
theorem wd_353 : (Jvm.Cond.fieldLink "UnitsWrong$Course" (37 : Nat) "UnitsWrong$Course" "rate" "[I") ∈ bz_T := bz_in 353 (by decide +kernel) rfl
theorem wd_354 : (Jvm.Cond.fieldLink "UnitsWrong$Course" (40 : Nat) "UnitsWrong$Course" "dividend" "[I") ∈ bz_T := bz_in 354 (by decide +kernel) rfl
theorem wd_355 : (Jvm.Cond.fieldLink "UnitsWrong$Course" (43 : Nat) "UnitsWrong$Course" "split" "[I") ∈ bz_T := bz_in 355 (by decide +kernel) rfl
theorem wd_356 : (Jvm.Cond.fieldLink "UnitsWrong$Course" (147 : Nat) "UnitsWrong$Course" "withDividends" "Z") ∈ bz_T := bz_in 356 (by decide +kernel) rfl
theorem wd_357 : (Jvm.Cond.fieldLink "UnitsWrong$Course" (151 : Nat) "UnitsWrong$Course" "withSplits" "Z") ∈ bz_T := bz_in 357 (by decide +kernel) rfl
theorem wd_358 : (Jvm.Cond.fieldLink "UnitsWrong$Course" (154 : Nat) "UnitsWrong$Course" "nextTelling" "I") ∈ bz_T := bz_in 358 (by decide +kernel) rfl
theorem wd_359 : (Jvm.Cond.fieldLink "UnitsWrong$Course" (157 : Nat) "UnitsWrong$Course" "nextTrade" "I") ∈ bz_T := bz_in 359 (by decide +kernel) rfl
theorem wd_360 : (Jvm.Cond.fieldLink "UnitsWrong$Course" (268 : Nat) "UnitsWrong$Course" "firstDeal" "I") ∈ bz_T := bz_in 360 (by decide +kernel) rfl
theorem wd_361 : (Jvm.Cond.fieldLink "UnitsWrong$Course" (160 : Nat) "UnitsWrong$Course" "behindDeals" "I") ∈ bz_T := bz_in 361 (by decide +kernel) rfl
theorem wd_362 : (Jvm.Cond.fieldLink "UnitsWrong$Course" (46 : Nat) "UnitsWrong$Course" "walkedTo" "I") ∈ bz_T := bz_in 362 (by decide +kernel) rfl
theorem wd_363 : (Jvm.Cond.fieldLink "UnitsWrong$Course" (67 : Nat) "UnitsWrong$Course" "walkedChanges" "I") ∈ bz_T := bz_in 363 (by decide +kernel) rfl
theorem wd_409 : (Jvm.Cond.fieldLink "UnitsWrong$Claims" (9 : Nat) "UnitsWrong$Claims" "lost" "[J") ∈ bz_T := bz_in 409 (by decide +kernel) rfl
theorem wd_410 : (Jvm.Cond.fieldLink "UnitsWrong" (244 : Nat) "UnitsWrong$Claims" "lost" "[J") ∈ bz_T := bz_in 410 (by decide +kernel) rfl
theorem wd_411 : (Jvm.Cond.fieldLink "UnitsWrong$Claims" (15 : Nat) "UnitsWrong$Claims" "gained" "[J") ∈ bz_T := bz_in 411 (by decide +kernel) rfl
theorem wd_412 : (Jvm.Cond.fieldLink "UnitsWrong" (247 : Nat) "UnitsWrong$Claims" "gained" "[J") ∈ bz_T := bz_in 412 (by decide +kernel) rfl
theorem wd_413 : (Jvm.Cond.fieldLink "UnitsWrong$Claims" (18 : Nat) "UnitsWrong$Claims" "balances" "[J") ∈ bz_T := bz_in 413 (by decide +kernel) rfl
theorem wd_414 : (Jvm.Cond.fieldLink "UnitsWrong" (339 : Nat) "UnitsWrong$Claims" "balances" "[J") ∈ bz_T := bz_in 414 (by decide +kernel) rfl
theorem wd_415 : (Jvm.Cond.fieldLink "UnitsWrong$Claims" (37 : Nat) "UnitsWrong$Claims" "fund" "I") ∈ bz_T := bz_in 415 (by decide +kernel) rfl
theorem wd_416 : (Jvm.Cond.fieldLink "UnitsWrong$Claims" (41 : Nat) "UnitsWrong$Claims" "knownOn" "I") ∈ bz_T := bz_in 416 (by decide +kernel) rfl
theorem wd_434 : (Jvm.Cond.fieldLink "UnitsWrong$Settlement" (11 : Nat) "UnitsWrong$Settlement" "payer" "[I") ∈ bz_T := bz_in 434 (by decide +kernel) rfl
theorem wd_435 : (Jvm.Cond.fieldLink "UnitsWrong" (347 : Nat) "UnitsWrong$Settlement" "payer" "[I") ∈ bz_T := bz_in 435 (by decide +kernel) rfl
theorem wd_436 : (Jvm.Cond.fieldLink "UnitsWrong$Settlement" (15 : Nat) "UnitsWrong$Settlement" "getter" "[I") ∈ bz_T := bz_in 436 (by decide +kernel) rfl
theorem wd_437 : (Jvm.Cond.fieldLink "UnitsWrong" (350 : Nat) "UnitsWrong$Settlement" "getter" "[I") ∈ bz_T := bz_in 437 (by decide +kernel) rfl
theorem wd_438 : (Jvm.Cond.fieldLink "UnitsWrong$Settlement" (18 : Nat) "UnitsWrong$Settlement" "amount" "[J") ∈ bz_T := bz_in 438 (by decide +kernel) rfl
theorem wd_439 : (Jvm.Cond.fieldLink "UnitsWrong" (353 : Nat) "UnitsWrong$Settlement" "amount" "[J") ∈ bz_T := bz_in 439 (by decide +kernel) rfl
theorem wd_440 : (Jvm.Cond.fieldLink "UnitsWrong$Settlement" (34 : Nat) "UnitsWrong$Settlement" "size" "I") ∈ bz_T := bz_in 440 (by decide +kernel) rfl
theorem wd_441 : (Jvm.Cond.fieldLink "UnitsWrong" (346 : Nat) "UnitsWrong$Settlement" "size" "I") ∈ bz_T := bz_in 441 (by decide +kernel) rfl
theorem wd_442 : (Jvm.Cond.fieldLink "UnitsWrong$Settlement" (22 : Nat) "UnitsWrong$Settlement" "party" "[I") ∈ bz_T := bz_in 442 (by decide +kernel) rfl
theorem wd_443 : (Jvm.Cond.fieldLink "UnitsWrong$Settlement" (25 : Nat) "UnitsWrong$Settlement" "owned" "[J") ∈ bz_T := bz_in 443 (by decide +kernel) rfl
theorem wd_444 : (Jvm.Cond.fieldLink "UnitsWrong$Settlement" (28 : Nat) "UnitsWrong$Settlement" "sums" "[J") ∈ bz_T := bz_in 444 (by decide +kernel) rfl
theorem wd_445 : (Jvm.Cond.fieldLink "UnitsWrong$Settlement" (31 : Nat) "UnitsWrong$Settlement" "most" "[I") ∈ bz_T := bz_in 445 (by decide +kernel) rfl
theorem wd_446 : (Jvm.Cond.fieldLink "UnitsWrong$Settlement" (45 : Nat) "UnitsWrong$Settlement" "parties" "I") ∈ bz_T := bz_in 446 (by decide +kernel) rfl
theorem wd_472 : (Jvm.Cond.fieldLink "UnitsWrong$Audits" (11 : Nat) "UnitsWrong$Audits" "fund" "[I") ∈ bz_T := bz_in 472 (by decide +kernel) rfl
theorem wd_473 : (Jvm.Cond.fieldLink "UnitsWrong$Audits" (15 : Nat) "UnitsWrong$Audits" "day" "[I") ∈ bz_T := bz_in 473 (by decide +kernel) rfl
theorem wd_474 : (Jvm.Cond.fieldLink "UnitsWrong$Audits" (18 : Nat) "UnitsWrong$Audits" "price" "[I") ∈ bz_T := bz_in 474 (by decide +kernel) rfl
theorem wd_475 : (Jvm.Cond.fieldLink "UnitsWrong$Audits" (21 : Nat) "UnitsWrong$Audits" "size" "I") ∈ bz_T := bz_in 475 (by decide +kernel) rfl
theorem wd_476 : (Jvm.Cond.fieldLink "UnitsWrong" (309 : Nat) "UnitsWrong$Audits" "size" "I") ∈ bz_T := bz_in 476 (by decide +kernel) rfl
theorem wd_477 : (Jvm.Cond.fieldLink "UnitsWrong$Audits" (25 : Nat) "UnitsWrong$Audits" "searched" "Z") ∈ bz_T := bz_in 477 (by decide +kernel) rfl
theorem wd_478 : (Jvm.Cond.fieldLink "UnitsWrong" (302 : Nat) "UnitsWrong$Audits" "searched" "Z") ∈ bz_T := bz_in 478 (by decide +kernel) rfl
theorem wd_479 : (Jvm.Cond.fieldLink "UnitsWrong$Audits" (37 : Nat) "UnitsWrong$Audits" "least" "I") ∈ bz_T := bz_in 479 (by decide +kernel) rfl
theorem wd_480 : (Jvm.Cond.fieldLink "UnitsWrong" (314 : Nat) "UnitsWrong$Audits" "least" "I") ∈ bz_T := bz_in 480 (by decide +kernel) rfl
theorem wd_481 : (Jvm.Cond.fieldLink "UnitsWrong$Audits" (40 : Nat) "UnitsWrong$Audits" "rivals" "I") ∈ bz_T := bz_in 481 (by decide +kernel) rfl
theorem wd_482 : (Jvm.Cond.fieldLink "UnitsWrong" (317 : Nat) "UnitsWrong$Audits" "rivals" "I") ∈ bz_T := bz_in 482 (by decide +kernel) rfl
theorem wd_483 : (Jvm.Cond.fieldLink "UnitsWrong$Audits" (29 : Nat) "UnitsWrong$Audits" "searchedChanges" "I") ∈ bz_T := bz_in 483 (by decide +kernel) rfl
theorem wd_501 : (Jvm.Cond.fieldLink "UnitsWrong" (10 : Nat) "UnitsWrong" "state" "LUnitsWrong$State;") ∈ bz_T := bz_in 501 (by decide +kernel) rfl
theorem wd_502 : (Jvm.Cond.fieldLink "UnitsWrong" (19 : Nat) "UnitsWrong" "text" "LUnitsWrong$Text;") ∈ bz_T := bz_in 502 (by decide +kernel) rfl
theorem wd_503 : (Jvm.Cond.fieldLink "UnitsWrong" (26 : Nat) "UnitsWrong" "course" "LUnitsWrong$Course;") ∈ bz_T := bz_in 503 (by decide +kernel) rfl
theorem wd_504 : (Jvm.Cond.fieldLink "UnitsWrong" (33 : Nat) "UnitsWrong" "claims" "LUnitsWrong$Claims;") ∈ bz_T := bz_in 504 (by decide +kernel) rfl
theorem wd_505 : (Jvm.Cond.fieldLink "UnitsWrong" (40 : Nat) "UnitsWrong" "settlement" "LUnitsWrong$Settlement;") ∈ bz_T := bz_in 505 (by decide +kernel) rfl
theorem wd_506 : (Jvm.Cond.fieldLink "UnitsWrong" (47 : Nat) "UnitsWrong" "audits" "LUnitsWrong$Audits;") ∈ bz_T := bz_in 506 (by decide +kernel) rfl
theorem wd_528 : (Jvm.Cond.constant "UnitsWrong" (59 : Nat) (100000000 : Int32)) ∈ bz_T := bz_in 528 (by decide +kernel) rfl
theorem wd_541 : (Jvm.Cond.methodLink "UnitsWrong" (83 : Nat) ({ cls := "UnitsWrong$State", name := "isOpen", desc := "(I)Z" } : Jvm.MethodName)) ∈ bz_T := bz_in 541 (by decide +kernel) rfl
theorem wd_542 : (Jvm.Cond.instanceMethod ({ cls := "UnitsWrong$State", name := "isOpen", desc := "(I)Z" } : Jvm.MethodName)) ∈ bz_T := bz_in 542 (by decide +kernel) rfl
theorem wd_544 : (Jvm.Cond.code ({ cls := "UnitsWrong$State", name := "isOpen", desc := "(I)Z" } : Jvm.MethodName) prog_9_method_6_code (2 : Nat) (Option.some Jvm.ClassFile.FieldType.boolean)) ∈ bz_T := bz_in 544 (by decide +kernel) rfl
theorem wd_546 : (Jvm.Cond.static ({ cls := "UnitsWrong", name := "isDay", desc := "(I)Z" } : Jvm.MethodName)) ∈ bz_T := bz_in 546 (by decide +kernel) rfl
theorem wd_547 : (Jvm.Cond.code ({ cls := "UnitsWrong", name := "isDay", desc := "(I)Z" } : Jvm.MethodName) prog_1_method_44_code (1 : Nat) (Option.some Jvm.ClassFile.FieldType.boolean)) ∈ bz_T := bz_in 547 (by decide +kernel) rfl
theorem wd_552 : (Jvm.Cond.methodLink "UnitsWrong" (87 : Nat) ({ cls := "UnitsWrong", name := "canBeTold", desc := "(IIII)Z" } : Jvm.MethodName)) ∈ bz_T := bz_in 552 (by decide +kernel) rfl
theorem wd_553 : (Jvm.Cond.static ({ cls := "UnitsWrong", name := "canBeTold", desc := "(IIII)Z" } : Jvm.MethodName)) ∈ bz_T := bz_in 553 (by decide +kernel) rfl
theorem wd_554 : (Jvm.Cond.code ({ cls := "UnitsWrong", name := "canBeTold", desc := "(IIII)Z" } : Jvm.MethodName) prog_1_method_49_code (4 : Nat) (Option.some Jvm.ClassFile.FieldType.boolean)) ∈ bz_T := bz_in 554 (by decide +kernel) rfl
theorem wd_555 : (Jvm.Cond.methodLink "UnitsWrong" (110 : Nat) ({ cls := "UnitsWrong", name := "isSubject", desc := "(II)Z" } : Jvm.MethodName)) ∈ bz_T := bz_in 555 (by decide +kernel) rfl
theorem wd_556 : (Jvm.Cond.static ({ cls := "UnitsWrong", name := "isSubject", desc := "(II)Z" } : Jvm.MethodName)) ∈ bz_T := bz_in 556 (by decide +kernel) rfl
theorem wd_557 : (Jvm.Cond.code ({ cls := "UnitsWrong", name := "isSubject", desc := "(II)Z" } : Jvm.MethodName) prog_1_method_48_code (2 : Nat) (Option.some Jvm.ClassFile.FieldType.boolean)) ∈ bz_T := bz_in 557 (by decide +kernel) rfl
theorem wd_558 : (Jvm.Cond.methodLink "UnitsWrong" (114 : Nat) ({ cls := "UnitsWrong", name := "isDay", desc := "(I)Z" } : Jvm.MethodName)) ∈ bz_T := bz_in 558 (by decide +kernel) rfl
theorem wd_559 : (Jvm.Cond.methodLink "UnitsWrong" (95 : Nat) ({ cls := "UnitsWrong$Tellings", name := "add", desc := "(IIIII)I" } : Jvm.MethodName)) ∈ bz_T := bz_in 559 (by decide +kernel) rfl
theorem wd_560 : (Jvm.Cond.instanceMethod ({ cls := "UnitsWrong$Tellings", name := "add", desc := "(IIIII)I" } : Jvm.MethodName)) ∈ bz_T := bz_in 560 (by decide +kernel) rfl
theorem wd_562 : (Jvm.Cond.code ({ cls := "UnitsWrong$Tellings", name := "add", desc := "(IIIII)I" } : Jvm.MethodName) prog_10_method_2_code (7 : Nat) (Option.some Jvm.ClassFile.FieldType.int)) ∈ bz_T := bz_in 562 (by decide +kernel) rfl
theorem wd_563 : (Jvm.Cond.methodLink "UnitsWrong$Tellings" (33 : Nat) ({ cls := "UnitsWrong$ByDay", name := "add", desc := "(I)I" } : Jvm.MethodName)) ∈ bz_T := bz_in 563 (by decide +kernel) rfl
theorem wd_564 : (Jvm.Cond.instanceMethod ({ cls := "UnitsWrong$ByDay", name := "add", desc := "(I)I" } : Jvm.MethodName)) ∈ bz_T := bz_in 564 (by decide +kernel) rfl
theorem wd_566 : (Jvm.Cond.code ({ cls := "UnitsWrong$ByDay", name := "add", desc := "(I)I" } : Jvm.MethodName) prog_3_method_2_code (4 : Nat) (Option.some Jvm.ClassFile.FieldType.int)) ∈ bz_T := bz_in 566 (by decide +kernel) rfl
theorem wd_571 : (Jvm.Cond.constant "UnitsWrong" (117 : Nat) (-2147483648 : Int32)) ∈ bz_T := bz_in 571 (by decide +kernel) rfl
theorem wd_572 : (Jvm.Cond.methodLink "UnitsWrong" (118 : Nat) ({ cls := "UnitsWrong$Tellings", name := "latest", desc := "(IIII)I" } : Jvm.MethodName)) ∈ bz_T := bz_in 572 (by decide +kernel) rfl
theorem wd_573 : (Jvm.Cond.instanceMethod ({ cls := "UnitsWrong$Tellings", name := "latest", desc := "(IIII)I" } : Jvm.MethodName)) ∈ bz_T := bz_in 573 (by decide +kernel) rfl
theorem wd_575 : (Jvm.Cond.code ({ cls := "UnitsWrong$Tellings", name := "latest", desc := "(IIII)I" } : Jvm.MethodName) prog_10_method_3_code (11 : Nat) (Option.some Jvm.ClassFile.FieldType.int)) ∈ bz_T := bz_in 575 (by decide +kernel) rfl
theorem wd_584 : (Jvm.Cond.methodLink "UnitsWrong" (128 : Nat) ({ cls := "UnitsWrong$State", name := "isFund", desc := "(I)Z" } : Jvm.MethodName)) ∈ bz_T := bz_in 584 (by decide +kernel) rfl
theorem wd_585 : (Jvm.Cond.instanceMethod ({ cls := "UnitsWrong$State", name := "isFund", desc := "(I)Z" } : Jvm.MethodName)) ∈ bz_T := bz_in 585 (by decide +kernel) rfl
theorem wd_587 : (Jvm.Cond.code ({ cls := "UnitsWrong$State", name := "isFund", desc := "(I)Z" } : Jvm.MethodName) prog_9_method_2_code (2 : Nat) (Option.some Jvm.ClassFile.FieldType.boolean)) ∈ bz_T := bz_in 587 (by decide +kernel) rfl
theorem wd_588 : (Jvm.Cond.methodLink "UnitsWrong" (131 : Nat) ({ cls := "UnitsWrong", name := "isWithin", desc := "(II)Z" } : Jvm.MethodName)) ∈ bz_T := bz_in 588 (by decide +kernel) rfl
theorem wd_589 : (Jvm.Cond.static ({ cls := "UnitsWrong", name := "isWithin", desc := "(II)Z" } : Jvm.MethodName)) ∈ bz_T := bz_in 589 (by decide +kernel) rfl
theorem wd_590 : (Jvm.Cond.code ({ cls := "UnitsWrong", name := "isWithin", desc := "(II)Z" } : Jvm.MethodName) prog_1_method_45_code (2 : Nat) (Option.some Jvm.ClassFile.FieldType.boolean)) ∈ bz_T := bz_in 590 (by decide +kernel) rfl
theorem wd_591 : (Jvm.Cond.methodLink "UnitsWrong" (138 : Nat) ({ cls := "UnitsWrong$Trades", name := "add", desc := "(IIII)I" } : Jvm.MethodName)) ∈ bz_T := bz_in 591 (by decide +kernel) rfl
theorem wd_592 : (Jvm.Cond.instanceMethod ({ cls := "UnitsWrong$Trades", name := "add", desc := "(IIII)I" } : Jvm.MethodName)) ∈ bz_T := bz_in 592 (by decide +kernel) rfl
theorem wd_594 : (Jvm.Cond.code ({ cls := "UnitsWrong$Trades", name := "add", desc := "(IIII)I" } : Jvm.MethodName) prog_12_method_2_code (6 : Nat) (Option.some Jvm.ClassFile.FieldType.int)) ∈ bz_T := bz_in 594 (by decide +kernel) rfl
theorem wd_595 : (Jvm.Cond.methodLink "UnitsWrong$Trades" (36 : Nat) ({ cls := "UnitsWrong$ByDay", name := "add", desc := "(I)I" } : Jvm.MethodName)) ∈ bz_T := bz_in 595 (by decide +kernel) rfl
theorem wd_600 : (Jvm.Cond.methodLink "UnitsWrong" (148 : Nat) ({ cls := "UnitsWrong$State", name := "isWho", desc := "(II)Z" } : Jvm.MethodName)) ∈ bz_T := bz_in 600 (by decide +kernel) rfl
theorem wd_601 : (Jvm.Cond.instanceMethod ({ cls := "UnitsWrong$State", name := "isWho", desc := "(II)Z" } : Jvm.MethodName)) ∈ bz_T := bz_in 601 (by decide +kernel) rfl
theorem wd_603 : (Jvm.Cond.code ({ cls := "UnitsWrong$State", name := "isWho", desc := "(II)Z" } : Jvm.MethodName) prog_9_method_4_code (3 : Nat) (Option.some Jvm.ClassFile.FieldType.boolean)) ∈ bz_T := bz_in 603 (by decide +kernel) rfl
theorem wd_604 : (Jvm.Cond.methodLink "UnitsWrong$State" (84 : Nat) ({ cls := "UnitsWrong$State", name := "isFund", desc := "(I)Z" } : Jvm.MethodName)) ∈ bz_T := bz_in 604 (by decide +kernel) rfl
theorem wd_605 : (Jvm.Cond.methodLink "UnitsWrong$State" (88 : Nat) ({ cls := "UnitsWrong$State", name := "isHolder", desc := "(I)Z" } : Jvm.MethodName)) ∈ bz_T := bz_in 605 (by decide +kernel) rfl
theorem wd_606 : (Jvm.Cond.instanceMethod ({ cls := "UnitsWrong$State", name := "isHolder", desc := "(I)Z" } : Jvm.MethodName)) ∈ bz_T := bz_in 606 (by decide +kernel) rfl
theorem wd_608 : (Jvm.Cond.code ({ cls := "UnitsWrong$State", name := "isHolder", desc := "(I)Z" } : Jvm.MethodName) prog_9_method_3_code (2 : Nat) (Option.some Jvm.ClassFile.FieldType.boolean)) ∈ bz_T := bz_in 608 (by decide +kernel) rfl
theorem wd_609 : (Jvm.Cond.methodLink "UnitsWrong" (151 : Nat) ({ cls := "UnitsWrong$State", name := "dealingDay", desc := "(III)I" } : Jvm.MethodName)) ∈ bz_T := bz_in 609 (by decide +kernel) rfl
theorem wd_610 : (Jvm.Cond.instanceMethod ({ cls := "UnitsWrong$State", name := "dealingDay", desc := "(III)I" } : Jvm.MethodName)) ∈ bz_T := bz_in 610 (by decide +kernel) rfl
theorem wd_612 : (Jvm.Cond.code ({ cls := "UnitsWrong$State", name := "dealingDay", desc := "(III)I" } : Jvm.MethodName) prog_9_method_8_code (5 : Nat) (Option.some Jvm.ClassFile.FieldType.int)) ∈ bz_T := bz_in 612 (by decide +kernel) rfl
theorem wd_613 : (Jvm.Cond.methodLink "UnitsWrong$State" (94 : Nat) ({ cls := "UnitsWrong$State", name := "isOpen", desc := "(I)Z" } : Jvm.MethodName)) ∈ bz_T := bz_in 613 (by decide +kernel) rfl
theorem wd_614 : (Jvm.Cond.methodLink "UnitsWrong$State" (100 : Nat) ({ cls := "UnitsWrong$Laws", name := "value", desc := "(III)I" } : Jvm.MethodName)) ∈ bz_T := bz_in 614 (by decide +kernel) rfl
theorem wd_615 : (Jvm.Cond.instanceMethod ({ cls := "UnitsWrong$Laws", name := "value", desc := "(III)I" } : Jvm.MethodName)) ∈ bz_T := bz_in 615 (by decide +kernel) rfl
theorem wd_617 : (Jvm.Cond.code ({ cls := "UnitsWrong$Laws", name := "value", desc := "(III)I" } : Jvm.MethodName) prog_7_method_3_code (5 : Nat) (Option.some Jvm.ClassFile.FieldType.int)) ∈ bz_T := bz_in 617 (by decide +kernel) rfl
theorem wd_618 : (Jvm.Cond.fieldLink "UnitsWrong$Laws" (23 : Nat) "UnitsWrong$Laws" "WITHOUT" "[I") ∈ bz_T := bz_in 618 (by decide +kernel) rfl
theorem wd_620 : (Jvm.Cond.methodLink "UnitsWrong$State" (104 : Nat) ({ cls := "UnitsWrong$State", name := "openBehind", desc := "(I)I" } : Jvm.MethodName)) ∈ bz_T := bz_in 620 (by decide +kernel) rfl
theorem wd_621 : (Jvm.Cond.instanceMethod ({ cls := "UnitsWrong$State", name := "openBehind", desc := "(I)I" } : Jvm.MethodName)) ∈ bz_T := bz_in 621 (by decide +kernel) rfl
theorem wd_623 : (Jvm.Cond.code ({ cls := "UnitsWrong$State", name := "openBehind", desc := "(I)I" } : Jvm.MethodName) prog_9_method_7_code (3 : Nat) (Option.some Jvm.ClassFile.FieldType.int)) ∈ bz_T := bz_in 623 (by decide +kernel) rfl
theorem wd_624 : (Jvm.Cond.methodLink "UnitsWrong" (159 : Nat) ({ cls := "UnitsWrong$Deals", name := "add", desc := "(IIII)I" } : Jvm.MethodName)) ∈ bz_T := bz_in 624 (by decide +kernel) rfl
theorem wd_625 : (Jvm.Cond.instanceMethod ({ cls := "UnitsWrong$Deals", name := "add", desc := "(IIII)I" } : Jvm.MethodName)) ∈ bz_T := bz_in 625 (by decide +kernel) rfl
theorem wd_627 : (Jvm.Cond.code ({ cls := "UnitsWrong$Deals", name := "add", desc := "(IIII)I" } : Jvm.MethodName) prog_6_method_2_code (6 : Nat) (Option.some Jvm.ClassFile.FieldType.int)) ∈ bz_T := bz_in 627 (by decide +kernel) rfl
theorem wd_628 : (Jvm.Cond.methodLink "UnitsWrong$Deals" (46 : Nat) ({ cls := "UnitsWrong$ByDay", name := "add", desc := "(I)I" } : Jvm.MethodName)) ∈ bz_T := bz_in 628 (by decide +kernel) rfl
theorem wd_633 : (Jvm.Cond.methodLink "UnitsWrong" (165 : Nat) ({ cls := "UnitsWrong$Text", name := "append", desc := "(I)V" } : Jvm.MethodName)) ∈ bz_T := bz_in 633 (by decide +kernel) rfl
theorem wd_634 : (Jvm.Cond.instanceMethod ({ cls := "UnitsWrong$Text", name := "append", desc := "(I)V" } : Jvm.MethodName)) ∈ bz_T := bz_in 634 (by decide +kernel) rfl
theorem wd_636 : (Jvm.Cond.code ({ cls := "UnitsWrong$Text", name := "append", desc := "(I)V" } : Jvm.MethodName) prog_11_method_2_code (3 : Nat) (Option.none : Option Jvm.ClassFile.FieldType)) ∈ bz_T := bz_in 636 (by decide +kernel) rfl
theorem wd_645 : (Jvm.Cond.methodLink "UnitsWrong" (169 : Nat) ({ cls := "UnitsWrong$Text", name := "read", desc := "()I" } : Jvm.MethodName)) ∈ bz_T := bz_in 645 (by decide +kernel) rfl
theorem wd_646 : (Jvm.Cond.instanceMethod ({ cls := "UnitsWrong$Text", name := "read", desc := "()I" } : Jvm.MethodName)) ∈ bz_T := bz_in 646 (by decide +kernel) rfl
theorem wd_648 : (Jvm.Cond.code ({ cls := "UnitsWrong$Text", name := "read", desc := "()I" } : Jvm.MethodName) prog_11_method_3_code (2 : Nat) (Option.some Jvm.ClassFile.FieldType.int)) ∈ bz_T := bz_in 648 (by decide +kernel) rfl
theorem wd_649 : (Jvm.Cond.constant "UnitsWrong$Text" (22 : Nat) (-2147483648 : Int32)) ∈ bz_T := bz_in 649 (by decide +kernel) rfl
theorem wd_650 : (Jvm.Cond.methodLink "UnitsWrong$Text" (23 : Nat) ({ cls := "java/util/Arrays", name := "fill", desc := "([II)V" } : Jvm.MethodName)) ∈ bz_T := bz_in 650 (by decide +kernel) rfl
theorem wd_651 : (Jvm.Cond.methodLink "UnitsWrong$Text" (35 : Nat) ({ cls := "UnitsWrong$Text", name := "readLine", desc := "()V" } : Jvm.MethodName)) ∈ bz_T := bz_in 651 (by decide +kernel) rfl
theorem wd_653 : (Jvm.Cond.instanceMethod ({ cls := "UnitsWrong$Text", name := "readLine", desc := "()V" } : Jvm.MethodName)) ∈ bz_T := bz_in 653 (by decide +kernel) rfl
theorem wd_654 : (Jvm.Cond.code ({ cls := "UnitsWrong$Text", name := "readLine", desc := "()V" } : Jvm.MethodName) prog_11_method_4_code (2 : Nat) (Option.none : Option Jvm.ClassFile.FieldType)) ∈ bz_T := bz_in 654 (by decide +kernel) rfl
theorem wd_655 : (Jvm.Cond.methodLink "UnitsWrong$Text" (38 : Nat) ({ cls := "UnitsWrong$Text", name := "next", desc := "()V" } : Jvm.MethodName)) ∈ bz_T := bz_in 655 (by decide +kernel) rfl
theorem wd_657 : (Jvm.Cond.instanceMethod ({ cls := "UnitsWrong$Text", name := "next", desc := "()V" } : Jvm.MethodName)) ∈ bz_T := bz_in 657 (by decide +kernel) rfl
theorem wd_658 : (Jvm.Cond.code ({ cls := "UnitsWrong$Text", name := "next", desc := "()V" } : Jvm.MethodName) prog_11_method_11_code (2 : Nat) (Option.none : Option Jvm.ClassFile.FieldType)) ∈ bz_T := bz_in 658 (by decide +kernel) rfl
theorem wd_659 : (Jvm.Cond.methodLink "UnitsWrong$Text" (114 : Nat) ({ cls := "UnitsWrong$Text", name := "kindAt", desc := "(I)I" } : Jvm.MethodName)) ∈ bz_T := bz_in 659 (by decide +kernel) rfl
theorem wd_661 : (Jvm.Cond.instanceMethod ({ cls := "UnitsWrong$Text", name := "kindAt", desc := "(I)I" } : Jvm.MethodName)) ∈ bz_T := bz_in 661 (by decide +kernel) rfl
theorem wd_662 : (Jvm.Cond.code ({ cls := "UnitsWrong$Text", name := "kindAt", desc := "(I)I" } : Jvm.MethodName) prog_11_method_12_code (3 : Nat) (Option.some Jvm.ClassFile.FieldType.int)) ∈ bz_T := bz_in 662 (by decide +kernel) rfl
theorem wd_663 : (Jvm.Cond.constant "UnitsWrong$Text" (117 : Nat) (1000000 : Int32)) ∈ bz_T := bz_in 663 (by decide +kernel) rfl
theorem wd_664 : (Jvm.Cond.methodLink "UnitsWrong$Text" (118 : Nat) ({ cls := "java/lang/Math", name := "min", desc := "(II)I" } : Jvm.MethodName)) ∈ bz_T := bz_in 664 (by decide +kernel) rfl
theorem wd_665 : (Jvm.Cond.static ({ cls := "java/lang/Math", name := "min", desc := "(II)I" } : Jvm.MethodName)) ∈ bz_T := bz_in 665 (by decide +kernel) rfl
theorem wd_666 : (Jvm.Cond.code ({ cls := "java/lang/Math", name := "min", desc := "(II)I" } : Jvm.MethodName) prog_16_method_69_code (2 : Nat) (Option.some Jvm.ClassFile.FieldType.int)) ∈ bz_T := bz_in 666 (by decide +kernel) rfl
theorem wd_668 : (Jvm.Cond.methodLink "UnitsWrong$Text" (43 : Nat) ({ cls := "UnitsWrong$Text", name := "isWord", desc := "(Ljava/lang/String;)Z" } : Jvm.MethodName)) ∈ bz_T := bz_in 668 (by decide +kernel) rfl
theorem wd_670 : (Jvm.Cond.instanceMethod ({ cls := "UnitsWrong$Text", name := "isWord", desc := "(Ljava/lang/String;)Z" } : Jvm.MethodName)) ∈ bz_T := bz_in 670 (by decide +kernel) rfl
theorem wd_671 : (Jvm.Cond.code ({ cls := "UnitsWrong$Text", name := "isWord", desc := "(Ljava/lang/String;)Z" } : Jvm.MethodName) prog_11_method_13_code (3 : Nat) (Option.some Jvm.ClassFile.FieldType.boolean)) ∈ bz_T := bz_in 671 (by decide +kernel) rfl
theorem wd_672 : (Jvm.Cond.methodLink "UnitsWrong$Text" (124 : Nat) ({ cls := "java/lang/String", name := "length", desc := "()I" } : Jvm.MethodName)) ∈ bz_T := bz_in 672 (by decide +kernel) rfl
theorem wd_673 : (Jvm.Cond.instanceMethod ({ cls := "java/lang/String", name := "length", desc := "()I" } : Jvm.MethodName)) ∈ bz_T := bz_in 673 (by decide +kernel) rfl
theorem wd_675 : (Jvm.Cond.code ({ cls := "java/lang/String", name := "length", desc := "()I" } : Jvm.MethodName) prog_17_method_54_code (1 : Nat) (Option.some Jvm.ClassFile.FieldType.int)) ∈ bz_T := bz_in 675 (by decide +kernel) rfl
theorem wd_682 : (Jvm.Cond.methodLink "UnitsWrong$Text" (128 : Nat) ({ cls := "java/lang/String", name := "charAt", desc := "(I)C" } : Jvm.MethodName)) ∈ bz_T := bz_in 682 (by decide +kernel) rfl
theorem wd_683 : (Jvm.Cond.instanceMethod ({ cls := "java/lang/String", name := "charAt", desc := "(I)C" } : Jvm.MethodName)) ∈ bz_T := bz_in 683 (by decide +kernel) rfl
theorem wd_685 : (Jvm.Cond.code ({ cls := "java/lang/String", name := "charAt", desc := "(I)C" } : Jvm.MethodName) prog_17_method_56_code (2 : Nat) (Option.some Jvm.ClassFile.FieldType.char)) ∈ bz_T := bz_in 685 (by decide +kernel) rfl
theorem wd_720 : (Jvm.Cond.methodLink "UnitsWrong$Text" (47 : Nat) ({ cls := "UnitsWrong$Text", name := "wantNumber", desc := "(I)I" } : Jvm.MethodName)) ∈ bz_T := bz_in 720 (by decide +kernel) rfl
theorem wd_722 : (Jvm.Cond.instanceMethod ({ cls := "UnitsWrong$Text", name := "wantNumber", desc := "(I)I" } : Jvm.MethodName)) ∈ bz_T := bz_in 722 (by decide +kernel) rfl
theorem wd_723 : (Jvm.Cond.code ({ cls := "UnitsWrong$Text", name := "wantNumber", desc := "(I)I" } : Jvm.MethodName) prog_11_method_9_code (3 : Nat) (Option.some Jvm.ClassFile.FieldType.int)) ∈ bz_T := bz_in 723 (by decide +kernel) rfl
theorem wd_724 : (Jvm.Cond.methodLink "UnitsWrong$Text" (54 : Nat) ({ cls := "UnitsWrong$Text", name := "want", desc := "(Z)V" } : Jvm.MethodName)) ∈ bz_T := bz_in 724 (by decide +kernel) rfl
theorem wd_726 : (Jvm.Cond.instanceMethod ({ cls := "UnitsWrong$Text", name := "want", desc := "(Z)V" } : Jvm.MethodName)) ∈ bz_T := bz_in 726 (by decide +kernel) rfl
theorem wd_727 : (Jvm.Cond.code ({ cls := "UnitsWrong$Text", name := "want", desc := "(Z)V" } : Jvm.MethodName) prog_11_method_10_code (2 : Nat) (Option.none : Option Jvm.ClassFile.FieldType)) ∈ bz_T := bz_in 727 (by decide +kernel) rfl
theorem wd_728 : (Jvm.Cond.methodLink "UnitsWrong$Text" (61 : Nat) ({ cls := "UnitsWrong$Text", name := "readRule", desc := "(I)V" } : Jvm.MethodName)) ∈ bz_T := bz_in 728 (by decide +kernel) rfl
theorem wd_730 : (Jvm.Cond.instanceMethod ({ cls := "UnitsWrong$Text", name := "readRule", desc := "(I)V" } : Jvm.MethodName)) ∈ bz_T := bz_in 730 (by decide +kernel) rfl
theorem wd_731 : (Jvm.Cond.code ({ cls := "UnitsWrong$Text", name := "readRule", desc := "(I)V" } : Jvm.MethodName) prog_11_method_5_code (2 : Nat) (Option.none : Option Jvm.ClassFile.FieldType)) ∈ bz_T := bz_in 731 (by decide +kernel) rfl
theorem wd_735 : (Jvm.Cond.methodLink "UnitsWrong$Text" (71 : Nat) ({ cls := "UnitsWrong$Text", name := "wantWord", desc := "(Ljava/lang/String;)V" } : Jvm.MethodName)) ∈ bz_T := bz_in 735 (by decide +kernel) rfl
theorem wd_737 : (Jvm.Cond.instanceMethod ({ cls := "UnitsWrong$Text", name := "wantWord", desc := "(Ljava/lang/String;)V" } : Jvm.MethodName)) ∈ bz_T := bz_in 737 (by decide +kernel) rfl
theorem wd_738 : (Jvm.Cond.code ({ cls := "UnitsWrong$Text", name := "wantWord", desc := "(Ljava/lang/String;)V" } : Jvm.MethodName) prog_11_method_8_code (2 : Nat) (Option.none : Option Jvm.ClassFile.FieldType)) ∈ bz_T := bz_in 738 (by decide +kernel) rfl
theorem wd_743 : (Jvm.Cond.constant "UnitsWrong$Text" (83 : Nat) (100000 : Int32)) ∈ bz_T := bz_in 743 (by decide +kernel) rfl
theorem wd_745 : (Jvm.Cond.methodLink "UnitsWrong$Text" (86 : Nat) ({ cls := "UnitsWrong$Text", name := "wantParty", desc := "()I" } : Jvm.MethodName)) ∈ bz_T := bz_in 745 (by decide +kernel) rfl
theorem wd_747 : (Jvm.Cond.instanceMethod ({ cls := "UnitsWrong$Text", name := "wantParty", desc := "()I" } : Jvm.MethodName)) ∈ bz_T := bz_in 747 (by decide +kernel) rfl
theorem wd_748 : (Jvm.Cond.code ({ cls := "UnitsWrong$Text", name := "wantParty", desc := "()I" } : Jvm.MethodName) prog_11_method_7_code (1 : Nat) (Option.some Jvm.ClassFile.FieldType.int)) ∈ bz_T := bz_in 748 (by decide +kernel) rfl
theorem wd_752 : (Jvm.Cond.methodLink "UnitsWrong$Text" (92 : Nat) ({ cls := "UnitsWrong$Text", name := "wantGains", desc := "()I" } : Jvm.MethodName)) ∈ bz_T := bz_in 752 (by decide +kernel) rfl
theorem wd_754 : (Jvm.Cond.instanceMethod ({ cls := "UnitsWrong$Text", name := "wantGains", desc := "()I" } : Jvm.MethodName)) ∈ bz_T := bz_in 754 (by decide +kernel) rfl
theorem wd_755 : (Jvm.Cond.code ({ cls := "UnitsWrong$Text", name := "wantGains", desc := "()I" } : Jvm.MethodName) prog_11_method_6_code (1 : Nat) (Option.some Jvm.ClassFile.FieldType.int)) ∈ bz_T := bz_in 755 (by decide +kernel) rfl
theorem wd_767 : (Jvm.Cond.methodLink "UnitsWrong" (183 : Nat) ({ cls := "UnitsWrong$Laws", name := "add", desc := "([II)I" } : Jvm.MethodName)) ∈ bz_T := bz_in 767 (by decide +kernel) rfl
theorem wd_768 : (Jvm.Cond.instanceMethod ({ cls := "UnitsWrong$Laws", name := "add", desc := "([II)I" } : Jvm.MethodName)) ∈ bz_T := bz_in 768 (by decide +kernel) rfl
theorem wd_770 : (Jvm.Cond.code ({ cls := "UnitsWrong$Laws", name := "add", desc := "([II)I" } : Jvm.MethodName) prog_7_method_2_code (7 : Nat) (Option.some Jvm.ClassFile.FieldType.int)) ∈ bz_T := bz_in 770 (by decide +kernel) rfl
theorem wd_771 : (Jvm.Cond.constant "UnitsWrong$Laws" (22 : Nat) (-2147483648 : Int32)) ∈ bz_T := bz_in 771 (by decide +kernel) rfl
theorem wd_776 : (Jvm.Cond.methodLink "UnitsWrong" (186 : Nat) ({ cls := "UnitsWrong$Laws", name := "value", desc := "(III)I" } : Jvm.MethodName)) ∈ bz_T := bz_in 776 (by decide +kernel) rfl
theorem wd_781 : (Jvm.Cond.methodLink "UnitsWrong" (188 : Nat) ({ cls := "java/lang/Math", name := "min", desc := "(II)I" } : Jvm.MethodName)) ∈ bz_T := bz_in 781 (by decide +kernel) rfl
theorem wd_782 : (Jvm.Cond.methodLink "UnitsWrong" (194 : Nat) ({ cls := "UnitsWrong$Course", name := "bookUntil", desc := "(LUnitsWrong$State;I)V" } : Jvm.MethodName)) ∈ bz_T := bz_in 782 (by decide +kernel) rfl
theorem wd_783 : (Jvm.Cond.instanceMethod ({ cls := "UnitsWrong$Course", name := "bookUntil", desc := "(LUnitsWrong$State;I)V" } : Jvm.MethodName)) ∈ bz_T := bz_in 783 (by decide +kernel) rfl
theorem wd_785 : (Jvm.Cond.code ({ cls := "UnitsWrong$Course", name := "bookUntil", desc := "(LUnitsWrong$State;I)V" } : Jvm.MethodName) prog_5_method_5_code (6 : Nat) (Option.none : Option Jvm.ClassFile.FieldType)) ∈ bz_T := bz_in 785 (by decide +kernel) rfl
theorem wd_786 : (Jvm.Cond.methodLink "UnitsWrong$Course" (87 : Nat) ({ cls := "UnitsWrong$Course", name := "walkTo", desc := "(LUnitsWrong$State;I)V" } : Jvm.MethodName)) ∈ bz_T := bz_in 786 (by decide +kernel) rfl
theorem wd_787 : (Jvm.Cond.instanceMethod ({ cls := "UnitsWrong$Course", name := "walkTo", desc := "(LUnitsWrong$State;I)V" } : Jvm.MethodName)) ∈ bz_T := bz_in 787 (by decide +kernel) rfl
theorem wd_789 : (Jvm.Cond.code ({ cls := "UnitsWrong$Course", name := "walkTo", desc := "(LUnitsWrong$State;I)V" } : Jvm.MethodName) prog_5_method_4_code (5 : Nat) (Option.none : Option Jvm.ClassFile.FieldType)) ∈ bz_T := bz_in 789 (by decide +kernel) rfl
theorem wd_790 : (Jvm.Cond.methodLink "UnitsWrong$Course" (73 : Nat) ({ cls := "UnitsWrong$Course", name := "start", desc := "(LUnitsWrong$State;)V" } : Jvm.MethodName)) ∈ bz_T := bz_in 790 (by decide +kernel) rfl
theorem wd_791 : (Jvm.Cond.instanceMethod ({ cls := "UnitsWrong$Course", name := "start", desc := "(LUnitsWrong$State;)V" } : Jvm.MethodName)) ∈ bz_T := bz_in 791 (by decide +kernel) rfl
theorem wd_793 : (Jvm.Cond.code ({ cls := "UnitsWrong$Course", name := "start", desc := "(LUnitsWrong$State;)V" } : Jvm.MethodName) prog_5_method_6_code (2 : Nat) (Option.none : Option Jvm.ClassFile.FieldType)) ∈ bz_T := bz_in 793 (by decide +kernel) rfl
theorem wd_794 : (Jvm.Cond.methodLink "UnitsWrong$Course" (135 : Nat) ({ cls := "java/lang/System", name := "arraycopy", desc := "(Ljava/lang/Object;ILjava/lang/Object;II)V" } : Jvm.MethodName)) ∈ bz_T := bz_in 794 (by decide +kernel) rfl
theorem wd_795 : (Jvm.Cond.static ({ cls := "java/lang/System", name := "arraycopy", desc := "(Ljava/lang/Object;ILjava/lang/Object;II)V" } : Jvm.MethodName)) ∈ bz_T := bz_in 795 (by decide +kernel) rfl
theorem wd_796 : (Jvm.Cond.native ({ cls := "java/lang/System", name := "arraycopy", desc := "(Ljava/lang/Object;ILjava/lang/Object;II)V" } : Jvm.MethodName)) ∈ bz_T := bz_in 796 (by decide +kernel) rfl
theorem wd_797 : (Jvm.Cond.methodLink "UnitsWrong$Course" (141 : Nat) ({ cls := "java/util/Arrays", name := "fill", desc := "([II)V" } : Jvm.MethodName)) ∈ bz_T := bz_in 797 (by decide +kernel) rfl
theorem wd_798 : (Jvm.Cond.methodLink "UnitsWrong$Course" (77 : Nat) ({ cls := "UnitsWrong$State", name := "lastOver", desc := "(I)I" } : Jvm.MethodName)) ∈ bz_T := bz_in 798 (by decide +kernel) rfl
theorem wd_799 : (Jvm.Cond.instanceMethod ({ cls := "UnitsWrong$State", name := "lastOver", desc := "(I)I" } : Jvm.MethodName)) ∈ bz_T := bz_in 799 (by decide +kernel) rfl
theorem wd_801 : (Jvm.Cond.code ({ cls := "UnitsWrong$State", name := "lastOver", desc := "(I)I" } : Jvm.MethodName) prog_9_method_10_code (2 : Nat) (Option.some Jvm.ClassFile.FieldType.int)) ∈ bz_T := bz_in 801 (by decide +kernel) rfl
theorem wd_802 : (Jvm.Cond.methodLink "UnitsWrong$State" (108 : Nat) ({ cls := "java/lang/Math", name := "min", desc := "(II)I" } : Jvm.MethodName)) ∈ bz_T := bz_in 802 (by decide +kernel) rfl
theorem wd_803 : (Jvm.Cond.methodLink "UnitsWrong$Course" (80 : Nat) ({ cls := "UnitsWrong$Course", name := "passDay", desc := "(LUnitsWrong$State;III)V" } : Jvm.MethodName)) ∈ bz_T := bz_in 803 (by decide +kernel) rfl
theorem wd_804 : (Jvm.Cond.instanceMethod ({ cls := "UnitsWrong$Course", name := "passDay", desc := "(LUnitsWrong$State;III)V" } : Jvm.MethodName)) ∈ bz_T := bz_in 804 (by decide +kernel) rfl
theorem wd_806 : (Jvm.Cond.code ({ cls := "UnitsWrong$Course", name := "passDay", desc := "(LUnitsWrong$State;III)V" } : Jvm.MethodName) prog_5_method_7_code (7 : Nat) (Option.none : Option Jvm.ClassFile.FieldType)) ∈ bz_T := bz_in 806 (by decide +kernel) rfl
theorem wd_807 : (Jvm.Cond.methodLink "UnitsWrong$Course" (91 : Nat) ({ cls := "UnitsWrong$Course", name := "openDay", desc := "(LUnitsWrong$State;III)V" } : Jvm.MethodName)) ∈ bz_T := bz_in 807 (by decide +kernel) rfl
theorem wd_809 : (Jvm.Cond.instanceMethod ({ cls := "UnitsWrong$Course", name := "openDay", desc := "(LUnitsWrong$State;III)V" } : Jvm.MethodName)) ∈ bz_T := bz_in 809 (by decide +kernel) rfl
theorem wd_810 : (Jvm.Cond.code ({ cls := "UnitsWrong$Course", name := "openDay", desc := "(LUnitsWrong$State;III)V" } : Jvm.MethodName) prog_5_method_8_code (5 : Nat) (Option.none : Option Jvm.ClassFile.FieldType)) ∈ bz_T := bz_in 810 (by decide +kernel) rfl
theorem wd_811 : (Jvm.Cond.methodLink "UnitsWrong$Course" (166 : Nat) ({ cls := "UnitsWrong$Course", name := "learn", desc := "(LUnitsWrong$State;II)V" } : Jvm.MethodName)) ∈ bz_T := bz_in 811 (by decide +kernel) rfl
theorem wd_813 : (Jvm.Cond.instanceMethod ({ cls := "UnitsWrong$Course", name := "learn", desc := "(LUnitsWrong$State;II)V" } : Jvm.MethodName)) ∈ bz_T := bz_in 813 (by decide +kernel) rfl
theorem wd_814 : (Jvm.Cond.code ({ cls := "UnitsWrong$Course", name := "learn", desc := "(LUnitsWrong$State;II)V" } : Jvm.MethodName) prog_5_method_9_code (7 : Nat) (Option.none : Option Jvm.ClassFile.FieldType)) ∈ bz_T := bz_in 814 (by decide +kernel) rfl
theorem wd_815 : (Jvm.Cond.methodLink "UnitsWrong$Course" (221 : Nat) ({ cls := "UnitsWrong$Course", name := "hear", desc := "(LUnitsWrong$Tellings;I)V" } : Jvm.MethodName)) ∈ bz_T := bz_in 815 (by decide +kernel) rfl
theorem wd_817 : (Jvm.Cond.instanceMethod ({ cls := "UnitsWrong$Course", name := "hear", desc := "(LUnitsWrong$Tellings;I)V" } : Jvm.MethodName)) ∈ bz_T := bz_in 817 (by decide +kernel) rfl
theorem wd_818 : (Jvm.Cond.code ({ cls := "UnitsWrong$Course", name := "hear", desc := "(LUnitsWrong$Tellings;I)V" } : Jvm.MethodName) prog_5_method_11_code (5 : Nat) (Option.none : Option Jvm.ClassFile.FieldType)) ∈ bz_T := bz_in 818 (by decide +kernel) rfl
theorem wd_819 : (Jvm.Cond.methodLink "UnitsWrong$Course" (174 : Nat) ({ cls := "UnitsWrong$Course", name := "suspectOn", desc := "(LUnitsWrong$Tellings;II)V" } : Jvm.MethodName)) ∈ bz_T := bz_in 819 (by decide +kernel) rfl
theorem wd_821 : (Jvm.Cond.instanceMethod ({ cls := "UnitsWrong$Course", name := "suspectOn", desc := "(LUnitsWrong$Tellings;II)V" } : Jvm.MethodName)) ∈ bz_T := bz_in 821 (by decide +kernel) rfl
theorem wd_822 : (Jvm.Cond.code ({ cls := "UnitsWrong$Course", name := "suspectOn", desc := "(LUnitsWrong$Tellings;II)V" } : Jvm.MethodName) prog_5_method_10_code (5 : Nat) (Option.none : Option Jvm.ClassFile.FieldType)) ∈ bz_T := bz_in 822 (by decide +kernel) rfl
theorem wd_823 : (Jvm.Cond.methodLink "UnitsWrong$Course" (178 : Nat) ({ cls := "UnitsWrong$Course", name := "splitPieces", desc := "(I)V" } : Jvm.MethodName)) ∈ bz_T := bz_in 823 (by decide +kernel) rfl
theorem wd_825 : (Jvm.Cond.instanceMethod ({ cls := "UnitsWrong$Course", name := "splitPieces", desc := "(I)V" } : Jvm.MethodName)) ∈ bz_T := bz_in 825 (by decide +kernel) rfl
theorem wd_826 : (Jvm.Cond.code ({ cls := "UnitsWrong$Course", name := "splitPieces", desc := "(I)V" } : Jvm.MethodName) prog_5_method_12_code (5 : Nat) (Option.none : Option Jvm.ClassFile.FieldType)) ∈ bz_T := bz_in 826 (by decide +kernel) rfl
theorem wd_827 : (Jvm.Cond.constantLong "UnitsWrong$Course" (234 : Nat) (1000 : Int64)) ∈ bz_T := bz_in 827 (by decide +kernel) rfl
theorem wd_828 : (Jvm.Cond.methodLink "UnitsWrong$Course" (236 : Nat) ({ cls := "UnitsWrong$Course", name := "bounded", desc := "(J)I" } : Jvm.MethodName)) ∈ bz_T := bz_in 828 (by decide +kernel) rfl
theorem wd_829 : (Jvm.Cond.static ({ cls := "UnitsWrong$Course", name := "bounded", desc := "(J)I" } : Jvm.MethodName)) ∈ bz_T := bz_in 829 (by decide +kernel) rfl
theorem wd_830 : (Jvm.Cond.code ({ cls := "UnitsWrong$Course", name := "bounded", desc := "(J)I" } : Jvm.MethodName) prog_5_method_15_code (2 : Nat) (Option.some Jvm.ClassFile.FieldType.int)) ∈ bz_T := bz_in 830 (by decide +kernel) rfl
theorem wd_831 : (Jvm.Cond.constantLong "UnitsWrong$Course" (257 : Nat) (-1000000 : Int64)) ∈ bz_T := bz_in 831 (by decide +kernel) rfl
theorem wd_832 : (Jvm.Cond.constantLong "UnitsWrong$Course" (259 : Nat) (1000000 : Int64)) ∈ bz_T := bz_in 832 (by decide +kernel) rfl
theorem wd_833 : (Jvm.Cond.methodLink "UnitsWrong$Course" (261 : Nat) ({ cls := "java/lang/Math", name := "min", desc := "(JJ)J" } : Jvm.MethodName)) ∈ bz_T := bz_in 833 (by decide +kernel) rfl
theorem wd_834 : (Jvm.Cond.static ({ cls := "java/lang/Math", name := "min", desc := "(JJ)J" } : Jvm.MethodName)) ∈ bz_T := bz_in 834 (by decide +kernel) rfl
theorem wd_835 : (Jvm.Cond.code ({ cls := "java/lang/Math", name := "min", desc := "(JJ)J" } : Jvm.MethodName) prog_16_method_70_code (4 : Nat) (Option.some Jvm.ClassFile.FieldType.long)) ∈ bz_T := bz_in 835 (by decide +kernel) rfl
theorem wd_836 : (Jvm.Cond.methodLink "UnitsWrong$Course" (265 : Nat) ({ cls := "java/lang/Math", name := "max", desc := "(JJ)J" } : Jvm.MethodName)) ∈ bz_T := bz_in 836 (by decide +kernel) rfl
theorem wd_837 : (Jvm.Cond.static ({ cls := "java/lang/Math", name := "max", desc := "(JJ)J" } : Jvm.MethodName)) ∈ bz_T := bz_in 837 (by decide +kernel) rfl
theorem wd_838 : (Jvm.Cond.code ({ cls := "java/lang/Math", name := "max", desc := "(JJ)J" } : Jvm.MethodName) prog_16_method_66_code (4 : Nat) (Option.some Jvm.ClassFile.FieldType.long)) ∈ bz_T := bz_in 838 (by decide +kernel) rfl
theorem wd_839 : (Jvm.Cond.methodLink "UnitsWrong$Course" (182 : Nat) ({ cls := "UnitsWrong$Course", name := "payDividends", desc := "(LUnitsWrong$State;)V" } : Jvm.MethodName)) ∈ bz_T := bz_in 839 (by decide +kernel) rfl
theorem wd_841 : (Jvm.Cond.instanceMethod ({ cls := "UnitsWrong$Course", name := "payDividends", desc := "(LUnitsWrong$State;)V" } : Jvm.MethodName)) ∈ bz_T := bz_in 841 (by decide +kernel) rfl
theorem wd_842 : (Jvm.Cond.code ({ cls := "UnitsWrong$Course", name := "payDividends", desc := "(LUnitsWrong$State;)V" } : Jvm.MethodName) prog_5_method_13_code (8 : Nat) (Option.none : Option Jvm.ClassFile.FieldType)) ∈ bz_T := bz_in 842 (by decide +kernel) rfl
theorem wd_843 : (Jvm.Cond.methodLink "UnitsWrong$Course" (189 : Nat) ({ cls := "UnitsWrong$Course", name := "passTrades", desc := "(LUnitsWrong$Trades;II)V" } : Jvm.MethodName)) ∈ bz_T := bz_in 843 (by decide +kernel) rfl
theorem wd_845 : (Jvm.Cond.instanceMethod ({ cls := "UnitsWrong$Course", name := "passTrades", desc := "(LUnitsWrong$Trades;II)V" } : Jvm.MethodName)) ∈ bz_T := bz_in 845 (by decide +kernel) rfl
theorem wd_846 : (Jvm.Cond.code ({ cls := "UnitsWrong$Course", name := "passTrades", desc := "(LUnitsWrong$Trades;II)V" } : Jvm.MethodName) prog_5_method_14_code (8 : Nat) (Option.none : Option Jvm.ClassFile.FieldType)) ∈ bz_T := bz_in 846 (by decide +kernel) rfl
theorem wd_847 : (Jvm.Cond.methodLink "UnitsWrong$Course" (197 : Nat) ({ cls := "UnitsWrong$Course", name := "findDeals", desc := "(LUnitsWrong$ByDay;I)V" } : Jvm.MethodName)) ∈ bz_T := bz_in 847 (by decide +kernel) rfl
theorem wd_849 : (Jvm.Cond.instanceMethod ({ cls := "UnitsWrong$Course", name := "findDeals", desc := "(LUnitsWrong$ByDay;I)V" } : Jvm.MethodName)) ∈ bz_T := bz_in 849 (by decide +kernel) rfl
theorem wd_850 : (Jvm.Cond.code ({ cls := "UnitsWrong$Course", name := "findDeals", desc := "(LUnitsWrong$ByDay;I)V" } : Jvm.MethodName) prog_5_method_16_code (3 : Nat) (Option.none : Option Jvm.ClassFile.FieldType)) ∈ bz_T := bz_in 850 (by decide +kernel) rfl
theorem wd_851 : (Jvm.Cond.methodLink "UnitsWrong$Course" (97 : Nat) ({ cls := "UnitsWrong$State", name := "isOpen", desc := "(I)Z" } : Jvm.MethodName)) ∈ bz_T := bz_in 851 (by decide +kernel) rfl
theorem wd_853 : (Jvm.Cond.static ({ cls := "UnitsWrong", name := "slot", desc := "(II)I" } : Jvm.MethodName)) ∈ bz_T := bz_in 853 (by decide +kernel) rfl
theorem wd_854 : (Jvm.Cond.code ({ cls := "UnitsWrong", name := "slot", desc := "(II)I" } : Jvm.MethodName) prog_1_method_46_code (2 : Nat) (Option.some Jvm.ClassFile.FieldType.int)) ∈ bz_T := bz_in 854 (by decide +kernel) rfl
theorem wd_855 : (Jvm.Cond.methodLink "UnitsWrong$Course" (116 : Nat) ({ cls := "UnitsWrong$Course", name := "makePrice", desc := "(LUnitsWrong$State;II[J[I[J)V" } : Jvm.MethodName)) ∈ bz_T := bz_in 855 (by decide +kernel) rfl
theorem wd_857 : (Jvm.Cond.instanceMethod ({ cls := "UnitsWrong$Course", name := "makePrice", desc := "(LUnitsWrong$State;II[J[I[J)V" } : Jvm.MethodName)) ∈ bz_T := bz_in 857 (by decide +kernel) rfl
theorem wd_858 : (Jvm.Cond.code ({ cls := "UnitsWrong$Course", name := "makePrice", desc := "(LUnitsWrong$State;II[J[I[J)V" } : Jvm.MethodName) prog_5_method_18_code (16 : Nat) (Option.none : Option Jvm.ClassFile.FieldType)) ∈ bz_T := bz_in 858 (by decide +kernel) rfl
theorem wd_859 : (Jvm.Cond.methodLink "UnitsWrong$Course" (273 : Nat) ({ cls := "UnitsWrong$Course", name := "assetsOf", desc := "(LUnitsWrong$State;IIJ[I)J" } : Jvm.MethodName)) ∈ bz_T := bz_in 859 (by decide +kernel) rfl
theorem wd_861 : (Jvm.Cond.instanceMethod ({ cls := "UnitsWrong$Course", name := "assetsOf", desc := "(LUnitsWrong$State;IIJ[I)J" } : Jvm.MethodName)) ∈ bz_T := bz_in 861 (by decide +kernel) rfl
theorem wd_862 : (Jvm.Cond.code ({ cls := "UnitsWrong$Course", name := "assetsOf", desc := "(LUnitsWrong$State;IIJ[I)J" } : Jvm.MethodName) prog_5_method_17_code (11 : Nat) (Option.some Jvm.ClassFile.FieldType.long)) ∈ bz_T := bz_in 862 (by decide +kernel) rfl
theorem wd_863 : (Jvm.Cond.constantLong "UnitsWrong$Course" (271 : Nat) (100 : Int64)) ∈ bz_T := bz_in 863 (by decide +kernel) rfl
theorem wd_864 : (Jvm.Cond.methodLink "UnitsWrong$Course" (281 : Nat) ({ cls := "UnitsWrong$Laws", name := "value", desc := "(III)I" } : Jvm.MethodName)) ∈ bz_T := bz_in 864 (by decide +kernel) rfl
theorem wd_865 : (Jvm.Cond.constantLong "UnitsWrong$Course" (55 : Nat) (10000 : Int64)) ∈ bz_T := bz_in 865 (by decide +kernel) rfl
theorem wd_866 : (Jvm.Cond.constantLong "UnitsWrong$Course" (286 : Nat) (10000000 : Int64)) ∈ bz_T := bz_in 866 (by decide +kernel) rfl
theorem wd_867 : (Jvm.Cond.methodLink "UnitsWrong$Course" (288 : Nat) ({ cls := "UnitsWrong$Course", name := "flowOf", desc := "(LUnitsWrong$Deals;I)J" } : Jvm.MethodName)) ∈ bz_T := bz_in 867 (by decide +kernel) rfl
theorem wd_869 : (Jvm.Cond.instanceMethod ({ cls := "UnitsWrong$Course", name := "flowOf", desc := "(LUnitsWrong$Deals;I)J" } : Jvm.MethodName)) ∈ bz_T := bz_in 869 (by decide +kernel) rfl
theorem wd_870 : (Jvm.Cond.code ({ cls := "UnitsWrong$Course", name := "flowOf", desc := "(LUnitsWrong$Deals;I)J" } : Jvm.MethodName) prog_5_method_19_code (7 : Nat) (Option.some Jvm.ClassFile.FieldType.long)) ∈ bz_T := bz_in 870 (by decide +kernel) rfl
theorem wd_871 : (Jvm.Cond.methodLink "UnitsWrong$Course" (292 : Nat) ({ cls := "java/lang/Math", name := "abs", desc := "(J)J" } : Jvm.MethodName)) ∈ bz_T := bz_in 871 (by decide +kernel) rfl
theorem wd_872 : (Jvm.Cond.static ({ cls := "java/lang/Math", name := "abs", desc := "(J)J" } : Jvm.MethodName)) ∈ bz_T := bz_in 872 (by decide +kernel) rfl
theorem wd_873 : (Jvm.Cond.code ({ cls := "java/lang/Math", name := "abs", desc := "(J)J" } : Jvm.MethodName) prog_16_method_61_code (2 : Nat) (Option.some Jvm.ClassFile.FieldType.long)) ∈ bz_T := bz_in 873 (by decide +kernel) rfl
theorem wd_874 : (Jvm.Cond.methodLink "UnitsWrong$Course" (125 : Nat) ({ cls := "UnitsWrong$Course", name := "countCoins", desc := "(LUnitsWrong$Deals;II[J)V" } : Jvm.MethodName)) ∈ bz_T := bz_in 874 (by decide +kernel) rfl
theorem wd_876 : (Jvm.Cond.instanceMethod ({ cls := "UnitsWrong$Course", name := "countCoins", desc := "(LUnitsWrong$Deals;II[J)V" } : Jvm.MethodName)) ∈ bz_T := bz_in 876 (by decide +kernel) rfl
theorem wd_877 : (Jvm.Cond.code ({ cls := "UnitsWrong$Course", name := "countCoins", desc := "(LUnitsWrong$Deals;II[J)V" } : Jvm.MethodName) prog_5_method_21_code (7 : Nat) (Option.none : Option Jvm.ClassFile.FieldType)) ∈ bz_T := bz_in 877 (by decide +kernel) rfl
theorem wd_878 : (Jvm.Cond.methodLink "UnitsWrong$Course" (301 : Nat) ({ cls := "UnitsWrong$Deals", name := "coinsOf", desc := "(II)J" } : Jvm.MethodName)) ∈ bz_T := bz_in 878 (by decide +kernel) rfl
theorem wd_879 : (Jvm.Cond.static ({ cls := "UnitsWrong$Deals", name := "coinsOf", desc := "(II)J" } : Jvm.MethodName)) ∈ bz_T := bz_in 879 (by decide +kernel) rfl
theorem wd_880 : (Jvm.Cond.code ({ cls := "UnitsWrong$Deals", name := "coinsOf", desc := "(II)J" } : Jvm.MethodName) prog_6_method_4_code (2 : Nat) (Option.some Jvm.ClassFile.FieldType.long)) ∈ bz_T := bz_in 880 (by decide +kernel) rfl
theorem wd_881 : (Jvm.Cond.constantLong "UnitsWrong$Deals" (56 : Nat) (99 : Int64)) ∈ bz_T := bz_in 881 (by decide +kernel) rfl
theorem wd_882 : (Jvm.Cond.constantLong "UnitsWrong$Deals" (58 : Nat) (100 : Int64)) ∈ bz_T := bz_in 882 (by decide +kernel) rfl
theorem wd_883 : (Jvm.Cond.methodLink "UnitsWrong$Course" (129 : Nat) ({ cls := "UnitsWrong$Course", name := "passDeals", desc := "(LUnitsWrong$Deals;I)V" } : Jvm.MethodName)) ∈ bz_T := bz_in 883 (by decide +kernel) rfl
theorem wd_885 : (Jvm.Cond.instanceMethod ({ cls := "UnitsWrong$Course", name := "passDeals", desc := "(LUnitsWrong$Deals;I)V" } : Jvm.MethodName)) ∈ bz_T := bz_in 885 (by decide +kernel) rfl
theorem wd_886 : (Jvm.Cond.code ({ cls := "UnitsWrong$Course", name := "passDeals", desc := "(LUnitsWrong$Deals;I)V" } : Jvm.MethodName) prog_5_method_22_code (11 : Nat) (Option.none : Option Jvm.ClassFile.FieldType)) ∈ bz_T := bz_in 886 (by decide +kernel) rfl
theorem wd_887 : (Jvm.Cond.methodLink "UnitsWrong$Course" (109 : Nat) ({ cls := "UnitsWrong$Course", name := "fillDeals", desc := "(LUnitsWrong$Deals;I)V" } : Jvm.MethodName)) ∈ bz_T := bz_in 887 (by decide +kernel) rfl
theorem wd_889 : (Jvm.Cond.instanceMethod ({ cls := "UnitsWrong$Course", name := "fillDeals", desc := "(LUnitsWrong$Deals;I)V" } : Jvm.MethodName)) ∈ bz_T := bz_in 889 (by decide +kernel) rfl
theorem wd_890 : (Jvm.Cond.code ({ cls := "UnitsWrong$Course", name := "fillDeals", desc := "(LUnitsWrong$Deals;I)V" } : Jvm.MethodName) prog_5_method_20_code (5 : Nat) (Option.none : Option Jvm.ClassFile.FieldType)) ∈ bz_T := bz_in 890 (by decide +kernel) rfl
theorem wd_891 : (Jvm.Cond.methodLink "UnitsWrong$Course" (299 : Nat) ({ cls := "UnitsWrong$Deals", name := "fill", desc := "(I)V" } : Jvm.MethodName)) ∈ bz_T := bz_in 891 (by decide +kernel) rfl
theorem wd_892 : (Jvm.Cond.instanceMethod ({ cls := "UnitsWrong$Deals", name := "fill", desc := "(I)V" } : Jvm.MethodName)) ∈ bz_T := bz_in 892 (by decide +kernel) rfl
theorem wd_894 : (Jvm.Cond.code ({ cls := "UnitsWrong$Deals", name := "fill", desc := "(I)V" } : Jvm.MethodName) prog_6_method_3_code (4 : Nat) (Option.none : Option Jvm.ClassFile.FieldType)) ∈ bz_T := bz_in 894 (by decide +kernel) rfl
theorem wd_895 : (Jvm.Cond.methodLink "UnitsWrong$Deals" (50 : Nat) ({ cls := "java/lang/Math", name := "max", desc := "(II)I" } : Jvm.MethodName)) ∈ bz_T := bz_in 895 (by decide +kernel) rfl
theorem wd_896 : (Jvm.Cond.static ({ cls := "java/lang/Math", name := "max", desc := "(II)I" } : Jvm.MethodName)) ∈ bz_T := bz_in 896 (by decide +kernel) rfl
theorem wd_897 : (Jvm.Cond.code ({ cls := "java/lang/Math", name := "max", desc := "(II)I" } : Jvm.MethodName) prog_16_method_65_code (2 : Nat) (Option.some Jvm.ClassFile.FieldType.int)) ∈ bz_T := bz_in 897 (by decide +kernel) rfl
theorem wd_902 : (Jvm.Cond.methodLink "UnitsWrong" (198 : Nat) ({ cls := "UnitsWrong", name := "isBooked", desc := "(II)Z" } : Jvm.MethodName)) ∈ bz_T := bz_in 902 (by decide +kernel) rfl
theorem wd_904 : (Jvm.Cond.instanceMethod ({ cls := "UnitsWrong", name := "isBooked", desc := "(II)Z" } : Jvm.MethodName)) ∈ bz_T := bz_in 904 (by decide +kernel) rfl
theorem wd_905 : (Jvm.Cond.code ({ cls := "UnitsWrong", name := "isBooked", desc := "(II)Z" } : Jvm.MethodName) prog_1_method_43_code (3 : Nat) (Option.some Jvm.ClassFile.FieldType.boolean)) ∈ bz_T := bz_in 905 (by decide +kernel) rfl
theorem wd_906 : (Jvm.Cond.methodLink "UnitsWrong" (204 : Nat) ({ cls := "UnitsWrong", name := "slot", desc := "(II)I" } : Jvm.MethodName)) ∈ bz_T := bz_in 906 (by decide +kernel) rfl
theorem wd_911 : (Jvm.Cond.methodLink "UnitsWrong" (207 : Nat) ({ cls := "UnitsWrong$State", name := "latestKnown", desc := "()I" } : Jvm.MethodName)) ∈ bz_T := bz_in 911 (by decide +kernel) rfl
theorem wd_912 : (Jvm.Cond.instanceMethod ({ cls := "UnitsWrong$State", name := "latestKnown", desc := "()I" } : Jvm.MethodName)) ∈ bz_T := bz_in 912 (by decide +kernel) rfl
theorem wd_914 : (Jvm.Cond.code ({ cls := "UnitsWrong$State", name := "latestKnown", desc := "()I" } : Jvm.MethodName) prog_9_method_9_code (1 : Nat) (Option.some Jvm.ClassFile.FieldType.int)) ∈ bz_T := bz_in 914 (by decide +kernel) rfl
theorem wd_915 : (Jvm.Cond.methodLink "UnitsWrong" (210 : Nat) ({ cls := "UnitsWrong$Course", name := "walkTo", desc := "(LUnitsWrong$State;I)V" } : Jvm.MethodName)) ∈ bz_T := bz_in 915 (by decide +kernel) rfl
theorem wd_920 : (Jvm.Cond.methodLink "UnitsWrong" (219 : Nat) ({ cls := "UnitsWrong", name := "told", desc := "(J)I" } : Jvm.MethodName)) ∈ bz_T := bz_in 920 (by decide +kernel) rfl
theorem wd_921 : (Jvm.Cond.static ({ cls := "UnitsWrong", name := "told", desc := "(J)I" } : Jvm.MethodName)) ∈ bz_T := bz_in 921 (by decide +kernel) rfl
theorem wd_922 : (Jvm.Cond.code ({ cls := "UnitsWrong", name := "told", desc := "(J)I" } : Jvm.MethodName) prog_1_method_47_code (2 : Nat) (Option.some Jvm.ClassFile.FieldType.int)) ∈ bz_T := bz_in 922 (by decide +kernel) rfl
theorem wd_923 : (Jvm.Cond.constantLong "UnitsWrong" (363 : Nat) (-2000000000 : Int64)) ∈ bz_T := bz_in 923 (by decide +kernel) rfl
theorem wd_924 : (Jvm.Cond.constantLong "UnitsWrong" (365 : Nat) (2000000000 : Int64)) ∈ bz_T := bz_in 924 (by decide +kernel) rfl
theorem wd_925 : (Jvm.Cond.methodLink "UnitsWrong" (367 : Nat) ({ cls := "java/lang/Math", name := "min", desc := "(JJ)J" } : Jvm.MethodName)) ∈ bz_T := bz_in 925 (by decide +kernel) rfl
theorem wd_926 : (Jvm.Cond.methodLink "UnitsWrong" (370 : Nat) ({ cls := "java/lang/Math", name := "max", desc := "(JJ)J" } : Jvm.MethodName)) ∈ bz_T := bz_in 926 (by decide +kernel) rfl
theorem wd_931 : (Jvm.Cond.methodLink "UnitsWrong" (225 : Nat) ({ cls := "UnitsWrong$Course", name := "errorOn", desc := "(LUnitsWrong$State;I)I" } : Jvm.MethodName)) ∈ bz_T := bz_in 931 (by decide +kernel) rfl
theorem wd_932 : (Jvm.Cond.instanceMethod ({ cls := "UnitsWrong$Course", name := "errorOn", desc := "(LUnitsWrong$State;I)I" } : Jvm.MethodName)) ∈ bz_T := bz_in 932 (by decide +kernel) rfl
theorem wd_934 : (Jvm.Cond.code ({ cls := "UnitsWrong$Course", name := "errorOn", desc := "(LUnitsWrong$State;I)I" } : Jvm.MethodName) prog_5_method_2_code (3 : Nat) (Option.some Jvm.ClassFile.FieldType.int)) ∈ bz_T := bz_in 934 (by decide +kernel) rfl
theorem wd_939 : (Jvm.Cond.methodLink "UnitsWrong" (229 : Nat) ({ cls := "UnitsWrong$State", name := "lastOver", desc := "(I)I" } : Jvm.MethodName)) ∈ bz_T := bz_in 939 (by decide +kernel) rfl
theorem wd_940 : (Jvm.Cond.methodLink "UnitsWrong" (233 : Nat) ({ cls := "UnitsWrong$Course", name := "errorCounts", desc := "(LUnitsWrong$State;II)Z" } : Jvm.MethodName)) ∈ bz_T := bz_in 940 (by decide +kernel) rfl
theorem wd_941 : (Jvm.Cond.instanceMethod ({ cls := "UnitsWrong$Course", name := "errorCounts", desc := "(LUnitsWrong$State;II)Z" } : Jvm.MethodName)) ∈ bz_T := bz_in 941 (by decide +kernel) rfl
theorem wd_943 : (Jvm.Cond.code ({ cls := "UnitsWrong$Course", name := "errorCounts", desc := "(LUnitsWrong$State;II)Z" } : Jvm.MethodName) prog_5_method_3_code (4 : Nat) (Option.some Jvm.ClassFile.FieldType.boolean)) ∈ bz_T := bz_in 943 (by decide +kernel) rfl
theorem wd_944 : (Jvm.Cond.methodLink "UnitsWrong$Course" (57 : Nat) ({ cls := "UnitsWrong$Course", name := "errorOn", desc := "(LUnitsWrong$State;I)I" } : Jvm.MethodName)) ∈ bz_T := bz_in 944 (by decide +kernel) rfl
theorem wd_945 : (Jvm.Cond.methodLink "UnitsWrong$Course" (61 : Nat) ({ cls := "java/lang/Math", name := "abs", desc := "(I)I" } : Jvm.MethodName)) ∈ bz_T := bz_in 945 (by decide +kernel) rfl
theorem wd_946 : (Jvm.Cond.static ({ cls := "java/lang/Math", name := "abs", desc := "(I)I" } : Jvm.MethodName)) ∈ bz_T := bz_in 946 (by decide +kernel) rfl
theorem wd_947 : (Jvm.Cond.code ({ cls := "java/lang/Math", name := "abs", desc := "(I)I" } : Jvm.MethodName) prog_16_method_59_code (1 : Nat) (Option.some Jvm.ClassFile.FieldType.int)) ∈ bz_T := bz_in 947 (by decide +kernel) rfl
theorem wd_956 : (Jvm.Cond.methodLink "UnitsWrong" (240 : Nat) ({ cls := "UnitsWrong$Claims", name := "gather", desc := "(LUnitsWrong$State;LUnitsWrong$Course;II)V" } : Jvm.MethodName)) ∈ bz_T := bz_in 956 (by decide +kernel) rfl
theorem wd_957 : (Jvm.Cond.instanceMethod ({ cls := "UnitsWrong$Claims", name := "gather", desc := "(LUnitsWrong$State;LUnitsWrong$Course;II)V" } : Jvm.MethodName)) ∈ bz_T := bz_in 957 (by decide +kernel) rfl
theorem wd_959 : (Jvm.Cond.code ({ cls := "UnitsWrong$Claims", name := "gather", desc := "(LUnitsWrong$State;LUnitsWrong$Course;II)V" } : Jvm.MethodName) prog_4_method_2_code (5 : Nat) (Option.none : Option Jvm.ClassFile.FieldType)) ∈ bz_T := bz_in 959 (by decide +kernel) rfl
theorem wd_960 : (Jvm.Cond.methodLink "UnitsWrong$Claims" (27 : Nat) ({ cls := "UnitsWrong$Laws", name := "value", desc := "(III)I" } : Jvm.MethodName)) ∈ bz_T := bz_in 960 (by decide +kernel) rfl
theorem wd_961 : (Jvm.Cond.methodLink "UnitsWrong$Claims" (33 : Nat) ({ cls := "UnitsWrong$Claims", name := "gatherBeyond", desc := "(LUnitsWrong$State;LUnitsWrong$Course;III)V" } : Jvm.MethodName)) ∈ bz_T := bz_in 961 (by decide +kernel) rfl
theorem wd_962 : (Jvm.Cond.instanceMethod ({ cls := "UnitsWrong$Claims", name := "gatherBeyond", desc := "(LUnitsWrong$State;LUnitsWrong$Course;III)V" } : Jvm.MethodName)) ∈ bz_T := bz_in 962 (by decide +kernel) rfl
theorem wd_964 : (Jvm.Cond.code ({ cls := "UnitsWrong$Claims", name := "gatherBeyond", desc := "(LUnitsWrong$State;LUnitsWrong$Course;III)V" } : Jvm.MethodName) prog_4_method_3_code (11 : Nat) (Option.none : Option Jvm.ClassFile.FieldType)) ∈ bz_T := bz_in 964 (by decide +kernel) rfl
theorem wd_965 : (Jvm.Cond.methodLink "UnitsWrong$Claims" (44 : Nat) ({ cls := "java/util/Arrays", name := "fill", desc := "([JJ)V" } : Jvm.MethodName)) ∈ bz_T := bz_in 965 (by decide +kernel) rfl
theorem wd_966 : (Jvm.Cond.static ({ cls := "java/util/Arrays", name := "fill", desc := "([JJ)V" } : Jvm.MethodName)) ∈ bz_T := bz_in 966 (by decide +kernel) rfl
theorem wd_967 : (Jvm.Cond.code ({ cls := "java/util/Arrays", name := "fill", desc := "([JJ)V" } : Jvm.MethodName) prog_21_method_101_code (5 : Nat) (Option.none : Option Jvm.ClassFile.FieldType)) ∈ bz_T := bz_in 967 (by decide +kernel) rfl
theorem wd_968 : (Jvm.Cond.methodLink "UnitsWrong$Claims" (54 : Nat) ({ cls := "UnitsWrong$State", name := "lastOver", desc := "(I)I" } : Jvm.MethodName)) ∈ bz_T := bz_in 968 (by decide +kernel) rfl
theorem wd_970 : (Jvm.Cond.methodLink "UnitsWrong$Claims" (82 : Nat) ({ cls := "UnitsWrong$Course", name := "errorCounts", desc := "(LUnitsWrong$State;II)Z" } : Jvm.MethodName)) ∈ bz_T := bz_in 970 (by decide +kernel) rfl
theorem wd_971 : (Jvm.Cond.methodLink "UnitsWrong$Claims" (88 : Nat) ({ cls := "UnitsWrong$Claims", name := "addDeal", desc := "(LUnitsWrong$Deals;I)V" } : Jvm.MethodName)) ∈ bz_T := bz_in 971 (by decide +kernel) rfl
theorem wd_973 : (Jvm.Cond.instanceMethod ({ cls := "UnitsWrong$Claims", name := "addDeal", desc := "(LUnitsWrong$Deals;I)V" } : Jvm.MethodName)) ∈ bz_T := bz_in 973 (by decide +kernel) rfl
theorem wd_974 : (Jvm.Cond.code ({ cls := "UnitsWrong$Claims", name := "addDeal", desc := "(LUnitsWrong$Deals;I)V" } : Jvm.MethodName) prog_4_method_4_code (7 : Nat) (Option.none : Option Jvm.ClassFile.FieldType)) ∈ bz_T := bz_in 974 (by decide +kernel) rfl
theorem wd_975 : (Jvm.Cond.methodLink "UnitsWrong$Claims" (101 : Nat) ({ cls := "java/lang/Math", name := "max", desc := "(JJ)J" } : Jvm.MethodName)) ∈ bz_T := bz_in 975 (by decide +kernel) rfl
theorem wd_976 : (Jvm.Cond.methodLink "UnitsWrong" (250 : Nat) ({ cls := "UnitsWrong$Claims", name := "sumOf", desc := "(LUnitsWrong$State;I)J" } : Jvm.MethodName)) ∈ bz_T := bz_in 976 (by decide +kernel) rfl
theorem wd_977 : (Jvm.Cond.instanceMethod ({ cls := "UnitsWrong$Claims", name := "sumOf", desc := "(LUnitsWrong$State;I)J" } : Jvm.MethodName)) ∈ bz_T := bz_in 977 (by decide +kernel) rfl
theorem wd_979 : (Jvm.Cond.code ({ cls := "UnitsWrong$Claims", name := "sumOf", desc := "(LUnitsWrong$State;I)J" } : Jvm.MethodName) prog_4_method_5_code (6 : Nat) (Option.some Jvm.ClassFile.FieldType.long)) ∈ bz_T := bz_in 979 (by decide +kernel) rfl
theorem wd_980 : (Jvm.Cond.methodLink "UnitsWrong" (254 : Nat) ({ cls := "UnitsWrong$Claims", name := "wayOf", desc := "(LUnitsWrong$State;I)I" } : Jvm.MethodName)) ∈ bz_T := bz_in 980 (by decide +kernel) rfl
theorem wd_981 : (Jvm.Cond.instanceMethod ({ cls := "UnitsWrong$Claims", name := "wayOf", desc := "(LUnitsWrong$State;I)I" } : Jvm.MethodName)) ∈ bz_T := bz_in 981 (by decide +kernel) rfl
theorem wd_983 : (Jvm.Cond.code ({ cls := "UnitsWrong$Claims", name := "wayOf", desc := "(LUnitsWrong$State;I)I" } : Jvm.MethodName) prog_4_method_6_code (7 : Nat) (Option.some Jvm.ClassFile.FieldType.int)) ∈ bz_T := bz_in 983 (by decide +kernel) rfl
theorem wd_984 : (Jvm.Cond.methodLink "UnitsWrong$Claims" (107 : Nat) ({ cls := "UnitsWrong$Claims", name := "sumOf", desc := "(LUnitsWrong$State;I)J" } : Jvm.MethodName)) ∈ bz_T := bz_in 984 (by decide +kernel) rfl
theorem wd_985 : (Jvm.Cond.methodLink "UnitsWrong$Claims" (111 : Nat) ({ cls := "UnitsWrong$State", name := "isGoneOn", desc := "(II)Z" } : Jvm.MethodName)) ∈ bz_T := bz_in 985 (by decide +kernel) rfl
theorem wd_986 : (Jvm.Cond.instanceMethod ({ cls := "UnitsWrong$State", name := "isGoneOn", desc := "(II)Z" } : Jvm.MethodName)) ∈ bz_T := bz_in 986 (by decide +kernel) rfl
theorem wd_988 : (Jvm.Cond.code ({ cls := "UnitsWrong$State", name := "isGoneOn", desc := "(II)Z" } : Jvm.MethodName) prog_9_method_11_code (3 : Nat) (Option.some Jvm.ClassFile.FieldType.boolean)) ∈ bz_T := bz_in 988 (by decide +kernel) rfl
theorem wd_993 : (Jvm.Cond.methodLink "UnitsWrong" (257 : Nat) ({ cls := "UnitsWrong$Claims", name := "lacking", desc := "(LUnitsWrong$State;LUnitsWrong$Course;)J" } : Jvm.MethodName)) ∈ bz_T := bz_in 993 (by decide +kernel) rfl
theorem wd_994 : (Jvm.Cond.instanceMethod ({ cls := "UnitsWrong$Claims", name := "lacking", desc := "(LUnitsWrong$State;LUnitsWrong$Course;)J" } : Jvm.MethodName)) ∈ bz_T := bz_in 994 (by decide +kernel) rfl
theorem wd_996 : (Jvm.Cond.code ({ cls := "UnitsWrong$Claims", name := "lacking", desc := "(LUnitsWrong$State;LUnitsWrong$Course;)J" } : Jvm.MethodName) prog_4_method_9_code (10 : Nat) (Option.some Jvm.ClassFile.FieldType.long)) ∈ bz_T := bz_in 996 (by decide +kernel) rfl
theorem wd_997 : (Jvm.Cond.methodLink "UnitsWrong$Claims" (124 : Nat) ({ cls := "UnitsWrong$Claims", name := "wayOf", desc := "(LUnitsWrong$State;I)I" } : Jvm.MethodName)) ∈ bz_T := bz_in 997 (by decide +kernel) rfl
theorem wd_998 : (Jvm.Cond.methodLink "UnitsWrong$Claims" (128 : Nat) ({ cls := "UnitsWrong$Claims", name := "getterOf", desc := "(LUnitsWrong$State;II)I" } : Jvm.MethodName)) ∈ bz_T := bz_in 998 (by decide +kernel) rfl
theorem wd_1000 : (Jvm.Cond.instanceMethod ({ cls := "UnitsWrong$Claims", name := "getterOf", desc := "(LUnitsWrong$State;II)I" } : Jvm.MethodName)) ∈ bz_T := bz_in 1000 (by decide +kernel) rfl
theorem wd_1001 : (Jvm.Cond.code ({ cls := "UnitsWrong$Claims", name := "getterOf", desc := "(LUnitsWrong$State;II)I" } : Jvm.MethodName) prog_4_method_7_code (6 : Nat) (Option.some Jvm.ClassFile.FieldType.int)) ∈ bz_T := bz_in 1001 (by decide +kernel) rfl
theorem wd_1010 : (Jvm.Cond.methodLink "UnitsWrong" (283 : Nat) ({ cls := "UnitsWrong$Deals", name := "taxOf", desc := "(LUnitsWrong$Laws;I[J)J" } : Jvm.MethodName)) ∈ bz_T := bz_in 1010 (by decide +kernel) rfl
theorem wd_1011 : (Jvm.Cond.instanceMethod ({ cls := "UnitsWrong$Deals", name := "taxOf", desc := "(LUnitsWrong$Laws;I[J)J" } : Jvm.MethodName)) ∈ bz_T := bz_in 1011 (by decide +kernel) rfl
theorem wd_1013 : (Jvm.Cond.code ({ cls := "UnitsWrong$Deals", name := "taxOf", desc := "(LUnitsWrong$Laws;I[J)J" } : Jvm.MethodName) prog_6_method_5_code (14 : Nat) (Option.some Jvm.ClassFile.FieldType.long)) ∈ bz_T := bz_in 1013 (by decide +kernel) rfl
theorem wd_1014 : (Jvm.Cond.methodLink "UnitsWrong$Deals" (67 : Nat) ({ cls := "java/lang/Math", name := "max", desc := "(JJ)J" } : Jvm.MethodName)) ∈ bz_T := bz_in 1014 (by decide +kernel) rfl
theorem wd_1015 : (Jvm.Cond.methodLink "UnitsWrong$Deals" (73 : Nat) ({ cls := "UnitsWrong$Laws", name := "value", desc := "(III)I" } : Jvm.MethodName)) ∈ bz_T := bz_in 1015 (by decide +kernel) rfl
theorem wd_1020 : (Jvm.Cond.methodLink "UnitsWrong" (287 : Nat) ({ cls := "UnitsWrong$State", name := "isHolder", desc := "(I)Z" } : Jvm.MethodName)) ∈ bz_T := bz_in 1020 (by decide +kernel) rfl
theorem wd_1029 : (Jvm.Cond.methodLink "UnitsWrong" (296 : Nat) ({ cls := "UnitsWrong$State", name := "openBehind", desc := "(I)I" } : Jvm.MethodName)) ∈ bz_T := bz_in 1029 (by decide +kernel) rfl
theorem wd_1034 : (Jvm.Cond.constant "UnitsWrong" (299 : Nat) (10000000 : Int32)) ∈ bz_T := bz_in 1034 (by decide +kernel) rfl
theorem wd_1035 : (Jvm.Cond.methodLink "UnitsWrong" (300 : Nat) ({ cls := "UnitsWrong$Audits", name := "add", desc := "(III)I" } : Jvm.MethodName)) ∈ bz_T := bz_in 1035 (by decide +kernel) rfl
theorem wd_1036 : (Jvm.Cond.instanceMethod ({ cls := "UnitsWrong$Audits", name := "add", desc := "(III)I" } : Jvm.MethodName)) ∈ bz_T := bz_in 1036 (by decide +kernel) rfl
theorem wd_1038 : (Jvm.Cond.code ({ cls := "UnitsWrong$Audits", name := "add", desc := "(III)I" } : Jvm.MethodName) prog_2_method_2_code (4 : Nat) (Option.some Jvm.ClassFile.FieldType.int)) ∈ bz_T := bz_in 1038 (by decide +kernel) rfl
theorem wd_1051 : (Jvm.Cond.methodLink "UnitsWrong" (310 : Nat) ({ cls := "UnitsWrong$Audits", name := "search", desc := "(LUnitsWrong$State;LUnitsWrong$Course;)V" } : Jvm.MethodName)) ∈ bz_T := bz_in 1051 (by decide +kernel) rfl
theorem wd_1052 : (Jvm.Cond.instanceMethod ({ cls := "UnitsWrong$Audits", name := "search", desc := "(LUnitsWrong$State;LUnitsWrong$Course;)V" } : Jvm.MethodName)) ∈ bz_T := bz_in 1052 (by decide +kernel) rfl
theorem wd_1054 : (Jvm.Cond.code ({ cls := "UnitsWrong$Audits", name := "search", desc := "(LUnitsWrong$State;LUnitsWrong$Course;)V" } : Jvm.MethodName) prog_2_method_3_code (6 : Nat) (Option.none : Option Jvm.ClassFile.FieldType)) ∈ bz_T := bz_in 1054 (by decide +kernel) rfl
theorem wd_1055 : (Jvm.Cond.methodLink "UnitsWrong$Audits" (56 : Nat) ({ cls := "java/lang/Integer", name := "bitCount", desc := "(I)I" } : Jvm.MethodName)) ∈ bz_T := bz_in 1055 (by decide +kernel) rfl
theorem wd_1056 : (Jvm.Cond.static ({ cls := "java/lang/Integer", name := "bitCount", desc := "(I)I" } : Jvm.MethodName)) ∈ bz_T := bz_in 1056 (by decide +kernel) rfl
theorem wd_1057 : (Jvm.Cond.code ({ cls := "java/lang/Integer", name := "bitCount", desc := "(I)I" } : Jvm.MethodName) prog_15_method_49_code (1 : Nat) (Option.some Jvm.ClassFile.FieldType.int)) ∈ bz_T := bz_in 1057 (by decide +kernel) rfl
theorem wd_1058 : (Jvm.Cond.constant "java/lang/Integer" (265 : Nat) (1431655765 : Int32)) ∈ bz_T := bz_in 1058 (by decide +kernel) rfl
theorem wd_1059 : (Jvm.Cond.constant "java/lang/Integer" (266 : Nat) (858993459 : Int32)) ∈ bz_T := bz_in 1059 (by decide +kernel) rfl
theorem wd_1060 : (Jvm.Cond.constant "java/lang/Integer" (267 : Nat) (252645135 : Int32)) ∈ bz_T := bz_in 1060 (by decide +kernel) rfl
theorem wd_1061 : (Jvm.Cond.methodLink "UnitsWrong$Audits" (62 : Nat) ({ cls := "UnitsWrong$Audits", name := "explains", desc := "(LUnitsWrong$State;LUnitsWrong$Course;I)Z" } : Jvm.MethodName)) ∈ bz_T := bz_in 1061 (by decide +kernel) rfl
theorem wd_1063 : (Jvm.Cond.instanceMethod ({ cls := "UnitsWrong$Audits", name := "explains", desc := "(LUnitsWrong$State;LUnitsWrong$Course;I)Z" } : Jvm.MethodName)) ∈ bz_T := bz_in 1063 (by decide +kernel) rfl
theorem wd_1064 : (Jvm.Cond.code ({ cls := "UnitsWrong$Audits", name := "explains", desc := "(LUnitsWrong$State;LUnitsWrong$Course;I)Z" } : Jvm.MethodName) prog_2_method_4_code (6 : Nat) (Option.some Jvm.ClassFile.FieldType.boolean)) ∈ bz_T := bz_in 1064 (by decide +kernel) rfl
theorem wd_1065 : (Jvm.Cond.methodLink "UnitsWrong$Audits" (66 : Nat) ({ cls := "java/lang/Math", name := "max", desc := "(II)I" } : Jvm.MethodName)) ∈ bz_T := bz_in 1065 (by decide +kernel) rfl
theorem wd_1066 : (Jvm.Cond.methodLink "UnitsWrong$Audits" (72 : Nat) ({ cls := "UnitsWrong$Course", name := "start", desc := "(LUnitsWrong$State;)V" } : Jvm.MethodName)) ∈ bz_T := bz_in 1066 (by decide +kernel) rfl
theorem wd_1067 : (Jvm.Cond.methodLink "UnitsWrong$Audits" (78 : Nat) ({ cls := "UnitsWrong$State", name := "latestKnown", desc := "()I" } : Jvm.MethodName)) ∈ bz_T := bz_in 1067 (by decide +kernel) rfl
theorem wd_1068 : (Jvm.Cond.methodLink "UnitsWrong$Audits" (82 : Nat) ({ cls := "UnitsWrong$Course", name := "passDay", desc := "(LUnitsWrong$State;III)V" } : Jvm.MethodName)) ∈ bz_T := bz_in 1068 (by decide +kernel) rfl
theorem wd_1069 : (Jvm.Cond.methodLink "UnitsWrong$Audits" (86 : Nat) ({ cls := "UnitsWrong$Audits", name := "agrees", desc := "(LUnitsWrong$Course;I)Z" } : Jvm.MethodName)) ∈ bz_T := bz_in 1069 (by decide +kernel) rfl
theorem wd_1071 : (Jvm.Cond.instanceMethod ({ cls := "UnitsWrong$Audits", name := "agrees", desc := "(LUnitsWrong$Course;I)Z" } : Jvm.MethodName)) ∈ bz_T := bz_in 1071 (by decide +kernel) rfl
theorem wd_1072 : (Jvm.Cond.code ({ cls := "UnitsWrong$Audits", name := "agrees", desc := "(LUnitsWrong$Course;I)Z" } : Jvm.MethodName) prog_2_method_5_code (4 : Nat) (Option.some Jvm.ClassFile.FieldType.boolean)) ∈ bz_T := bz_in 1072 (by decide +kernel) rfl
theorem wd_1082 : (Jvm.Cond.constantLong "UnitsWrong" (320 : Nat) (10000 : Int64)) ∈ bz_T := bz_in 1082 (by decide +kernel) rfl
theorem wd_1083 : (Jvm.Cond.methodLink "UnitsWrong" (322 : Nat) ({ cls := "java/lang/Math", name := "abs", desc := "(I)I" } : Jvm.MethodName)) ∈ bz_T := bz_in 1083 (by decide +kernel) rfl
theorem wd_1088 : (Jvm.Cond.methodLink "UnitsWrong" (325 : Nat) ({ cls := "UnitsWrong$Claims", name := "gatherBeyond", desc := "(LUnitsWrong$State;LUnitsWrong$Course;III)V" } : Jvm.MethodName)) ∈ bz_T := bz_in 1088 (by decide +kernel) rfl
theorem wd_1089 : (Jvm.Cond.methodLink "UnitsWrong" (329 : Nat) ({ cls := "UnitsWrong$Claims", name := "sumAboveZero", desc := "(LUnitsWrong$State;)J" } : Jvm.MethodName)) ∈ bz_T := bz_in 1089 (by decide +kernel) rfl
theorem wd_1090 : (Jvm.Cond.instanceMethod ({ cls := "UnitsWrong$Claims", name := "sumAboveZero", desc := "(LUnitsWrong$State;)J" } : Jvm.MethodName)) ∈ bz_T := bz_in 1090 (by decide +kernel) rfl
theorem wd_1092 : (Jvm.Cond.code ({ cls := "UnitsWrong$Claims", name := "sumAboveZero", desc := "(LUnitsWrong$State;)J" } : Jvm.MethodName) prog_4_method_8_code (5 : Nat) (Option.some Jvm.ClassFile.FieldType.long)) ∈ bz_T := bz_in 1092 (by decide +kernel) rfl
theorem wd_1097 : (Jvm.Cond.methodLink "UnitsWrong" (333 : Nat) ({ cls := "UnitsWrong$State", name := "isParty", desc := "(I)Z" } : Jvm.MethodName)) ∈ bz_T := bz_in 1097 (by decide +kernel) rfl
theorem wd_1098 : (Jvm.Cond.instanceMethod ({ cls := "UnitsWrong$State", name := "isParty", desc := "(I)Z" } : Jvm.MethodName)) ∈ bz_T := bz_in 1098 (by decide +kernel) rfl
theorem wd_1100 : (Jvm.Cond.code ({ cls := "UnitsWrong$State", name := "isParty", desc := "(I)Z" } : Jvm.MethodName) prog_9_method_5_code (2 : Nat) (Option.some Jvm.ClassFile.FieldType.boolean)) ∈ bz_T := bz_in 1100 (by decide +kernel) rfl
theorem wd_1101 : (Jvm.Cond.methodLink "UnitsWrong" (336 : Nat) ({ cls := "UnitsWrong", name := "settle", desc := "(I)V" } : Jvm.MethodName)) ∈ bz_T := bz_in 1101 (by decide +kernel) rfl
theorem wd_1103 : (Jvm.Cond.instanceMethod ({ cls := "UnitsWrong", name := "settle", desc := "(I)V" } : Jvm.MethodName)) ∈ bz_T := bz_in 1103 (by decide +kernel) rfl
theorem wd_1104 : (Jvm.Cond.code ({ cls := "UnitsWrong", name := "settle", desc := "(I)V" } : Jvm.MethodName) prog_1_method_42_code (3 : Nat) (Option.none : Option Jvm.ClassFile.FieldType)) ∈ bz_T := bz_in 1104 (by decide +kernel) rfl
theorem wd_1105 : (Jvm.Cond.methodLink "UnitsWrong" (360 : Nat) ({ cls := "UnitsWrong$Claims", name := "weigh", desc := "(LUnitsWrong$State;LUnitsWrong$Course;)V" } : Jvm.MethodName)) ∈ bz_T := bz_in 1105 (by decide +kernel) rfl
theorem wd_1106 : (Jvm.Cond.instanceMethod ({ cls := "UnitsWrong$Claims", name := "weigh", desc := "(LUnitsWrong$State;LUnitsWrong$Course;)V" } : Jvm.MethodName)) ∈ bz_T := bz_in 1106 (by decide +kernel) rfl
theorem wd_1108 : (Jvm.Cond.code ({ cls := "UnitsWrong$Claims", name := "weigh", desc := "(LUnitsWrong$State;LUnitsWrong$Course;)V" } : Jvm.MethodName) prog_4_method_10_code (5 : Nat) (Option.none : Option Jvm.ClassFile.FieldType)) ∈ bz_T := bz_in 1108 (by decide +kernel) rfl
theorem wd_1109 : (Jvm.Cond.methodLink "UnitsWrong$Claims" (132 : Nat) ({ cls := "UnitsWrong$Claims", name := "give", desc := "(LUnitsWrong$State;I)V" } : Jvm.MethodName)) ∈ bz_T := bz_in 1109 (by decide +kernel) rfl
theorem wd_1111 : (Jvm.Cond.instanceMethod ({ cls := "UnitsWrong$Claims", name := "give", desc := "(LUnitsWrong$State;I)V" } : Jvm.MethodName)) ∈ bz_T := bz_in 1111 (by decide +kernel) rfl
theorem wd_1112 : (Jvm.Cond.code ({ cls := "UnitsWrong$Claims", name := "give", desc := "(LUnitsWrong$State;I)V" } : Jvm.MethodName) prog_4_method_11_code (6 : Nat) (Option.none : Option Jvm.ClassFile.FieldType)) ∈ bz_T := bz_in 1112 (by decide +kernel) rfl
theorem wd_1113 : (Jvm.Cond.methodLink "UnitsWrong$Claims" (136 : Nat) ({ cls := "UnitsWrong$Claims", name := "lacking", desc := "(LUnitsWrong$State;LUnitsWrong$Course;)J" } : Jvm.MethodName)) ∈ bz_T := bz_in 1113 (by decide +kernel) rfl
theorem wd_1118 : (Jvm.Cond.methodLink "UnitsWrong" (342 : Nat) ({ cls := "UnitsWrong$Settlement", name := "arrange", desc := "([J)Z" } : Jvm.MethodName)) ∈ bz_T := bz_in 1118 (by decide +kernel) rfl
theorem wd_1119 : (Jvm.Cond.instanceMethod ({ cls := "UnitsWrong$Settlement", name := "arrange", desc := "([J)Z" } : Jvm.MethodName)) ∈ bz_T := bz_in 1119 (by decide +kernel) rfl
theorem wd_1121 : (Jvm.Cond.code ({ cls := "UnitsWrong$Settlement", name := "arrange", desc := "([J)Z" } : Jvm.MethodName) prog_8_method_2_code (5 : Nat) (Option.some Jvm.ClassFile.FieldType.boolean)) ∈ bz_T := bz_in 1121 (by decide +kernel) rfl
theorem wd_1122 : (Jvm.Cond.methodLink "UnitsWrong$Settlement" (38 : Nat) ({ cls := "UnitsWrong$Settlement", name := "findParties", desc := "([J)Z" } : Jvm.MethodName)) ∈ bz_T := bz_in 1122 (by decide +kernel) rfl
theorem wd_1124 : (Jvm.Cond.instanceMethod ({ cls := "UnitsWrong$Settlement", name := "findParties", desc := "([J)Z" } : Jvm.MethodName)) ∈ bz_T := bz_in 1124 (by decide +kernel) rfl
theorem wd_1125 : (Jvm.Cond.code ({ cls := "UnitsWrong$Settlement", name := "findParties", desc := "([J)Z" } : Jvm.MethodName) prog_8_method_3_code (3 : Nat) (Option.some Jvm.ClassFile.FieldType.boolean)) ∈ bz_T := bz_in 1125 (by decide +kernel) rfl
theorem wd_1126 : (Jvm.Cond.methodLink "UnitsWrong$Settlement" (42 : Nat) ({ cls := "UnitsWrong$Settlement", name := "countHeaps", desc := "()V" } : Jvm.MethodName)) ∈ bz_T := bz_in 1126 (by decide +kernel) rfl
theorem wd_1128 : (Jvm.Cond.instanceMethod ({ cls := "UnitsWrong$Settlement", name := "countHeaps", desc := "()V" } : Jvm.MethodName)) ∈ bz_T := bz_in 1128 (by decide +kernel) rfl
theorem wd_1129 : (Jvm.Cond.code ({ cls := "UnitsWrong$Settlement", name := "countHeaps", desc := "()V" } : Jvm.MethodName) prog_8_method_4_code (4 : Nat) (Option.none : Option Jvm.ClassFile.FieldType)) ∈ bz_T := bz_in 1129 (by decide +kernel) rfl
theorem wd_1130 : (Jvm.Cond.methodLink "UnitsWrong$Settlement" (56 : Nat) ({ cls := "java/lang/Math", name := "max", desc := "(II)I" } : Jvm.MethodName)) ∈ bz_T := bz_in 1130 (by decide +kernel) rfl
theorem wd_1131 : (Jvm.Cond.methodLink "UnitsWrong$Settlement" (48 : Nat) ({ cls := "UnitsWrong$Settlement", name := "firstHeap", desc := "(I)I" } : Jvm.MethodName)) ∈ bz_T := bz_in 1131 (by decide +kernel) rfl
theorem wd_1133 : (Jvm.Cond.instanceMethod ({ cls := "UnitsWrong$Settlement", name := "firstHeap", desc := "(I)I" } : Jvm.MethodName)) ∈ bz_T := bz_in 1133 (by decide +kernel) rfl
theorem wd_1134 : (Jvm.Cond.code ({ cls := "UnitsWrong$Settlement", name := "firstHeap", desc := "(I)I" } : Jvm.MethodName) prog_8_method_5_code (5 : Nat) (Option.some Jvm.ClassFile.FieldType.int)) ∈ bz_T := bz_in 1134 (by decide +kernel) rfl
theorem wd_1135 : (Jvm.Cond.methodLink "UnitsWrong$Settlement" (52 : Nat) ({ cls := "UnitsWrong$Settlement", name := "payWithin", desc := "(I)V" } : Jvm.MethodName)) ∈ bz_T := bz_in 1135 (by decide +kernel) rfl
theorem wd_1137 : (Jvm.Cond.instanceMethod ({ cls := "UnitsWrong$Settlement", name := "payWithin", desc := "(I)V" } : Jvm.MethodName)) ∈ bz_T := bz_in 1137 (by decide +kernel) rfl
theorem wd_1138 : (Jvm.Cond.code ({ cls := "UnitsWrong$Settlement", name := "payWithin", desc := "(I)V" } : Jvm.MethodName) prog_8_method_6_code (6 : Nat) (Option.none : Option Jvm.ClassFile.FieldType)) ∈ bz_T := bz_in 1138 (by decide +kernel) rfl
theorem wd_1139 : (Jvm.Cond.methodLink "UnitsWrong$Settlement" (62 : Nat) ({ cls := "java/lang/Math", name := "abs", desc := "(J)J" } : Jvm.MethodName)) ∈ bz_T := bz_in 1139 (by decide +kernel) rfl
theorem wd_1165 : (Jvm.Cond.fieldLink "UnitsWrongModel" (216 : Nat) "UnitsWrongModel" "now" "I") ∈ bz_T := bz_in 1165 (by decide +kernel) rfl
theorem wd_1166 : (Jvm.Cond.fieldLink "UnitsWrongModel" (9 : Nat) "UnitsWrongModel" "isHoliday" "[Z") ∈ bz_T := bz_in 1166 (by decide +kernel) rfl
theorem wd_1167 : (Jvm.Cond.fieldLink "UnitsWrongModel" (226 : Nat) "UnitsWrongModel" "holidays" "I") ∈ bz_T := bz_in 1167 (by decide +kernel) rfl
theorem wd_1168 : (Jvm.Cond.fieldLink "UnitsWrongModel" (13 : Nat) "UnitsWrongModel" "subject" "[I") ∈ bz_T := bz_in 1168 (by decide +kernel) rfl
theorem wd_1169 : (Jvm.Cond.fieldLink "UnitsWrongModel" (17 : Nat) "UnitsWrongModel" "number" "[I") ∈ bz_T := bz_in 1169 (by decide +kernel) rfl
theorem wd_1170 : (Jvm.Cond.fieldLink "UnitsWrongModel" (20 : Nat) "UnitsWrongModel" "forDay" "[I") ∈ bz_T := bz_in 1170 (by decide +kernel) rfl
theorem wd_1171 : (Jvm.Cond.fieldLink "UnitsWrongModel" (23 : Nat) "UnitsWrongModel" "value" "[I") ∈ bz_T := bz_in 1171 (by decide +kernel) rfl
theorem wd_1172 : (Jvm.Cond.fieldLink "UnitsWrongModel" (26 : Nat) "UnitsWrongModel" "made" "[I") ∈ bz_T := bz_in 1172 (by decide +kernel) rfl
theorem wd_1173 : (Jvm.Cond.fieldLink "UnitsWrongModel" (29 : Nat) "UnitsWrongModel" "sSubject" "[I") ∈ bz_T := bz_in 1173 (by decide +kernel) rfl
theorem wd_1174 : (Jvm.Cond.fieldLink "UnitsWrongModel" (32 : Nat) "UnitsWrongModel" "sNumber" "[I") ∈ bz_T := bz_in 1174 (by decide +kernel) rfl
theorem wd_1175 : (Jvm.Cond.fieldLink "UnitsWrongModel" (35 : Nat) "UnitsWrongModel" "sDay" "[I") ∈ bz_T := bz_in 1175 (by decide +kernel) rfl
theorem wd_1176 : (Jvm.Cond.fieldLink "UnitsWrongModel" (38 : Nat) "UnitsWrongModel" "sValue" "[I") ∈ bz_T := bz_in 1176 (by decide +kernel) rfl
theorem wd_1177 : (Jvm.Cond.fieldLink "UnitsWrongModel" (251 : Nat) "UnitsWrongModel" "tellings" "I") ∈ bz_T := bz_in 1177 (by decide +kernel) rfl
theorem wd_1178 : (Jvm.Cond.fieldLink "UnitsWrongModel" (526 : Nat) "UnitsWrongModel" "suspects" "I") ∈ bz_T := bz_in 1178 (by decide +kernel) rfl
theorem wd_1179 : (Jvm.Cond.fieldLink "UnitsWrongModel" (41 : Nat) "UnitsWrongModel" "currency" "[I") ∈ bz_T := bz_in 1179 (by decide +kernel) rfl
theorem wd_1180 : (Jvm.Cond.fieldLink "UnitsWrongModel" (44 : Nat) "UnitsWrongModel" "firstCash" "[I") ∈ bz_T := bz_in 1180 (by decide +kernel) rfl
theorem wd_1181 : (Jvm.Cond.fieldLink "UnitsWrongModel" (47 : Nat) "UnitsWrongModel" "zone" "[I") ∈ bz_T := bz_in 1181 (by decide +kernel) rfl
theorem wd_1182 : (Jvm.Cond.fieldLink "UnitsWrongModel" (50 : Nat) "UnitsWrongModel" "goneOn" "[I") ∈ bz_T := bz_in 1182 (by decide +kernel) rfl
theorem wd_1183 : (Jvm.Cond.fieldLink "UnitsWrongModel" (53 : Nat) "UnitsWrongModel" "foundOn" "[I") ∈ bz_T := bz_in 1183 (by decide +kernel) rfl
theorem wd_1184 : (Jvm.Cond.fieldLink "UnitsWrongModel" (275 : Nat) "UnitsWrongModel" "funds" "I") ∈ bz_T := bz_in 1184 (by decide +kernel) rfl
theorem wd_1185 : (Jvm.Cond.fieldLink "UnitsWrongModel" (284 : Nat) "UnitsWrongModel" "holders" "I") ∈ bz_T := bz_in 1185 (by decide +kernel) rfl
theorem wd_1186 : (Jvm.Cond.fieldLink "UnitsWrongModel" (56 : Nat) "UnitsWrongModel" "tFund" "[I") ∈ bz_T := bz_in 1186 (by decide +kernel) rfl
theorem wd_1187 : (Jvm.Cond.fieldLink "UnitsWrongModel" (59 : Nat) "UnitsWrongModel" "tPaper" "[I") ∈ bz_T := bz_in 1187 (by decide +kernel) rfl
theorem wd_1188 : (Jvm.Cond.fieldLink "UnitsWrongModel" (62 : Nat) "UnitsWrongModel" "tDay" "[I") ∈ bz_T := bz_in 1188 (by decide +kernel) rfl
theorem wd_1189 : (Jvm.Cond.fieldLink "UnitsWrongModel" (65 : Nat) "UnitsWrongModel" "tPieces" "[I") ∈ bz_T := bz_in 1189 (by decide +kernel) rfl
theorem wd_1190 : (Jvm.Cond.fieldLink "UnitsWrongModel" (68 : Nat) "UnitsWrongModel" "tPence" "[I") ∈ bz_T := bz_in 1190 (by decide +kernel) rfl
theorem wd_1191 : (Jvm.Cond.fieldLink "UnitsWrongModel" (71 : Nat) "UnitsWrongModel" "tMade" "[I") ∈ bz_T := bz_in 1191 (by decide +kernel) rfl
theorem wd_1192 : (Jvm.Cond.fieldLink "UnitsWrongModel" (294 : Nat) "UnitsWrongModel" "trades" "I") ∈ bz_T := bz_in 1192 (by decide +kernel) rfl
theorem wd_1193 : (Jvm.Cond.fieldLink "UnitsWrongModel" (74 : Nat) "UnitsWrongModel" "dWho" "[I") ∈ bz_T := bz_in 1193 (by decide +kernel) rfl
theorem wd_1194 : (Jvm.Cond.fieldLink "UnitsWrongModel" (77 : Nat) "UnitsWrongModel" "dFund" "[I") ∈ bz_T := bz_in 1194 (by decide +kernel) rfl
theorem wd_1195 : (Jvm.Cond.fieldLink "UnitsWrongModel" (80 : Nat) "UnitsWrongModel" "dMany" "[I") ∈ bz_T := bz_in 1195 (by decide +kernel) rfl
theorem wd_1196 : (Jvm.Cond.fieldLink "UnitsWrongModel" (83 : Nat) "UnitsWrongModel" "dDay" "[I") ∈ bz_T := bz_in 1196 (by decide +kernel) rfl
theorem wd_1197 : (Jvm.Cond.fieldLink "UnitsWrongModel" (86 : Nat) "UnitsWrongModel" "dUnits" "[I") ∈ bz_T := bz_in 1197 (by decide +kernel) rfl
theorem wd_1198 : (Jvm.Cond.fieldLink "UnitsWrongModel" (89 : Nat) "UnitsWrongModel" "isDealt" "[Z") ∈ bz_T := bz_in 1198 (by decide +kernel) rfl
theorem wd_1199 : (Jvm.Cond.fieldLink "UnitsWrongModel" (92 : Nat) "UnitsWrongModel" "booked" "[J") ∈ bz_T := bz_in 1199 (by decide +kernel) rfl
theorem wd_1200 : (Jvm.Cond.fieldLink "UnitsWrongModel" (302 : Nat) "UnitsWrongModel" "deals" "I") ∈ bz_T := bz_in 1200 (by decide +kernel) rfl
theorem wd_1201 : (Jvm.Cond.fieldLink "UnitsWrongModel" (96 : Nat) "UnitsWrongModel" "text" "[B") ∈ bz_T := bz_in 1201 (by decide +kernel) rfl
theorem wd_1202 : (Jvm.Cond.fieldLink "UnitsWrongModel" (309 : Nat) "UnitsWrongModel" "textMany" "I") ∈ bz_T := bz_in 1202 (by decide +kernel) rfl
theorem wd_1203 : (Jvm.Cond.fieldLink "UnitsWrongModel" (319 : Nat) "UnitsWrongModel" "at" "I") ∈ bz_T := bz_in 1203 (by decide +kernel) rfl
theorem wd_1204 : (Jvm.Cond.fieldLink "UnitsWrongModel" (322 : Nat) "UnitsWrongModel" "lineEnd" "I") ∈ bz_T := bz_in 1204 (by decide +kernel) rfl
theorem wd_1205 : (Jvm.Cond.fieldLink "UnitsWrongModel" (316 : Nat) "UnitsWrongModel" "faultAt" "I") ∈ bz_T := bz_in 1205 (by decide +kernel) rfl
theorem wd_1206 : (Jvm.Cond.fieldLink "UnitsWrongModel" (102 : Nat) "UnitsWrongModel" "rules" "[[[I") ∈ bz_T := bz_in 1206 (by decide +kernel) rfl
theorem wd_1207 : (Jvm.Cond.fieldLink "UnitsWrongModel" (105 : Nat) "UnitsWrongModel" "lawDay" "[I") ∈ bz_T := bz_in 1207 (by decide +kernel) rfl
theorem wd_1208 : (Jvm.Cond.fieldLink "UnitsWrongModel" (413 : Nat) "UnitsWrongModel" "laws" "I") ∈ bz_T := bz_in 1208 (by decide +kernel) rfl
theorem wd_1209 : (Jvm.Cond.fieldLink "UnitsWrongModel" (108 : Nat) "UnitsWrongModel" "plainRules" "[I") ∈ bz_T := bz_in 1209 (by decide +kernel) rfl
theorem wd_1210 : (Jvm.Cond.fieldLink "UnitsWrongModel" (119 : Nat) "UnitsWrongModel" "partyWords" "[Ljava/lang/String;") ∈ bz_T := bz_in 1210 (by decide +kernel) rfl
theorem wd_1211 : (Jvm.Cond.fieldLink "UnitsWrongModel" (125 : Nat) "UnitsWrongModel" "price" "[[I") ∈ bz_T := bz_in 1211 (by decide +kernel) rfl
theorem wd_1212 : (Jvm.Cond.fieldLink "UnitsWrongModel" (128 : Nat) "UnitsWrongModel" "rate" "[[I") ∈ bz_T := bz_in 1212 (by decide +kernel) rfl
theorem wd_1213 : (Jvm.Cond.fieldLink "UnitsWrongModel" (131 : Nat) "UnitsWrongModel" "dividend" "[[I") ∈ bz_T := bz_in 1213 (by decide +kernel) rfl
theorem wd_1214 : (Jvm.Cond.fieldLink "UnitsWrongModel" (134 : Nat) "UnitsWrongModel" "split" "[[I") ∈ bz_T := bz_in 1214 (by decide +kernel) rfl
theorem wd_1215 : (Jvm.Cond.fieldLink "UnitsWrongModel" (137 : Nat) "UnitsWrongModel" "cash" "[J") ∈ bz_T := bz_in 1215 (by decide +kernel) rfl
theorem wd_1216 : (Jvm.Cond.fieldLink "UnitsWrongModel" (140 : Nat) "UnitsWrongModel" "coins" "[J") ∈ bz_T := bz_in 1216 (by decide +kernel) rfl
theorem wd_1217 : (Jvm.Cond.fieldLink "UnitsWrongModel" (145 : Nat) "UnitsWrongModel" "pieces" "[[J") ∈ bz_T := bz_in 1217 (by decide +kernel) rfl
theorem wd_1218 : (Jvm.Cond.fieldLink "UnitsWrongModel" (148 : Nat) "UnitsWrongModel" "unitPrice" "[[J") ∈ bz_T := bz_in 1218 (by decide +kernel) rfl
theorem wd_1219 : (Jvm.Cond.fieldLink "UnitsWrongModel" (151 : Nat) "UnitsWrongModel" "fees" "[[J") ∈ bz_T := bz_in 1219 (by decide +kernel) rfl
theorem wd_1220 : (Jvm.Cond.fieldLink "UnitsWrongModel" (154 : Nat) "UnitsWrongModel" "held" "[[J") ∈ bz_T := bz_in 1220 (by decide +kernel) rfl
theorem wd_1221 : (Jvm.Cond.fieldLink "UnitsWrongModel" (157 : Nat) "UnitsWrongModel" "all" "[J") ∈ bz_T := bz_in 1221 (by decide +kernel) rfl
theorem wd_1222 : (Jvm.Cond.fieldLink "UnitsWrongModel" (160 : Nat) "UnitsWrongModel" "bookedPrice" "[[J") ∈ bz_T := bz_in 1222 (by decide +kernel) rfl
theorem wd_1223 : (Jvm.Cond.fieldLink "UnitsWrongModel" (163 : Nat) "UnitsWrongModel" "bookedFee" "[[J") ∈ bz_T := bz_in 1223 (by decide +kernel) rfl
theorem wd_1224 : (Jvm.Cond.fieldLink "UnitsWrongModel" (166 : Nat) "UnitsWrongModel" "isTold" "[Z") ∈ bz_T := bz_in 1224 (by decide +kernel) rfl
theorem wd_1225 : (Jvm.Cond.fieldLink "UnitsWrongModel" (169 : Nat) "UnitsWrongModel" "had" "[J") ∈ bz_T := bz_in 1225 (by decide +kernel) rfl
theorem wd_1226 : (Jvm.Cond.fieldLink "UnitsWrongModel" (418 : Nat) "UnitsWrongModel" "kAsked" "I") ∈ bz_T := bz_in 1226 (by decide +kernel) rfl
theorem wd_1227 : (Jvm.Cond.fieldLink "UnitsWrongModel" (172 : Nat) "UnitsWrongModel" "lost" "[J") ∈ bz_T := bz_in 1227 (by decide +kernel) rfl
theorem wd_1228 : (Jvm.Cond.fieldLink "UnitsWrongModel" (175 : Nat) "UnitsWrongModel" "gained" "[J") ∈ bz_T := bz_in 1228 (by decide +kernel) rfl
theorem wd_1229 : (Jvm.Cond.fieldLink "UnitsWrongModel" (178 : Nat) "UnitsWrongModel" "claims" "[J") ∈ bz_T := bz_in 1229 (by decide +kernel) rfl
theorem wd_1230 : (Jvm.Cond.fieldLink "UnitsWrongModel" (181 : Nat) "UnitsWrongModel" "how" "[I") ∈ bz_T := bz_in 1230 (by decide +kernel) rfl
theorem wd_1231 : (Jvm.Cond.fieldLink "UnitsWrongModel" (184 : Nat) "UnitsWrongModel" "aFund" "[I") ∈ bz_T := bz_in 1231 (by decide +kernel) rfl
theorem wd_1232 : (Jvm.Cond.fieldLink "UnitsWrongModel" (187 : Nat) "UnitsWrongModel" "aDay" "[I") ∈ bz_T := bz_in 1232 (by decide +kernel) rfl
theorem wd_1233 : (Jvm.Cond.fieldLink "UnitsWrongModel" (190 : Nat) "UnitsWrongModel" "aPrice" "[I") ∈ bz_T := bz_in 1233 (by decide +kernel) rfl
theorem wd_1234 : (Jvm.Cond.fieldLink "UnitsWrongModel" (523 : Nat) "UnitsWrongModel" "audits" "I") ∈ bz_T := bz_in 1234 (by decide +kernel) rfl
theorem wd_1235 : (Jvm.Cond.fieldLink "UnitsWrongModel" (529 : Nat) "UnitsWrongModel" "bestHeap" "I") ∈ bz_T := bz_in 1235 (by decide +kernel) rfl
theorem wd_1236 : (Jvm.Cond.fieldLink "UnitsWrongModel" (532 : Nat) "UnitsWrongModel" "bestMany" "I") ∈ bz_T := bz_in 1236 (by decide +kernel) rfl
theorem wd_1237 : (Jvm.Cond.fieldLink "UnitsWrongModel" (193 : Nat) "UnitsWrongModel" "balance" "[J") ∈ bz_T := bz_in 1237 (by decide +kernel) rfl
theorem wd_1238 : (Jvm.Cond.fieldLink "UnitsWrongModel" (196 : Nat) "UnitsWrongModel" "side" "[I") ∈ bz_T := bz_in 1238 (by decide +kernel) rfl
theorem wd_1239 : (Jvm.Cond.fieldLink "UnitsWrongModel" (549 : Nat) "UnitsWrongModel" "sides" "I") ∈ bz_T := bz_in 1239 (by decide +kernel) rfl
theorem wd_1240 : (Jvm.Cond.fieldLink "UnitsWrongModel" (199 : Nat) "UnitsWrongModel" "best" "[I") ∈ bz_T := bz_in 1240 (by decide +kernel) rfl
theorem wd_1241 : (Jvm.Cond.fieldLink "UnitsWrongModel" (202 : Nat) "UnitsWrongModel" "sumOf" "[J") ∈ bz_T := bz_in 1241 (by decide +kernel) rfl
theorem wd_1242 : (Jvm.Cond.fieldLink "UnitsWrongModel" (205 : Nat) "UnitsWrongModel" "heaps" "[I") ∈ bz_T := bz_in 1242 (by decide +kernel) rfl
theorem wd_1243 : (Jvm.Cond.fieldLink "UnitsWrongModel" (558 : Nat) "UnitsWrongModel" "heapMany" "I") ∈ bz_T := bz_in 1243 (by decide +kernel) rfl
theorem wd_1407 : (Jvm.Cond.constantLong "UnitsWrongModel" (220 : Nat) (259 : Int64)) ∈ bz_T := bz_in 1407 (by decide +kernel) rfl
theorem wd_1408 : (Jvm.Cond.methodLink "UnitsWrongModel" (222 : Nat) ({ cls := "UnitsWrongModel", name := "in", desc := "(JJJ)Z" } : Jvm.MethodName)) ∈ bz_T := bz_in 1408 (by decide +kernel) rfl
theorem wd_1409 : (Jvm.Cond.static ({ cls := "UnitsWrongModel", name := "in", desc := "(JJJ)Z" } : Jvm.MethodName)) ∈ bz_T := bz_in 1409 (by decide +kernel) rfl
theorem wd_1410 : (Jvm.Cond.code ({ cls := "UnitsWrongModel", name := "in", desc := "(JJJ)Z" } : Jvm.MethodName) prog_14_method_2_code (6 : Nat) (Option.some Jvm.ClassFile.FieldType.boolean)) ∈ bz_T := bz_in 1410 (by decide +kernel) rfl
theorem wd_1415 : (Jvm.Cond.methodLink "UnitsWrongModel" (229 : Nat) ({ cls := "UnitsWrongModel", name := "isOpen", desc := "(I)Z" } : Jvm.MethodName)) ∈ bz_T := bz_in 1415 (by decide +kernel) rfl
theorem wd_1417 : (Jvm.Cond.instanceMethod ({ cls := "UnitsWrongModel", name := "isOpen", desc := "(I)Z" } : Jvm.MethodName)) ∈ bz_T := bz_in 1417 (by decide +kernel) rfl
theorem wd_1418 : (Jvm.Cond.code ({ cls := "UnitsWrongModel", name := "isOpen", desc := "(I)Z" } : Jvm.MethodName) prog_14_method_6_code (2 : Nat) (Option.some Jvm.ClassFile.FieldType.boolean)) ∈ bz_T := bz_in 1418 (by decide +kernel) rfl
theorem wd_1423 : (Jvm.Cond.methodLink "UnitsWrongModel" (258 : Nat) ({ cls := "UnitsWrongModel", name := "canTell", desc := "(IIII)Z" } : Jvm.MethodName)) ∈ bz_T := bz_in 1423 (by decide +kernel) rfl
theorem wd_1424 : (Jvm.Cond.static ({ cls := "UnitsWrongModel", name := "canTell", desc := "(IIII)Z" } : Jvm.MethodName)) ∈ bz_T := bz_in 1424 (by decide +kernel) rfl
theorem wd_1425 : (Jvm.Cond.code ({ cls := "UnitsWrongModel", name := "canTell", desc := "(IIII)Z" } : Jvm.MethodName) prog_14_method_10_code (4 : Nat) (Option.some Jvm.ClassFile.FieldType.boolean)) ∈ bz_T := bz_in 1425 (by decide +kernel) rfl
theorem wd_1426 : (Jvm.Cond.methodLink "UnitsWrongModel" (239 : Nat) ({ cls := "UnitsWrongModel", name := "isSubject", desc := "(II)Z" } : Jvm.MethodName)) ∈ bz_T := bz_in 1426 (by decide +kernel) rfl
theorem wd_1427 : (Jvm.Cond.static ({ cls := "UnitsWrongModel", name := "isSubject", desc := "(II)Z" } : Jvm.MethodName)) ∈ bz_T := bz_in 1427 (by decide +kernel) rfl
theorem wd_1428 : (Jvm.Cond.code ({ cls := "UnitsWrongModel", name := "isSubject", desc := "(II)Z" } : Jvm.MethodName) prog_14_method_9_code (2 : Nat) (Option.some Jvm.ClassFile.FieldType.boolean)) ∈ bz_T := bz_in 1428 (by decide +kernel) rfl
theorem wd_1429 : (Jvm.Cond.constantLong "UnitsWrongModel" (233 : Nat) (2 : Int64)) ∈ bz_T := bz_in 1429 (by decide +kernel) rfl
theorem wd_1430 : (Jvm.Cond.constantLong "UnitsWrongModel" (235 : Nat) (3 : Int64)) ∈ bz_T := bz_in 1430 (by decide +kernel) rfl
theorem wd_1431 : (Jvm.Cond.constantLong "UnitsWrongModel" (237 : Nat) (7 : Int64)) ∈ bz_T := bz_in 1431 (by decide +kernel) rfl
theorem wd_1432 : (Jvm.Cond.constantLong "UnitsWrongModel" (243 : Nat) (10000 : Int64)) ∈ bz_T := bz_in 1432 (by decide +kernel) rfl
theorem wd_1433 : (Jvm.Cond.constantLong "UnitsWrongModel" (245 : Nat) (9999 : Int64)) ∈ bz_T := bz_in 1433 (by decide +kernel) rfl
theorem wd_1434 : (Jvm.Cond.constantLong "UnitsWrongModel" (247 : Nat) (1000 : Int64)) ∈ bz_T := bz_in 1434 (by decide +kernel) rfl
theorem wd_1435 : (Jvm.Cond.constantLong "UnitsWrongModel" (249 : Nat) (100 : Int64)) ∈ bz_T := bz_in 1435 (by decide +kernel) rfl
theorem wd_1436 : (Jvm.Cond.methodLink "UnitsWrongModel" (262 : Nat) ({ cls := "UnitsWrongModel", name := "lays", desc := "(IIII)V" } : Jvm.MethodName)) ∈ bz_T := bz_in 1436 (by decide +kernel) rfl
theorem wd_1438 : (Jvm.Cond.instanceMethod ({ cls := "UnitsWrongModel", name := "lays", desc := "(IIII)V" } : Jvm.MethodName)) ∈ bz_T := bz_in 1438 (by decide +kernel) rfl
theorem wd_1439 : (Jvm.Cond.code ({ cls := "UnitsWrongModel", name := "lays", desc := "(IIII)V" } : Jvm.MethodName) prog_14_method_11_code (5 : Nat) (Option.none : Option Jvm.ClassFile.FieldType)) ∈ bz_T := bz_in 1439 (by decide +kernel) rfl
theorem wd_1440 : (Jvm.Cond.methodLink "UnitsWrongModel" (254 : Nat) ({ cls := "UnitsWrongModel", name := "known", desc := "()I" } : Jvm.MethodName)) ∈ bz_T := bz_in 1440 (by decide +kernel) rfl
theorem wd_1442 : (Jvm.Cond.instanceMethod ({ cls := "UnitsWrongModel", name := "known", desc := "()I" } : Jvm.MethodName)) ∈ bz_T := bz_in 1442 (by decide +kernel) rfl
theorem wd_1443 : (Jvm.Cond.code ({ cls := "UnitsWrongModel", name := "known", desc := "()I" } : Jvm.MethodName) prog_14_method_5_code (1 : Nat) (Option.some Jvm.ClassFile.FieldType.int)) ∈ bz_T := bz_in 1443 (by decide +kernel) rfl
theorem wd_1448 : (Jvm.Cond.constant "UnitsWrongModel" (266 : Nat) (-2147483648 : Int32)) ∈ bz_T := bz_in 1448 (by decide +kernel) rfl
theorem wd_1449 : (Jvm.Cond.methodLink "UnitsWrongModel" (267 : Nat) ({ cls := "UnitsWrongModel", name := "telling", desc := "(IIII)I" } : Jvm.MethodName)) ∈ bz_T := bz_in 1449 (by decide +kernel) rfl
theorem wd_1451 : (Jvm.Cond.instanceMethod ({ cls := "UnitsWrongModel", name := "telling", desc := "(IIII)I" } : Jvm.MethodName)) ∈ bz_T := bz_in 1451 (by decide +kernel) rfl
theorem wd_1452 : (Jvm.Cond.code ({ cls := "UnitsWrongModel", name := "telling", desc := "(IIII)I" } : Jvm.MethodName) prog_14_method_13_code (7 : Nat) (Option.some Jvm.ClassFile.FieldType.int)) ∈ bz_T := bz_in 1452 (by decide +kernel) rfl
theorem wd_1453 : (Jvm.Cond.methodLink "UnitsWrongModel" (271 : Nat) ({ cls := "UnitsWrongModel", name := "plain", desc := "(I)I" } : Jvm.MethodName)) ∈ bz_T := bz_in 1453 (by decide +kernel) rfl
theorem wd_1454 : (Jvm.Cond.static ({ cls := "UnitsWrongModel", name := "plain", desc := "(I)I" } : Jvm.MethodName)) ∈ bz_T := bz_in 1454 (by decide +kernel) rfl
theorem wd_1455 : (Jvm.Cond.code ({ cls := "UnitsWrongModel", name := "plain", desc := "(I)I" } : Jvm.MethodName) prog_14_method_14_code (1 : Nat) (Option.some Jvm.ClassFile.FieldType.int)) ∈ bz_T := bz_in 1455 (by decide +kernel) rfl
theorem wd_1468 : (Jvm.Cond.constantLong "UnitsWrongModel" (278 : Nat) (100000000 : Int64)) ∈ bz_T := bz_in 1468 (by decide +kernel) rfl
theorem wd_1473 : (Jvm.Cond.constantLong "UnitsWrongModel" (280 : Nat) (-11 : Int64)) ∈ bz_T := bz_in 1473 (by decide +kernel) rfl
theorem wd_1474 : (Jvm.Cond.constantLong "UnitsWrongModel" (282 : Nat) (12 : Int64)) ∈ bz_T := bz_in 1474 (by decide +kernel) rfl
theorem wd_1479 : (Jvm.Cond.methodLink "UnitsWrongModel" (287 : Nat) ({ cls := "UnitsWrongModel", name := "isFund", desc := "(I)Z" } : Jvm.MethodName)) ∈ bz_T := bz_in 1479 (by decide +kernel) rfl
theorem wd_1481 : (Jvm.Cond.instanceMethod ({ cls := "UnitsWrongModel", name := "isFund", desc := "(I)Z" } : Jvm.MethodName)) ∈ bz_T := bz_in 1481 (by decide +kernel) rfl
theorem wd_1482 : (Jvm.Cond.code ({ cls := "UnitsWrongModel", name := "isFund", desc := "(I)Z" } : Jvm.MethodName) prog_14_method_18_code (2 : Nat) (Option.some Jvm.ClassFile.FieldType.boolean)) ∈ bz_T := bz_in 1482 (by decide +kernel) rfl
theorem wd_1483 : (Jvm.Cond.constantLong "UnitsWrongModel" (290 : Nat) (-10000 : Int64)) ∈ bz_T := bz_in 1483 (by decide +kernel) rfl
theorem wd_1484 : (Jvm.Cond.constantLong "UnitsWrongModel" (292 : Nat) (-100000000 : Int64)) ∈ bz_T := bz_in 1484 (by decide +kernel) rfl
theorem wd_1489 : (Jvm.Cond.methodLink "UnitsWrongModel" (297 : Nat) ({ cls := "UnitsWrongModel", name := "placeOf", desc := "(I)I" } : Jvm.MethodName)) ∈ bz_T := bz_in 1489 (by decide +kernel) rfl
theorem wd_1491 : (Jvm.Cond.instanceMethod ({ cls := "UnitsWrongModel", name := "placeOf", desc := "(I)I" } : Jvm.MethodName)) ∈ bz_T := bz_in 1491 (by decide +kernel) rfl
theorem wd_1492 : (Jvm.Cond.code ({ cls := "UnitsWrongModel", name := "placeOf", desc := "(I)I" } : Jvm.MethodName) prog_14_method_21_code (2 : Nat) (Option.some Jvm.ClassFile.FieldType.int)) ∈ bz_T := bz_in 1492 (by decide +kernel) rfl
theorem wd_1493 : (Jvm.Cond.constantLong "UnitsWrongModel" (300 : Nat) (23 : Int64)) ∈ bz_T := bz_in 1493 (by decide +kernel) rfl
theorem wd_1494 : (Jvm.Cond.methodLink "UnitsWrongModel" (305 : Nat) ({ cls := "UnitsWrongModel", name := "ruleOf", desc := "(III)I" } : Jvm.MethodName)) ∈ bz_T := bz_in 1494 (by decide +kernel) rfl
theorem wd_1496 : (Jvm.Cond.instanceMethod ({ cls := "UnitsWrongModel", name := "ruleOf", desc := "(III)I" } : Jvm.MethodName)) ∈ bz_T := bz_in 1496 (by decide +kernel) rfl
theorem wd_1497 : (Jvm.Cond.code ({ cls := "UnitsWrongModel", name := "ruleOf", desc := "(III)I" } : Jvm.MethodName) prog_14_method_44_code (6 : Nat) (Option.some Jvm.ClassFile.FieldType.int)) ∈ bz_T := bz_in 1497 (by decide +kernel) rfl
theorem wd_1502 : (Jvm.Cond.methodLink "UnitsWrongModel" (312 : Nat) ({ cls := "UnitsWrongModel", name := "feeds", desc := "(I)V" } : Jvm.MethodName)) ∈ bz_T := bz_in 1502 (by decide +kernel) rfl
theorem wd_1504 : (Jvm.Cond.instanceMethod ({ cls := "UnitsWrongModel", name := "feeds", desc := "(I)V" } : Jvm.MethodName)) ∈ bz_T := bz_in 1504 (by decide +kernel) rfl
theorem wd_1505 : (Jvm.Cond.code ({ cls := "UnitsWrongModel", name := "feeds", desc := "(I)V" } : Jvm.MethodName) prog_14_method_24_code (3 : Nat) (Option.none : Option Jvm.ClassFile.FieldType)) ∈ bz_T := bz_in 1505 (by decide +kernel) rfl
theorem wd_1514 : (Jvm.Cond.methodLink "UnitsWrongModel" (410 : Nat) ({ cls := "UnitsWrongModel", name := "reads", desc := "()V" } : Jvm.MethodName)) ∈ bz_T := bz_in 1514 (by decide +kernel) rfl
theorem wd_1516 : (Jvm.Cond.instanceMethod ({ cls := "UnitsWrongModel", name := "reads", desc := "()V" } : Jvm.MethodName)) ∈ bz_T := bz_in 1516 (by decide +kernel) rfl
theorem wd_1517 : (Jvm.Cond.code ({ cls := "UnitsWrongModel", name := "reads", desc := "()V" } : Jvm.MethodName) prog_14_method_41_code (3 : Nat) (Option.none : Option Jvm.ClassFile.FieldType)) ∈ bz_T := bz_in 1517 (by decide +kernel) rfl
theorem wd_1518 : (Jvm.Cond.methodLink "UnitsWrongModel" (407 : Nat) ({ cls := "UnitsWrongModel", name := "line", desc := "()V" } : Jvm.MethodName)) ∈ bz_T := bz_in 1518 (by decide +kernel) rfl
theorem wd_1520 : (Jvm.Cond.instanceMethod ({ cls := "UnitsWrongModel", name := "line", desc := "()V" } : Jvm.MethodName)) ∈ bz_T := bz_in 1520 (by decide +kernel) rfl
theorem wd_1521 : (Jvm.Cond.code ({ cls := "UnitsWrongModel", name := "line", desc := "()V" } : Jvm.MethodName) prog_14_method_40_code (2 : Nat) (Option.none : Option Jvm.ClassFile.FieldType)) ∈ bz_T := bz_in 1521 (by decide +kernel) rfl
theorem wd_1522 : (Jvm.Cond.methodLink "UnitsWrongModel" (338 : Nat) ({ cls := "UnitsWrongModel", name := "skips", desc := "()V" } : Jvm.MethodName)) ∈ bz_T := bz_in 1522 (by decide +kernel) rfl
theorem wd_1524 : (Jvm.Cond.instanceMethod ({ cls := "UnitsWrongModel", name := "skips", desc := "()V" } : Jvm.MethodName)) ∈ bz_T := bz_in 1524 (by decide +kernel) rfl
theorem wd_1525 : (Jvm.Cond.code ({ cls := "UnitsWrongModel", name := "skips", desc := "()V" } : Jvm.MethodName) prog_14_method_28_code (1 : Nat) (Option.none : Option Jvm.ClassFile.FieldType)) ∈ bz_T := bz_in 1525 (by decide +kernel) rfl
theorem wd_1526 : (Jvm.Cond.methodLink "UnitsWrongModel" (357 : Nat) ({ cls := "UnitsWrongModel", name := "takes", desc := "(Ljava/lang/String;)Z" } : Jvm.MethodName)) ∈ bz_T := bz_in 1526 (by decide +kernel) rfl
theorem wd_1528 : (Jvm.Cond.instanceMethod ({ cls := "UnitsWrongModel", name := "takes", desc := "(Ljava/lang/String;)Z" } : Jvm.MethodName)) ∈ bz_T := bz_in 1528 (by decide +kernel) rfl
theorem wd_1529 : (Jvm.Cond.code ({ cls := "UnitsWrongModel", name := "takes", desc := "(Ljava/lang/String;)Z" } : Jvm.MethodName) prog_14_method_37_code (2 : Nat) (Option.some Jvm.ClassFile.FieldType.boolean)) ∈ bz_T := bz_in 1529 (by decide +kernel) rfl
theorem wd_1530 : (Jvm.Cond.methodLink "UnitsWrongModel" (341 : Nat) ({ cls := "UnitsWrongModel", name := "isWord", desc := "(Ljava/lang/String;)Z" } : Jvm.MethodName)) ∈ bz_T := bz_in 1530 (by decide +kernel) rfl
theorem wd_1532 : (Jvm.Cond.instanceMethod ({ cls := "UnitsWrongModel", name := "isWord", desc := "(Ljava/lang/String;)Z" } : Jvm.MethodName)) ∈ bz_T := bz_in 1532 (by decide +kernel) rfl
theorem wd_1533 : (Jvm.Cond.code ({ cls := "UnitsWrongModel", name := "isWord", desc := "(Ljava/lang/String;)Z" } : Jvm.MethodName) prog_14_method_32_code (3 : Nat) (Option.some Jvm.ClassFile.FieldType.boolean)) ∈ bz_T := bz_in 1533 (by decide +kernel) rfl
theorem wd_1534 : (Jvm.Cond.methodLink "UnitsWrongModel" (328 : Nat) ({ cls := "UnitsWrongModel", name := "wordEnd", desc := "()I" } : Jvm.MethodName)) ∈ bz_T := bz_in 1534 (by decide +kernel) rfl
theorem wd_1536 : (Jvm.Cond.instanceMethod ({ cls := "UnitsWrongModel", name := "wordEnd", desc := "()I" } : Jvm.MethodName)) ∈ bz_T := bz_in 1536 (by decide +kernel) rfl
theorem wd_1537 : (Jvm.Cond.code ({ cls := "UnitsWrongModel", name := "wordEnd", desc := "()I" } : Jvm.MethodName) prog_14_method_31_code (2 : Nat) (Option.some Jvm.ClassFile.FieldType.int)) ∈ bz_T := bz_in 1537 (by decide +kernel) rfl
theorem wd_1538 : (Jvm.Cond.methodLink "UnitsWrongModel" (325 : Nat) ({ cls := "UnitsWrongModel", name := "isLetter", desc := "(I)Z" } : Jvm.MethodName)) ∈ bz_T := bz_in 1538 (by decide +kernel) rfl
theorem wd_1539 : (Jvm.Cond.static ({ cls := "UnitsWrongModel", name := "isLetter", desc := "(I)Z" } : Jvm.MethodName)) ∈ bz_T := bz_in 1539 (by decide +kernel) rfl
theorem wd_1540 : (Jvm.Cond.code ({ cls := "UnitsWrongModel", name := "isLetter", desc := "(I)Z" } : Jvm.MethodName) prog_14_method_29_code (1 : Nat) (Option.some Jvm.ClassFile.FieldType.boolean)) ∈ bz_T := bz_in 1540 (by decide +kernel) rfl
theorem wd_1541 : (Jvm.Cond.methodLink "UnitsWrongModel" (331 : Nat) ({ cls := "java/lang/String", name := "length", desc := "()I" } : Jvm.MethodName)) ∈ bz_T := bz_in 1541 (by decide +kernel) rfl
theorem wd_1542 : (Jvm.Cond.methodLink "UnitsWrongModel" (334 : Nat) ({ cls := "java/lang/String", name := "charAt", desc := "(I)C" } : Jvm.MethodName)) ∈ bz_T := bz_in 1542 (by decide +kernel) rfl
theorem wd_1543 : (Jvm.Cond.methodLink "UnitsWrongModel" (360 : Nat) ({ cls := "UnitsWrongModel", name := "number", desc := "(I)I" } : Jvm.MethodName)) ∈ bz_T := bz_in 1543 (by decide +kernel) rfl
theorem wd_1545 : (Jvm.Cond.instanceMethod ({ cls := "UnitsWrongModel", name := "number", desc := "(I)I" } : Jvm.MethodName)) ∈ bz_T := bz_in 1545 (by decide +kernel) rfl
theorem wd_1546 : (Jvm.Cond.code ({ cls := "UnitsWrongModel", name := "number", desc := "(I)I" } : Jvm.MethodName) prog_14_method_34_code (5 : Nat) (Option.some Jvm.ClassFile.FieldType.int)) ∈ bz_T := bz_in 1546 (by decide +kernel) rfl
theorem wd_1547 : (Jvm.Cond.methodLink "UnitsWrongModel" (348 : Nat) ({ cls := "UnitsWrongModel", name := "isDigit", desc := "(I)Z" } : Jvm.MethodName)) ∈ bz_T := bz_in 1547 (by decide +kernel) rfl
theorem wd_1548 : (Jvm.Cond.static ({ cls := "UnitsWrongModel", name := "isDigit", desc := "(I)Z" } : Jvm.MethodName)) ∈ bz_T := bz_in 1548 (by decide +kernel) rfl
theorem wd_1549 : (Jvm.Cond.code ({ cls := "UnitsWrongModel", name := "isDigit", desc := "(I)Z" } : Jvm.MethodName) prog_14_method_30_code (1 : Nat) (Option.some Jvm.ClassFile.FieldType.boolean)) ∈ bz_T := bz_in 1549 (by decide +kernel) rfl
theorem wd_1550 : (Jvm.Cond.constantLong "UnitsWrongModel" (351 : Nat) (10 : Int64)) ∈ bz_T := bz_in 1550 (by decide +kernel) rfl
theorem wd_1551 : (Jvm.Cond.constantLong "UnitsWrongModel" (353 : Nat) (48 : Int64)) ∈ bz_T := bz_in 1551 (by decide +kernel) rfl
theorem wd_1552 : (Jvm.Cond.constantLong "UnitsWrongModel" (210 : Nat) (2000000000 : Int64)) ∈ bz_T := bz_in 1552 (by decide +kernel) rfl
theorem wd_1553 : (Jvm.Cond.methodLink "UnitsWrongModel" (212 : Nat) ({ cls := "UnitsWrongModel", name := "near", desc := "(JJJ)J" } : Jvm.MethodName)) ∈ bz_T := bz_in 1553 (by decide +kernel) rfl
theorem wd_1554 : (Jvm.Cond.static ({ cls := "UnitsWrongModel", name := "near", desc := "(JJJ)J" } : Jvm.MethodName)) ∈ bz_T := bz_in 1554 (by decide +kernel) rfl
theorem wd_1555 : (Jvm.Cond.code ({ cls := "UnitsWrongModel", name := "near", desc := "(JJJ)J" } : Jvm.MethodName) prog_14_method_3_code (6 : Nat) (Option.some Jvm.ClassFile.FieldType.long)) ∈ bz_T := bz_in 1555 (by decide +kernel) rfl
theorem wd_1556 : (Jvm.Cond.methodLink "UnitsWrongModel" (345 : Nat) ({ cls := "UnitsWrongModel", name := "fails", desc := "()V" } : Jvm.MethodName)) ∈ bz_T := bz_in 1556 (by decide +kernel) rfl
theorem wd_1558 : (Jvm.Cond.instanceMethod ({ cls := "UnitsWrongModel", name := "fails", desc := "()V" } : Jvm.MethodName)) ∈ bz_T := bz_in 1558 (by decide +kernel) rfl
theorem wd_1559 : (Jvm.Cond.code ({ cls := "UnitsWrongModel", name := "fails", desc := "()V" } : Jvm.MethodName) prog_14_method_27_code (1 : Nat) (Option.none : Option Jvm.ClassFile.FieldType)) ∈ bz_T := bz_in 1559 (by decide +kernel) rfl
theorem wd_1560 : (Jvm.Cond.methodLink "UnitsWrongModel" (404 : Nat) ({ cls := "UnitsWrongModel", name := "rule", desc := "(I)V" } : Jvm.MethodName)) ∈ bz_T := bz_in 1560 (by decide +kernel) rfl
theorem wd_1562 : (Jvm.Cond.instanceMethod ({ cls := "UnitsWrongModel", name := "rule", desc := "(I)V" } : Jvm.MethodName)) ∈ bz_T := bz_in 1562 (by decide +kernel) rfl
theorem wd_1563 : (Jvm.Cond.code ({ cls := "UnitsWrongModel", name := "rule", desc := "(I)V" } : Jvm.MethodName) prog_14_method_38_code (2 : Nat) (Option.none : Option Jvm.ClassFile.FieldType)) ∈ bz_T := bz_in 1563 (by decide +kernel) rfl
theorem wd_1565 : (Jvm.Cond.methodLink "UnitsWrongModel" (362 : Nat) ({ cls := "UnitsWrongModel", name := "sets", desc := "(III)V" } : Jvm.MethodName)) ∈ bz_T := bz_in 1565 (by decide +kernel) rfl
theorem wd_1567 : (Jvm.Cond.instanceMethod ({ cls := "UnitsWrongModel", name := "sets", desc := "(III)V" } : Jvm.MethodName)) ∈ bz_T := bz_in 1567 (by decide +kernel) rfl
theorem wd_1568 : (Jvm.Cond.code ({ cls := "UnitsWrongModel", name := "sets", desc := "(III)V" } : Jvm.MethodName) prog_14_method_36_code (4 : Nat) (Option.none : Option Jvm.ClassFile.FieldType)) ∈ bz_T := bz_in 1568 (by decide +kernel) rfl
theorem wd_1571 : (Jvm.Cond.methodLink "UnitsWrongModel" (370 : Nat) ({ cls := "UnitsWrongModel", name := "word", desc := "(Ljava/lang/String;)V" } : Jvm.MethodName)) ∈ bz_T := bz_in 1571 (by decide +kernel) rfl
theorem wd_1573 : (Jvm.Cond.instanceMethod ({ cls := "UnitsWrongModel", name := "word", desc := "(Ljava/lang/String;)V" } : Jvm.MethodName)) ∈ bz_T := bz_in 1573 (by decide +kernel) rfl
theorem wd_1574 : (Jvm.Cond.code ({ cls := "UnitsWrongModel", name := "word", desc := "(Ljava/lang/String;)V" } : Jvm.MethodName) prog_14_method_33_code (2 : Nat) (Option.none : Option Jvm.ClassFile.FieldType)) ∈ bz_T := bz_in 1574 (by decide +kernel) rfl
theorem wd_1579 : (Jvm.Cond.constant "UnitsWrongModel" (382 : Nat) (100000 : Int32)) ∈ bz_T := bz_in 1579 (by decide +kernel) rfl
theorem wd_1581 : (Jvm.Cond.methodLink "UnitsWrongModel" (385 : Nat) ({ cls := "UnitsWrongModel", name := "party", desc := "()I" } : Jvm.MethodName)) ∈ bz_T := bz_in 1581 (by decide +kernel) rfl
theorem wd_1583 : (Jvm.Cond.instanceMethod ({ cls := "UnitsWrongModel", name := "party", desc := "()I" } : Jvm.MethodName)) ∈ bz_T := bz_in 1583 (by decide +kernel) rfl
theorem wd_1584 : (Jvm.Cond.code ({ cls := "UnitsWrongModel", name := "party", desc := "()I" } : Jvm.MethodName) prog_14_method_35_code (2 : Nat) (Option.some Jvm.ClassFile.FieldType.int)) ∈ bz_T := bz_in 1584 (by decide +kernel) rfl
theorem wd_1586 : (Jvm.Cond.methodLink "UnitsWrongModel" (390 : Nat) ({ cls := "UnitsWrongModel", name := "gains", desc := "(I)V" } : Jvm.MethodName)) ∈ bz_T := bz_in 1586 (by decide +kernel) rfl
theorem wd_1588 : (Jvm.Cond.instanceMethod ({ cls := "UnitsWrongModel", name := "gains", desc := "(I)V" } : Jvm.MethodName)) ∈ bz_T := bz_in 1588 (by decide +kernel) rfl
theorem wd_1589 : (Jvm.Cond.code ({ cls := "UnitsWrongModel", name := "gains", desc := "(I)V" } : Jvm.MethodName) prog_14_method_39_code (2 : Nat) (Option.none : Option Jvm.ClassFile.FieldType)) ∈ bz_T := bz_in 1589 (by decide +kernel) rfl
theorem wd_1604 : (Jvm.Cond.constantLong "UnitsWrongModel" (416 : Nat) (11 : Int64)) ∈ bz_T := bz_in 1604 (by decide +kernel) rfl
theorem wd_1609 : (Jvm.Cond.constantLong "UnitsWrongModel" (474 : Nat) (40 : Int64)) ∈ bz_T := bz_in 1609 (by decide +kernel) rfl
theorem wd_1610 : (Jvm.Cond.methodLink "UnitsWrongModel" (476 : Nat) ({ cls := "UnitsWrongModel", name := "books", desc := "()V" } : Jvm.MethodName)) ∈ bz_T := bz_in 1610 (by decide +kernel) rfl
theorem wd_1612 : (Jvm.Cond.instanceMethod ({ cls := "UnitsWrongModel", name := "books", desc := "()V" } : Jvm.MethodName)) ∈ bz_T := bz_in 1612 (by decide +kernel) rfl
theorem wd_1613 : (Jvm.Cond.code ({ cls := "UnitsWrongModel", name := "books", desc := "()V" } : Jvm.MethodName) prog_14_method_59_code (2 : Nat) (Option.none : Option Jvm.ClassFile.FieldType)) ∈ bz_T := bz_in 1613 (by decide +kernel) rfl
theorem wd_1614 : (Jvm.Cond.methodLink "UnitsWrongModel" (471 : Nat) ({ cls := "UnitsWrongModel", name := "through", desc := "(III)V" } : Jvm.MethodName)) ∈ bz_T := bz_in 1614 (by decide +kernel) rfl
theorem wd_1616 : (Jvm.Cond.instanceMethod ({ cls := "UnitsWrongModel", name := "through", desc := "(III)V" } : Jvm.MethodName)) ∈ bz_T := bz_in 1616 (by decide +kernel) rfl
theorem wd_1617 : (Jvm.Cond.code ({ cls := "UnitsWrongModel", name := "through", desc := "(III)V" } : Jvm.MethodName) prog_14_method_58_code (5 : Nat) (Option.none : Option Jvm.ClassFile.FieldType)) ∈ bz_T := bz_in 1617 (by decide +kernel) rfl
theorem wd_1618 : (Jvm.Cond.methodLink "UnitsWrongModel" (462 : Nat) ({ cls := "UnitsWrongModel", name := "knows", desc := "(I)V" } : Jvm.MethodName)) ∈ bz_T := bz_in 1618 (by decide +kernel) rfl
theorem wd_1620 : (Jvm.Cond.instanceMethod ({ cls := "UnitsWrongModel", name := "knows", desc := "(I)V" } : Jvm.MethodName)) ∈ bz_T := bz_in 1620 (by decide +kernel) rfl
theorem wd_1621 : (Jvm.Cond.code ({ cls := "UnitsWrongModel", name := "knows", desc := "(I)V" } : Jvm.MethodName) prog_14_method_47_code (3 : Nat) (Option.none : Option Jvm.ClassFile.FieldType)) ∈ bz_T := bz_in 1621 (by decide +kernel) rfl
theorem wd_1622 : (Jvm.Cond.methodLink "UnitsWrongModel" (421 : Nat) ({ cls := "UnitsWrongModel", name := "carries", desc := "(II[I)V" } : Jvm.MethodName)) ∈ bz_T := bz_in 1622 (by decide +kernel) rfl
theorem wd_1624 : (Jvm.Cond.instanceMethod ({ cls := "UnitsWrongModel", name := "carries", desc := "(II[I)V" } : Jvm.MethodName)) ∈ bz_T := bz_in 1624 (by decide +kernel) rfl
theorem wd_1625 : (Jvm.Cond.code ({ cls := "UnitsWrongModel", name := "carries", desc := "(II[I)V" } : Jvm.MethodName) prog_14_method_46_code (6 : Nat) (Option.none : Option Jvm.ClassFile.FieldType)) ∈ bz_T := bz_in 1625 (by decide +kernel) rfl
theorem wd_1626 : (Jvm.Cond.methodLink "UnitsWrongModel" (465 : Nat) ({ cls := "UnitsWrongModel", name := "begins", desc := "()V" } : Jvm.MethodName)) ∈ bz_T := bz_in 1626 (by decide +kernel) rfl
theorem wd_1628 : (Jvm.Cond.instanceMethod ({ cls := "UnitsWrongModel", name := "begins", desc := "()V" } : Jvm.MethodName)) ∈ bz_T := bz_in 1628 (by decide +kernel) rfl
theorem wd_1629 : (Jvm.Cond.code ({ cls := "UnitsWrongModel", name := "begins", desc := "()V" } : Jvm.MethodName) prog_14_method_48_code (3 : Nat) (Option.none : Option Jvm.ClassFile.FieldType)) ∈ bz_T := bz_in 1629 (by decide +kernel) rfl
theorem wd_1630 : (Jvm.Cond.methodLink "UnitsWrongModel" (468 : Nat) ({ cls := "UnitsWrongModel", name := "goesThrough", desc := "(III)V" } : Jvm.MethodName)) ∈ bz_T := bz_in 1630 (by decide +kernel) rfl
theorem wd_1632 : (Jvm.Cond.instanceMethod ({ cls := "UnitsWrongModel", name := "goesThrough", desc := "(III)V" } : Jvm.MethodName)) ∈ bz_T := bz_in 1632 (by decide +kernel) rfl
theorem wd_1633 : (Jvm.Cond.code ({ cls := "UnitsWrongModel", name := "goesThrough", desc := "(III)V" } : Jvm.MethodName) prog_14_method_57_code (7 : Nat) (Option.none : Option Jvm.ClassFile.FieldType)) ∈ bz_T := bz_in 1633 (by decide +kernel) rfl
theorem wd_1634 : (Jvm.Cond.methodLink "UnitsWrongModel" (449 : Nat) ({ cls := "UnitsWrongModel", name := "papers", desc := "(II)V" } : Jvm.MethodName)) ∈ bz_T := bz_in 1634 (by decide +kernel) rfl
theorem wd_1636 : (Jvm.Cond.instanceMethod ({ cls := "UnitsWrongModel", name := "papers", desc := "(II)V" } : Jvm.MethodName)) ∈ bz_T := bz_in 1636 (by decide +kernel) rfl
theorem wd_1637 : (Jvm.Cond.code ({ cls := "UnitsWrongModel", name := "papers", desc := "(II)V" } : Jvm.MethodName) prog_14_method_49_code (4 : Nat) (Option.none : Option Jvm.ClassFile.FieldType)) ∈ bz_T := bz_in 1637 (by decide +kernel) rfl
theorem wd_1638 : (Jvm.Cond.constantLong "UnitsWrongModel" (425 : Nat) (-1000000 : Int64)) ∈ bz_T := bz_in 1638 (by decide +kernel) rfl
theorem wd_1639 : (Jvm.Cond.constantLong "UnitsWrongModel" (427 : Nat) (1000000 : Int64)) ∈ bz_T := bz_in 1639 (by decide +kernel) rfl
theorem wd_1640 : (Jvm.Cond.methodLink "UnitsWrongModel" (453 : Nat) ({ cls := "UnitsWrongModel", name := "feeds", desc := "(II)V" } : Jvm.MethodName)) ∈ bz_T := bz_in 1640 (by decide +kernel) rfl
theorem wd_1642 : (Jvm.Cond.instanceMethod ({ cls := "UnitsWrongModel", name := "feeds", desc := "(II)V" } : Jvm.MethodName)) ∈ bz_T := bz_in 1642 (by decide +kernel) rfl
theorem wd_1643 : (Jvm.Cond.code ({ cls := "UnitsWrongModel", name := "feeds", desc := "(II)V" } : Jvm.MethodName) prog_14_method_50_code (4 : Nat) (Option.none : Option Jvm.ClassFile.FieldType)) ∈ bz_T := bz_in 1643 (by decide +kernel) rfl
theorem wd_1644 : (Jvm.Cond.methodLink "UnitsWrongModel" (455 : Nat) ({ cls := "UnitsWrongModel", name := "prices", desc := "(IIZ)V" } : Jvm.MethodName)) ∈ bz_T := bz_in 1644 (by decide +kernel) rfl
theorem wd_1646 : (Jvm.Cond.instanceMethod ({ cls := "UnitsWrongModel", name := "prices", desc := "(IIZ)V" } : Jvm.MethodName)) ∈ bz_T := bz_in 1646 (by decide +kernel) rfl
theorem wd_1647 : (Jvm.Cond.code ({ cls := "UnitsWrongModel", name := "prices", desc := "(IIZ)V" } : Jvm.MethodName) prog_14_method_55_code (10 : Nat) (Option.none : Option Jvm.ClassFile.FieldType)) ∈ bz_T := bz_in 1647 (by decide +kernel) rfl
theorem wd_1648 : (Jvm.Cond.methodLink "UnitsWrongModel" (435 : Nat) ({ cls := "UnitsWrongModel", name := "assets", desc := "(II)J" } : Jvm.MethodName)) ∈ bz_T := bz_in 1648 (by decide +kernel) rfl
theorem wd_1650 : (Jvm.Cond.instanceMethod ({ cls := "UnitsWrongModel", name := "assets", desc := "(II)J" } : Jvm.MethodName)) ∈ bz_T := bz_in 1650 (by decide +kernel) rfl
theorem wd_1651 : (Jvm.Cond.code ({ cls := "UnitsWrongModel", name := "assets", desc := "(II)J" } : Jvm.MethodName) prog_14_method_51_code (6 : Nat) (Option.some Jvm.ClassFile.FieldType.long)) ∈ bz_T := bz_in 1651 (by decide +kernel) rfl
theorem wd_1652 : (Jvm.Cond.constantLong "UnitsWrongModel" (433 : Nat) (10000000 : Int64)) ∈ bz_T := bz_in 1652 (by decide +kernel) rfl
theorem wd_1653 : (Jvm.Cond.methodLink "UnitsWrongModel" (439 : Nat) ({ cls := "UnitsWrongModel", name := "flow", desc := "(IIZ)J" } : Jvm.MethodName)) ∈ bz_T := bz_in 1653 (by decide +kernel) rfl
theorem wd_1655 : (Jvm.Cond.instanceMethod ({ cls := "UnitsWrongModel", name := "flow", desc := "(IIZ)J" } : Jvm.MethodName)) ∈ bz_T := bz_in 1655 (by decide +kernel) rfl
theorem wd_1656 : (Jvm.Cond.code ({ cls := "UnitsWrongModel", name := "flow", desc := "(IIZ)J" } : Jvm.MethodName) prog_14_method_53_code (9 : Nat) (Option.some Jvm.ClassFile.FieldType.long)) ∈ bz_T := bz_in 1656 (by decide +kernel) rfl
theorem wd_1657 : (Jvm.Cond.methodLink "UnitsWrongModel" (429 : Nat) ({ cls := "UnitsWrongModel", name := "dealtOf", desc := "(IZJ)J" } : Jvm.MethodName)) ∈ bz_T := bz_in 1657 (by decide +kernel) rfl
theorem wd_1659 : (Jvm.Cond.instanceMethod ({ cls := "UnitsWrongModel", name := "dealtOf", desc := "(IZJ)J" } : Jvm.MethodName)) ∈ bz_T := bz_in 1659 (by decide +kernel) rfl
theorem wd_1660 : (Jvm.Cond.code ({ cls := "UnitsWrongModel", name := "dealtOf", desc := "(IZJ)J" } : Jvm.MethodName) prog_14_method_52_code (5 : Nat) (Option.some Jvm.ClassFile.FieldType.long)) ∈ bz_T := bz_in 1660 (by decide +kernel) rfl
theorem wd_1661 : (Jvm.Cond.methodLink "UnitsWrongModel" (443 : Nat) ({ cls := "UnitsWrongModel", name := "swung", desc := "(IIJJ)J" } : Jvm.MethodName)) ∈ bz_T := bz_in 1661 (by decide +kernel) rfl
theorem wd_1663 : (Jvm.Cond.instanceMethod ({ cls := "UnitsWrongModel", name := "swung", desc := "(IIJJ)J" } : Jvm.MethodName)) ∈ bz_T := bz_in 1663 (by decide +kernel) rfl
theorem wd_1664 : (Jvm.Cond.code ({ cls := "UnitsWrongModel", name := "swung", desc := "(IIJJ)J" } : Jvm.MethodName) prog_14_method_54_code (11 : Nat) (Option.some Jvm.ClassFile.FieldType.long)) ∈ bz_T := bz_in 1664 (by decide +kernel) rfl
theorem wd_1665 : (Jvm.Cond.methodLink "UnitsWrongModel" (459 : Nat) ({ cls := "UnitsWrongModel", name := "deals", desc := "(IIZZ)V" } : Jvm.MethodName)) ∈ bz_T := bz_in 1665 (by decide +kernel) rfl
theorem wd_1667 : (Jvm.Cond.instanceMethod ({ cls := "UnitsWrongModel", name := "deals", desc := "(IIZZ)V" } : Jvm.MethodName)) ∈ bz_T := bz_in 1667 (by decide +kernel) rfl
theorem wd_1668 : (Jvm.Cond.code ({ cls := "UnitsWrongModel", name := "deals", desc := "(IIZZ)V" } : Jvm.MethodName) prog_14_method_56_code (8 : Nat) (Option.none : Option Jvm.ClassFile.FieldType)) ∈ bz_T := bz_in 1668 (by decide +kernel) rfl
theorem wd_1669 : (Jvm.Cond.constantLong "UnitsWrongModel" (447 : Nat) (99 : Int64)) ∈ bz_T := bz_in 1669 (by decide +kernel) rfl
theorem wd_1674 : (Jvm.Cond.methodLink "UnitsWrongModel" (479 : Nat) ({ cls := "UnitsWrongModel", name := "isOver", desc := "(II)Z" } : Jvm.MethodName)) ∈ bz_T := bz_in 1674 (by decide +kernel) rfl
theorem wd_1676 : (Jvm.Cond.instanceMethod ({ cls := "UnitsWrongModel", name := "isOver", desc := "(II)Z" } : Jvm.MethodName)) ∈ bz_T := bz_in 1676 (by decide +kernel) rfl
theorem wd_1677 : (Jvm.Cond.code ({ cls := "UnitsWrongModel", name := "isOver", desc := "(II)Z" } : Jvm.MethodName) prog_14_method_61_code (3 : Nat) (Option.some Jvm.ClassFile.FieldType.boolean)) ∈ bz_T := bz_in 1677 (by decide +kernel) rfl
theorem wd_1678 : (Jvm.Cond.methodLink "UnitsWrongModel" (482 : Nat) ({ cls := "UnitsWrongModel", name := "told", desc := "(J)I" } : Jvm.MethodName)) ∈ bz_T := bz_in 1678 (by decide +kernel) rfl
theorem wd_1679 : (Jvm.Cond.static ({ cls := "UnitsWrongModel", name := "told", desc := "(J)I" } : Jvm.MethodName)) ∈ bz_T := bz_in 1679 (by decide +kernel) rfl
theorem wd_1680 : (Jvm.Cond.code ({ cls := "UnitsWrongModel", name := "told", desc := "(J)I" } : Jvm.MethodName) prog_14_method_4_code (2 : Nat) (Option.some Jvm.ClassFile.FieldType.int)) ∈ bz_T := bz_in 1680 (by decide +kernel) rfl
theorem wd_1681 : (Jvm.Cond.constantLong "UnitsWrongModel" (208 : Nat) (-2000000000 : Int64)) ∈ bz_T := bz_in 1681 (by decide +kernel) rfl
theorem wd_1698 : (Jvm.Cond.methodLink "UnitsWrongModel" (486 : Nat) ({ cls := "UnitsWrongModel", name := "lastOver", desc := "(I)I" } : Jvm.MethodName)) ∈ bz_T := bz_in 1698 (by decide +kernel) rfl
theorem wd_1700 : (Jvm.Cond.instanceMethod ({ cls := "UnitsWrongModel", name := "lastOver", desc := "(I)I" } : Jvm.MethodName)) ∈ bz_T := bz_in 1700 (by decide +kernel) rfl
theorem wd_1701 : (Jvm.Cond.code ({ cls := "UnitsWrongModel", name := "lastOver", desc := "(I)I" } : Jvm.MethodName) prog_14_method_67_code (2 : Nat) (Option.some Jvm.ClassFile.FieldType.int)) ∈ bz_T := bz_in 1701 (by decide +kernel) rfl
theorem wd_1702 : (Jvm.Cond.methodLink "UnitsWrongModel" (489 : Nat) ({ cls := "UnitsWrongModel", name := "counts", desc := "(III)Z" } : Jvm.MethodName)) ∈ bz_T := bz_in 1702 (by decide +kernel) rfl
theorem wd_1704 : (Jvm.Cond.instanceMethod ({ cls := "UnitsWrongModel", name := "counts", desc := "(III)Z" } : Jvm.MethodName)) ∈ bz_T := bz_in 1704 (by decide +kernel) rfl
theorem wd_1705 : (Jvm.Cond.code ({ cls := "UnitsWrongModel", name := "counts", desc := "(III)Z" } : Jvm.MethodName) prog_14_method_66_code (6 : Nat) (Option.some Jvm.ClassFile.FieldType.boolean)) ∈ bz_T := bz_in 1705 (by decide +kernel) rfl
theorem wd_1710 : (Jvm.Cond.methodLink "UnitsWrongModel" (493 : Nat) ({ cls := "UnitsWrongModel", name := "canHold", desc := "(II)Z" } : Jvm.MethodName)) ∈ bz_T := bz_in 1710 (by decide +kernel) rfl
theorem wd_1712 : (Jvm.Cond.instanceMethod ({ cls := "UnitsWrongModel", name := "canHold", desc := "(II)Z" } : Jvm.MethodName)) ∈ bz_T := bz_in 1712 (by decide +kernel) rfl
theorem wd_1713 : (Jvm.Cond.code ({ cls := "UnitsWrongModel", name := "canHold", desc := "(II)Z" } : Jvm.MethodName) prog_14_method_69_code (3 : Nat) (Option.some Jvm.ClassFile.FieldType.boolean)) ∈ bz_T := bz_in 1713 (by decide +kernel) rfl
theorem wd_1718 : (Jvm.Cond.methodLink "UnitsWrongModel" (508 : Nat) ({ cls := "UnitsWrongModel", name := "isKnownDay", desc := "(I)Z" } : Jvm.MethodName)) ∈ bz_T := bz_in 1718 (by decide +kernel) rfl
theorem wd_1720 : (Jvm.Cond.instanceMethod ({ cls := "UnitsWrongModel", name := "isKnownDay", desc := "(I)Z" } : Jvm.MethodName)) ∈ bz_T := bz_in 1720 (by decide +kernel) rfl
theorem wd_1721 : (Jvm.Cond.code ({ cls := "UnitsWrongModel", name := "isKnownDay", desc := "(I)Z" } : Jvm.MethodName) prog_14_method_76_code (2 : Nat) (Option.some Jvm.ClassFile.FieldType.boolean)) ∈ bz_T := bz_in 1721 (by decide +kernel) rfl
theorem wd_1722 : (Jvm.Cond.methodLink "UnitsWrongModel" (511 : Nat) ({ cls := "UnitsWrongModel", name := "asks", desc := "(II)V" } : Jvm.MethodName)) ∈ bz_T := bz_in 1722 (by decide +kernel) rfl
theorem wd_1724 : (Jvm.Cond.instanceMethod ({ cls := "UnitsWrongModel", name := "asks", desc := "(II)V" } : Jvm.MethodName)) ∈ bz_T := bz_in 1724 (by decide +kernel) rfl
theorem wd_1725 : (Jvm.Cond.code ({ cls := "UnitsWrongModel", name := "asks", desc := "(II)V" } : Jvm.MethodName) prog_14_method_75_code (3 : Nat) (Option.none : Option Jvm.ClassFile.FieldType)) ∈ bz_T := bz_in 1725 (by decide +kernel) rfl
theorem wd_1726 : (Jvm.Cond.methodLink "UnitsWrongModel" (505 : Nat) ({ cls := "UnitsWrongModel", name := "asks", desc := "(III)V" } : Jvm.MethodName)) ∈ bz_T := bz_in 1726 (by decide +kernel) rfl
theorem wd_1728 : (Jvm.Cond.instanceMethod ({ cls := "UnitsWrongModel", name := "asks", desc := "(III)V" } : Jvm.MethodName)) ∈ bz_T := bz_in 1728 (by decide +kernel) rfl
theorem wd_1729 : (Jvm.Cond.code ({ cls := "UnitsWrongModel", name := "asks", desc := "(III)V" } : Jvm.MethodName) prog_14_method_74_code (5 : Nat) (Option.none : Option Jvm.ClassFile.FieldType)) ∈ bz_T := bz_in 1729 (by decide +kernel) rfl
theorem wd_1730 : (Jvm.Cond.methodLink "UnitsWrongModel" (499 : Nat) ({ cls := "UnitsWrongModel", name := "sums", desc := "(III)V" } : Jvm.MethodName)) ∈ bz_T := bz_in 1730 (by decide +kernel) rfl
theorem wd_1732 : (Jvm.Cond.instanceMethod ({ cls := "UnitsWrongModel", name := "sums", desc := "(III)V" } : Jvm.MethodName)) ∈ bz_T := bz_in 1732 (by decide +kernel) rfl
theorem wd_1733 : (Jvm.Cond.code ({ cls := "UnitsWrongModel", name := "sums", desc := "(III)V" } : Jvm.MethodName) prog_14_method_71_code (7 : Nat) (Option.none : Option Jvm.ClassFile.FieldType)) ∈ bz_T := bz_in 1733 (by decide +kernel) rfl
theorem wd_1734 : (Jvm.Cond.methodLink "UnitsWrongModel" (502 : Nat) ({ cls := "UnitsWrongModel", name := "judges", desc := "(III)V" } : Jvm.MethodName)) ∈ bz_T := bz_in 1734 (by decide +kernel) rfl
theorem wd_1736 : (Jvm.Cond.instanceMethod ({ cls := "UnitsWrongModel", name := "judges", desc := "(III)V" } : Jvm.MethodName)) ∈ bz_T := bz_in 1736 (by decide +kernel) rfl
theorem wd_1737 : (Jvm.Cond.code ({ cls := "UnitsWrongModel", name := "judges", desc := "(III)V" } : Jvm.MethodName) prog_14_method_73_code (6 : Nat) (Option.none : Option Jvm.ClassFile.FieldType)) ∈ bz_T := bz_in 1737 (by decide +kernel) rfl
theorem wd_1738 : (Jvm.Cond.methodLink "UnitsWrongModel" (496 : Nat) ({ cls := "UnitsWrongModel", name := "isToParty", desc := "(II)Z" } : Jvm.MethodName)) ∈ bz_T := bz_in 1738 (by decide +kernel) rfl
theorem wd_1740 : (Jvm.Cond.instanceMethod ({ cls := "UnitsWrongModel", name := "isToParty", desc := "(II)Z" } : Jvm.MethodName)) ∈ bz_T := bz_in 1740 (by decide +kernel) rfl
theorem wd_1741 : (Jvm.Cond.code ({ cls := "UnitsWrongModel", name := "isToParty", desc := "(II)Z" } : Jvm.MethodName) prog_14_method_72_code (3 : Nat) (Option.some Jvm.ClassFile.FieldType.boolean)) ∈ bz_T := bz_in 1741 (by decide +kernel) rfl
theorem wd_1746 : (Jvm.Cond.methodLink "UnitsWrongModel" (516 : Nat) ({ cls := "UnitsWrongModel", name := "houseOwes", desc := "(II)J" } : Jvm.MethodName)) ∈ bz_T := bz_in 1746 (by decide +kernel) rfl
theorem wd_1748 : (Jvm.Cond.instanceMethod ({ cls := "UnitsWrongModel", name := "houseOwes", desc := "(II)J" } : Jvm.MethodName)) ∈ bz_T := bz_in 1748 (by decide +kernel) rfl
theorem wd_1749 : (Jvm.Cond.code ({ cls := "UnitsWrongModel", name := "houseOwes", desc := "(II)J" } : Jvm.MethodName) prog_14_method_79_code (8 : Nat) (Option.some Jvm.ClassFile.FieldType.long)) ∈ bz_T := bz_in 1749 (by decide +kernel) rfl
theorem wd_1750 : (Jvm.Cond.methodLink "UnitsWrongModel" (513 : Nat) ({ cls := "UnitsWrongModel", name := "goesTo", desc := "(III)I" } : Jvm.MethodName)) ∈ bz_T := bz_in 1750 (by decide +kernel) rfl
theorem wd_1752 : (Jvm.Cond.instanceMethod ({ cls := "UnitsWrongModel", name := "goesTo", desc := "(III)I" } : Jvm.MethodName)) ∈ bz_T := bz_in 1752 (by decide +kernel) rfl
theorem wd_1753 : (Jvm.Cond.code ({ cls := "UnitsWrongModel", name := "goesTo", desc := "(III)I" } : Jvm.MethodName) prog_14_method_78_code (4 : Nat) (Option.some Jvm.ClassFile.FieldType.int)) ∈ bz_T := bz_in 1753 (by decide +kernel) rfl
theorem wd_1762 : (Jvm.Cond.methodLink "UnitsWrongModel" (519 : Nat) ({ cls := "UnitsWrongModel", name := "taxOf", desc := "(I[J)J" } : Jvm.MethodName)) ∈ bz_T := bz_in 1762 (by decide +kernel) rfl
theorem wd_1764 : (Jvm.Cond.instanceMethod ({ cls := "UnitsWrongModel", name := "taxOf", desc := "(I[J)J" } : Jvm.MethodName)) ∈ bz_T := bz_in 1764 (by decide +kernel) rfl
theorem wd_1765 : (Jvm.Cond.code ({ cls := "UnitsWrongModel", name := "taxOf", desc := "(I[J)J" } : Jvm.MethodName) prog_14_method_82_code (13 : Nat) (Option.some Jvm.ClassFile.FieldType.long)) ∈ bz_T := bz_in 1765 (by decide +kernel) rfl
theorem wd_1794 : (Jvm.Cond.methodLink "UnitsWrongModel" (541 : Nat) ({ cls := "UnitsWrongModel", name := "searches", desc := "()V" } : Jvm.MethodName)) ∈ bz_T := bz_in 1794 (by decide +kernel) rfl
theorem wd_1796 : (Jvm.Cond.instanceMethod ({ cls := "UnitsWrongModel", name := "searches", desc := "()V" } : Jvm.MethodName)) ∈ bz_T := bz_in 1796 (by decide +kernel) rfl
theorem wd_1797 : (Jvm.Cond.code ({ cls := "UnitsWrongModel", name := "searches", desc := "()V" } : Jvm.MethodName) prog_14_method_92_code (3 : Nat) (Option.none : Option Jvm.ClassFile.FieldType)) ∈ bz_T := bz_in 1797 (by decide +kernel) rfl
theorem wd_1798 : (Jvm.Cond.methodLink "UnitsWrongModel" (535 : Nat) ({ cls := "UnitsWrongModel", name := "many", desc := "(I)I" } : Jvm.MethodName)) ∈ bz_T := bz_in 1798 (by decide +kernel) rfl
theorem wd_1799 : (Jvm.Cond.static ({ cls := "UnitsWrongModel", name := "many", desc := "(I)I" } : Jvm.MethodName)) ∈ bz_T := bz_in 1799 (by decide +kernel) rfl
theorem wd_1800 : (Jvm.Cond.code ({ cls := "UnitsWrongModel", name := "many", desc := "(I)I" } : Jvm.MethodName) prog_14_method_91_code (3 : Nat) (Option.some Jvm.ClassFile.FieldType.int)) ∈ bz_T := bz_in 1800 (by decide +kernel) rfl
theorem wd_1801 : (Jvm.Cond.methodLink "UnitsWrongModel" (538 : Nat) ({ cls := "UnitsWrongModel", name := "explains", desc := "(I)Z" } : Jvm.MethodName)) ∈ bz_T := bz_in 1801 (by decide +kernel) rfl
theorem wd_1803 : (Jvm.Cond.instanceMethod ({ cls := "UnitsWrongModel", name := "explains", desc := "(I)Z" } : Jvm.MethodName)) ∈ bz_T := bz_in 1803 (by decide +kernel) rfl
theorem wd_1804 : (Jvm.Cond.code ({ cls := "UnitsWrongModel", name := "explains", desc := "(I)Z" } : Jvm.MethodName) prog_14_method_90_code (5 : Nat) (Option.some Jvm.ClassFile.FieldType.boolean)) ∈ bz_T := bz_in 1804 (by decide +kernel) rfl
theorem wd_1817 : (Jvm.Cond.constantLong "UnitsWrongModel" (544 : Nat) (5000 : Int64)) ∈ bz_T := bz_in 1817 (by decide +kernel) rfl
theorem wd_1822 : (Jvm.Cond.methodLink "UnitsWrongModel" (546 : Nat) ({ cls := "UnitsWrongModel", name := "balances", desc := "(I)V" } : Jvm.MethodName)) ∈ bz_T := bz_in 1822 (by decide +kernel) rfl
theorem wd_1824 : (Jvm.Cond.instanceMethod ({ cls := "UnitsWrongModel", name := "balances", desc := "(I)V" } : Jvm.MethodName)) ∈ bz_T := bz_in 1824 (by decide +kernel) rfl
theorem wd_1825 : (Jvm.Cond.code ({ cls := "UnitsWrongModel", name := "balances", desc := "(I)V" } : Jvm.MethodName) prog_14_method_97_code (7 : Nat) (Option.none : Option Jvm.ClassFile.FieldType)) ∈ bz_T := bz_in 1825 (by decide +kernel) rfl
theorem wd_1830 : (Jvm.Cond.methodLink "UnitsWrongModel" (561 : Nat) ({ cls := "UnitsWrongModel", name := "settles", desc := "(I)Z" } : Jvm.MethodName)) ∈ bz_T := bz_in 1830 (by decide +kernel) rfl
theorem wd_1832 : (Jvm.Cond.instanceMethod ({ cls := "UnitsWrongModel", name := "settles", desc := "(I)Z" } : Jvm.MethodName)) ∈ bz_T := bz_in 1832 (by decide +kernel) rfl
theorem wd_1833 : (Jvm.Cond.code ({ cls := "UnitsWrongModel", name := "settles", desc := "(I)Z" } : Jvm.MethodName) prog_14_method_100_code (4 : Nat) (Option.some Jvm.ClassFile.FieldType.boolean)) ∈ bz_T := bz_in 1833 (by decide +kernel) rfl
theorem wd_1834 : (Jvm.Cond.methodLink "UnitsWrongModel" (552 : Nat) ({ cls := "UnitsWrongModel", name := "mosts", desc := "(I)V" } : Jvm.MethodName)) ∈ bz_T := bz_in 1834 (by decide +kernel) rfl
theorem wd_1836 : (Jvm.Cond.instanceMethod ({ cls := "UnitsWrongModel", name := "mosts", desc := "(I)V" } : Jvm.MethodName)) ∈ bz_T := bz_in 1836 (by decide +kernel) rfl
theorem wd_1837 : (Jvm.Cond.code ({ cls := "UnitsWrongModel", name := "mosts", desc := "(I)V" } : Jvm.MethodName) prog_14_method_101_code (4 : Nat) (Option.none : Option Jvm.ClassFile.FieldType)) ∈ bz_T := bz_in 1837 (by decide +kernel) rfl
theorem wd_1838 : (Jvm.Cond.methodLink "UnitsWrongModel" (555 : Nat) ({ cls := "UnitsWrongModel", name := "picks", desc := "()V" } : Jvm.MethodName)) ∈ bz_T := bz_in 1838 (by decide +kernel) rfl
theorem wd_1840 : (Jvm.Cond.instanceMethod ({ cls := "UnitsWrongModel", name := "picks", desc := "()V" } : Jvm.MethodName)) ∈ bz_T := bz_in 1840 (by decide +kernel) rfl
theorem wd_1841 : (Jvm.Cond.code ({ cls := "UnitsWrongModel", name := "picks", desc := "()V" } : Jvm.MethodName) prog_14_method_102_code (4 : Nat) (Option.none : Option Jvm.ClassFile.FieldType)) ∈ bz_T := bz_in 1841 (by decide +kernel) rfl
theorem wd_1846 : (Jvm.Cond.methodLink "UnitsWrongModel" (564 : Nat) ({ cls := "UnitsWrongModel", name := "paid", desc := "(IIJI)I" } : Jvm.MethodName)) ∈ bz_T := bz_in 1846 (by decide +kernel) rfl
theorem wd_1847 : (Jvm.Cond.static ({ cls := "UnitsWrongModel", name := "paid", desc := "(IIJI)I" } : Jvm.MethodName)) ∈ bz_T := bz_in 1847 (by decide +kernel) rfl
theorem wd_1848 : (Jvm.Cond.code ({ cls := "UnitsWrongModel", name := "paid", desc := "(IIJI)I" } : Jvm.MethodName) prog_14_method_105_code (5 : Nat) (Option.some Jvm.ClassFile.FieldType.int)) ∈ bz_T := bz_in 1848 (by decide +kernel) rfl
theorem wd_1849 : (Jvm.Cond.methodLink "UnitsWrongModel" (568 : Nat) ({ cls := "UnitsWrongModel", name := "nameOf", desc := "(I)I" } : Jvm.MethodName)) ∈ bz_T := bz_in 1849 (by decide +kernel) rfl
theorem wd_1850 : (Jvm.Cond.static ({ cls := "UnitsWrongModel", name := "nameOf", desc := "(I)I" } : Jvm.MethodName)) ∈ bz_T := bz_in 1850 (by decide +kernel) rfl
theorem wd_1851 : (Jvm.Cond.code ({ cls := "UnitsWrongModel", name := "nameOf", desc := "(I)I" } : Jvm.MethodName) prog_14_method_98_code (1 : Nat) (Option.some Jvm.ClassFile.FieldType.int)) ∈ bz_T := bz_in 1851 (by decide +kernel) rfl
theorem wd_1856 : (Jvm.Cond.constantLong "UnitsWrongModel" (571 : Nat) (20 : Int64)) ∈ bz_T := bz_in 1856 (by decide +kernel) rfl
theorem nl_545 : (Jvm.Cond.methodLinkNest "UnitsWrong$State" (91 : Nat) ({ cls := "UnitsWrong", name := "isDay", desc := "(I)Z" } : Jvm.MethodName) "UnitsWrong") ∈ bz_NL := List.mem_filter.mpr ⟨List.mem_of_getElem? (i := 545) (by decide +kernel), rfl⟩
theorem nl_852 : (Jvm.Cond.methodLinkNest "UnitsWrong$Course" (101 : Nat) ({ cls := "UnitsWrong", name := "slot", desc := "(II)I" } : Jvm.MethodName) "UnitsWrong") ∈ bz_NL := List.mem_filter.mpr ⟨List.mem_of_getElem? (i := 852) (by decide +kernel), rfl⟩
theorem nl_969 : (Jvm.Cond.methodLinkNest "UnitsWrong$Claims" (78 : Nat) ({ cls := "UnitsWrong", name := "slot", desc := "(II)I" } : Jvm.MethodName) "UnitsWrong") ∈ bz_NL := List.mem_filter.mpr ⟨List.mem_of_getElem? (i := 969) (by decide +kernel), rfl⟩
theorem nl_1073 : (Jvm.Cond.methodLinkNest "UnitsWrong$Audits" (93 : Nat) ({ cls := "UnitsWrong", name := "slot", desc := "(II)I" } : Jvm.MethodName) "UnitsWrong") ∈ bz_NL := List.mem_filter.mpr ⟨List.mem_of_getElem? (i := 1073) (by decide +kernel), rfl⟩
