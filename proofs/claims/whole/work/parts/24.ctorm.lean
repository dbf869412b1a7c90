theorem dM_init_0 : decode prog_14_method_1_code 0 = .ok (.aload_n 0, 1) := by decide +kernel
theorem dM_init_1 : decode prog_14_method_1_code 1 = .ok (.invokespecial 3, 3) := by decide +kernel
theorem dM_init_4 : decode prog_14_method_1_code 4 = .ok (.aload_n 0, 1) := by decide +kernel
theorem dM_init_5 : decode prog_14_method_1_code 5 = .ok (.sipush 260, 3) := by decide +kernel
theorem dM_init_8 : decode prog_14_method_1_code 8 = .ok (.newarray .boolean, 2) := by decide +kernel
theorem dM_init_10 : decode prog_14_method_1_code 10 = .ok (.putfield 9, 3) := by decide +kernel
theorem dM_init_13 : decode prog_14_method_1_code 13 = .ok (.aload_n 0, 1) := by decide +kernel
theorem dM_init_14 : decode prog_14_method_1_code 14 = .ok (.sipush 407, 3) := by decide +kernel
theorem dM_init_17 : decode prog_14_method_1_code 17 = .ok (.newarray .int, 2) := by decide +kernel
theorem dM_init_19 : decode prog_14_method_1_code 19 = .ok (.putfield 13, 3) := by decide +kernel
theorem dM_init_22 : decode prog_14_method_1_code 22 = .ok (.aload_n 0, 1) := by decide +kernel
theorem dM_init_23 : decode prog_14_method_1_code 23 = .ok (.sipush 407, 3) := by decide +kernel
theorem dM_init_26 : decode prog_14_method_1_code 26 = .ok (.newarray .int, 2) := by decide +kernel
theorem dM_init_28 : decode prog_14_method_1_code 28 = .ok (.putfield 17, 3) := by decide +kernel
theorem dM_init_31 : decode prog_14_method_1_code 31 = .ok (.aload_n 0, 1) := by decide +kernel
theorem dM_init_32 : decode prog_14_method_1_code 32 = .ok (.sipush 407, 3) := by decide +kernel
theorem dM_init_35 : decode prog_14_method_1_code 35 = .ok (.newarray .int, 2) := by decide +kernel
theorem dM_init_37 : decode prog_14_method_1_code 37 = .ok (.putfield 20, 3) := by decide +kernel
theorem dM_init_40 : decode prog_14_method_1_code 40 = .ok (.aload_n 0, 1) := by decide +kernel
theorem dM_init_41 : decode prog_14_method_1_code 41 = .ok (.sipush 407, 3) := by decide +kernel
theorem dM_init_44 : decode prog_14_method_1_code 44 = .ok (.newarray .int, 2) := by decide +kernel
theorem dM_init_46 : decode prog_14_method_1_code 46 = .ok (.putfield 23, 3) := by decide +kernel
theorem dM_init_49 : decode prog_14_method_1_code 49 = .ok (.aload_n 0, 1) := by decide +kernel
theorem dM_init_50 : decode prog_14_method_1_code 50 = .ok (.sipush 407, 3) := by decide +kernel
theorem dM_init_53 : decode prog_14_method_1_code 53 = .ok (.newarray .int, 2) := by decide +kernel
theorem dM_init_55 : decode prog_14_method_1_code 55 = .ok (.putfield 26, 3) := by decide +kernel
theorem dM_init_58 : decode prog_14_method_1_code 58 = .ok (.aload_n 0, 1) := by decide +kernel
theorem dM_init_59 : decode prog_14_method_1_code 59 = .ok (.bipush 7, 2) := by decide +kernel
theorem dM_init_61 : decode prog_14_method_1_code 61 = .ok (.newarray .int, 2) := by decide +kernel
theorem dM_init_63 : decode prog_14_method_1_code 63 = .ok (.putfield 29, 3) := by decide +kernel
theorem dM_init_66 : decode prog_14_method_1_code 66 = .ok (.aload_n 0, 1) := by decide +kernel
theorem dM_init_67 : decode prog_14_method_1_code 67 = .ok (.bipush 7, 2) := by decide +kernel
theorem dM_init_69 : decode prog_14_method_1_code 69 = .ok (.newarray .int, 2) := by decide +kernel
theorem dM_init_71 : decode prog_14_method_1_code 71 = .ok (.putfield 32, 3) := by decide +kernel
theorem dM_init_74 : decode prog_14_method_1_code 74 = .ok (.aload_n 0, 1) := by decide +kernel
theorem dM_init_75 : decode prog_14_method_1_code 75 = .ok (.bipush 7, 2) := by decide +kernel
theorem dM_init_77 : decode prog_14_method_1_code 77 = .ok (.newarray .int, 2) := by decide +kernel
theorem dM_init_79 : decode prog_14_method_1_code 79 = .ok (.putfield 35, 3) := by decide +kernel
theorem dM_init_82 : decode prog_14_method_1_code 82 = .ok (.aload_n 0, 1) := by decide +kernel
theorem dM_init_83 : decode prog_14_method_1_code 83 = .ok (.bipush 7, 2) := by decide +kernel
theorem dM_init_85 : decode prog_14_method_1_code 85 = .ok (.newarray .int, 2) := by decide +kernel
theorem dM_init_87 : decode prog_14_method_1_code 87 = .ok (.putfield 38, 3) := by decide +kernel
theorem dM_init_90 : decode prog_14_method_1_code 90 = .ok (.aload_n 0, 1) := by decide +kernel
theorem dM_init_91 : decode prog_14_method_1_code 91 = .ok (.bipush 8, 2) := by decide +kernel
theorem dM_init_93 : decode prog_14_method_1_code 93 = .ok (.newarray .int, 2) := by decide +kernel
theorem dM_init_95 : decode prog_14_method_1_code 95 = .ok (.putfield 41, 3) := by decide +kernel
theorem dM_init_98 : decode prog_14_method_1_code 98 = .ok (.aload_n 0, 1) := by decide +kernel
theorem dM_init_99 : decode prog_14_method_1_code 99 = .ok (.iconst 4, 1) := by decide +kernel
theorem dM_init_100 : decode prog_14_method_1_code 100 = .ok (.newarray .int, 2) := by decide +kernel
theorem dM_init_102 : decode prog_14_method_1_code 102 = .ok (.putfield 44, 3) := by decide +kernel
theorem dM_init_105 : decode prog_14_method_1_code 105 = .ok (.aload_n 0, 1) := by decide +kernel
theorem dM_init_106 : decode prog_14_method_1_code 106 = .ok (.bipush 16, 2) := by decide +kernel
theorem dM_init_108 : decode prog_14_method_1_code 108 = .ok (.newarray .int, 2) := by decide +kernel
theorem dM_init_110 : decode prog_14_method_1_code 110 = .ok (.putfield 47, 3) := by decide +kernel
theorem dM_init_113 : decode prog_14_method_1_code 113 = .ok (.aload_n 0, 1) := by decide +kernel
theorem dM_init_114 : decode prog_14_method_1_code 114 = .ok (.bipush 16, 2) := by decide +kernel
theorem dM_init_116 : decode prog_14_method_1_code 116 = .ok (.newarray .int, 2) := by decide +kernel
theorem dM_init_118 : decode prog_14_method_1_code 118 = .ok (.putfield 50, 3) := by decide +kernel
theorem dM_init_121 : decode prog_14_method_1_code 121 = .ok (.aload_n 0, 1) := by decide +kernel
theorem dM_init_122 : decode prog_14_method_1_code 122 = .ok (.iconst 4, 1) := by decide +kernel
theorem dM_init_123 : decode prog_14_method_1_code 123 = .ok (.newarray .int, 2) := by decide +kernel
theorem dM_init_125 : decode prog_14_method_1_code 125 = .ok (.putfield 53, 3) := by decide +kernel
theorem dM_init_128 : decode prog_14_method_1_code 128 = .ok (.aload_n 0, 1) := by decide +kernel
theorem dM_init_129 : decode prog_14_method_1_code 129 = .ok (.bipush 120, 2) := by decide +kernel
theorem dM_init_131 : decode prog_14_method_1_code 131 = .ok (.newarray .int, 2) := by decide +kernel
theorem dM_init_133 : decode prog_14_method_1_code 133 = .ok (.putfield 56, 3) := by decide +kernel
theorem dM_init_136 : decode prog_14_method_1_code 136 = .ok (.aload_n 0, 1) := by decide +kernel
theorem dM_init_137 : decode prog_14_method_1_code 137 = .ok (.bipush 120, 2) := by decide +kernel
theorem dM_init_139 : decode prog_14_method_1_code 139 = .ok (.newarray .int, 2) := by decide +kernel
theorem dM_init_141 : decode prog_14_method_1_code 141 = .ok (.putfield 59, 3) := by decide +kernel
theorem dM_init_144 : decode prog_14_method_1_code 144 = .ok (.aload_n 0, 1) := by decide +kernel
theorem dM_init_145 : decode prog_14_method_1_code 145 = .ok (.bipush 120, 2) := by decide +kernel
theorem dM_init_147 : decode prog_14_method_1_code 147 = .ok (.newarray .int, 2) := by decide +kernel
theorem dM_init_149 : decode prog_14_method_1_code 149 = .ok (.putfield 62, 3) := by decide +kernel
theorem dM_init_152 : decode prog_14_method_1_code 152 = .ok (.aload_n 0, 1) := by decide +kernel
theorem dM_init_153 : decode prog_14_method_1_code 153 = .ok (.bipush 120, 2) := by decide +kernel
theorem dM_init_155 : decode prog_14_method_1_code 155 = .ok (.newarray .int, 2) := by decide +kernel
theorem dM_init_157 : decode prog_14_method_1_code 157 = .ok (.putfield 65, 3) := by decide +kernel
theorem dM_init_160 : decode prog_14_method_1_code 160 = .ok (.aload_n 0, 1) := by decide +kernel
theorem dM_init_161 : decode prog_14_method_1_code 161 = .ok (.bipush 120, 2) := by decide +kernel
theorem dM_init_163 : decode prog_14_method_1_code 163 = .ok (.newarray .int, 2) := by decide +kernel
theorem dM_init_165 : decode prog_14_method_1_code 165 = .ok (.putfield 68, 3) := by decide +kernel
theorem dM_init_168 : decode prog_14_method_1_code 168 = .ok (.aload_n 0, 1) := by decide +kernel
theorem dM_init_169 : decode prog_14_method_1_code 169 = .ok (.bipush 120, 2) := by decide +kernel
theorem dM_init_171 : decode prog_14_method_1_code 171 = .ok (.newarray .int, 2) := by decide +kernel
theorem dM_init_173 : decode prog_14_method_1_code 173 = .ok (.putfield 71, 3) := by decide +kernel
theorem dM_init_176 : decode prog_14_method_1_code 176 = .ok (.aload_n 0, 1) := by decide +kernel
theorem dM_init_177 : decode prog_14_method_1_code 177 = .ok (.sipush 200, 3) := by decide +kernel
theorem dM_init_180 : decode prog_14_method_1_code 180 = .ok (.newarray .int, 2) := by decide +kernel
theorem dM_init_182 : decode prog_14_method_1_code 182 = .ok (.putfield 74, 3) := by decide +kernel
theorem dM_init_185 : decode prog_14_method_1_code 185 = .ok (.aload_n 0, 1) := by decide +kernel
theorem dM_init_186 : decode prog_14_method_1_code 186 = .ok (.sipush 200, 3) := by decide +kernel
theorem dM_init_189 : decode prog_14_method_1_code 189 = .ok (.newarray .int, 2) := by decide +kernel
theorem dM_init_191 : decode prog_14_method_1_code 191 = .ok (.putfield 77, 3) := by decide +kernel
theorem dM_init_194 : decode prog_14_method_1_code 194 = .ok (.aload_n 0, 1) := by decide +kernel
theorem dM_init_195 : decode prog_14_method_1_code 195 = .ok (.sipush 200, 3) := by decide +kernel
theorem dM_init_198 : decode prog_14_method_1_code 198 = .ok (.newarray .int, 2) := by decide +kernel
theorem dM_init_200 : decode prog_14_method_1_code 200 = .ok (.putfield 80, 3) := by decide +kernel
theorem dM_init_203 : decode prog_14_method_1_code 203 = .ok (.aload_n 0, 1) := by decide +kernel
theorem dM_init_204 : decode prog_14_method_1_code 204 = .ok (.sipush 200, 3) := by decide +kernel
theorem dM_init_207 : decode prog_14_method_1_code 207 = .ok (.newarray .int, 2) := by decide +kernel
theorem dM_init_209 : decode prog_14_method_1_code 209 = .ok (.putfield 83, 3) := by decide +kernel
theorem dM_init_212 : decode prog_14_method_1_code 212 = .ok (.aload_n 0, 1) := by decide +kernel
theorem dM_init_213 : decode prog_14_method_1_code 213 = .ok (.sipush 200, 3) := by decide +kernel
theorem dM_init_216 : decode prog_14_method_1_code 216 = .ok (.newarray .int, 2) := by decide +kernel
theorem dM_init_218 : decode prog_14_method_1_code 218 = .ok (.putfield 86, 3) := by decide +kernel
theorem dM_init_221 : decode prog_14_method_1_code 221 = .ok (.aload_n 0, 1) := by decide +kernel
theorem dM_init_222 : decode prog_14_method_1_code 222 = .ok (.sipush 200, 3) := by decide +kernel
theorem dM_init_225 : decode prog_14_method_1_code 225 = .ok (.newarray .boolean, 2) := by decide +kernel
theorem dM_init_227 : decode prog_14_method_1_code 227 = .ok (.putfield 89, 3) := by decide +kernel
theorem dM_init_230 : decode prog_14_method_1_code 230 = .ok (.aload_n 0, 1) := by decide +kernel
theorem dM_init_231 : decode prog_14_method_1_code 231 = .ok (.sipush 200, 3) := by decide +kernel
theorem dM_init_234 : decode prog_14_method_1_code 234 = .ok (.newarray .long, 2) := by decide +kernel
theorem dM_init_236 : decode prog_14_method_1_code 236 = .ok (.putfield 92, 3) := by decide +kernel
theorem dM_init_239 : decode prog_14_method_1_code 239 = .ok (.aload_n 0, 1) := by decide +kernel
theorem dM_init_240 : decode prog_14_method_1_code 240 = .ok (.sipush 600, 3) := by decide +kernel
theorem dM_init_243 : decode prog_14_method_1_code 243 = .ok (.newarray .byte, 2) := by decide +kernel
theorem dM_init_245 : decode prog_14_method_1_code 245 = .ok (.putfield 96, 3) := by decide +kernel
theorem dM_init_248 : decode prog_14_method_1_code 248 = .ok (.aload_n 0, 1) := by decide +kernel
theorem dM_init_249 : decode prog_14_method_1_code 249 = .ok (.bipush 7, 2) := by decide +kernel
theorem dM_init_251 : decode prog_14_method_1_code 251 = .ok (.iconst 5, 1) := by decide +kernel
theorem dM_init_252 : decode prog_14_method_1_code 252 = .ok (.bipush 12, 2) := by decide +kernel
theorem dM_init_254 : decode prog_14_method_1_code 254 = .ok (.multianewarray 100 3, 4) := by decide +kernel
theorem dM_init_258 : decode prog_14_method_1_code 258 = .ok (.putfield 102, 3) := by decide +kernel
theorem dM_init_261 : decode prog_14_method_1_code 261 = .ok (.aload_n 0, 1) := by decide +kernel
theorem dM_init_262 : decode prog_14_method_1_code 262 = .ok (.bipush 6, 2) := by decide +kernel
theorem dM_init_264 : decode prog_14_method_1_code 264 = .ok (.newarray .int, 2) := by decide +kernel
theorem dM_init_266 : decode prog_14_method_1_code 266 = .ok (.putfield 105, 3) := by decide +kernel
theorem dM_init_269 : decode prog_14_method_1_code 269 = .ok (.aload_n 0, 1) := by decide +kernel
theorem dM_init_270 : decode prog_14_method_1_code 270 = .ok (.bipush 12, 2) := by decide +kernel
theorem dM_init_272 : decode prog_14_method_1_code 272 = .ok (.newarray .int, 2) := by decide +kernel
theorem dM_init_274 : decode prog_14_method_1_code 274 = .ok (.dup, 1) := by decide +kernel
theorem dM_init_275 : decode prog_14_method_1_code 275 = .ok (.iconst 0, 1) := by decide +kernel
theorem dM_init_276 : decode prog_14_method_1_code 276 = .ok (.iconst 0, 1) := by decide +kernel
theorem dM_init_277 : decode prog_14_method_1_code 277 = .ok (.iastore, 1) := by decide +kernel
theorem dM_init_278 : decode prog_14_method_1_code 278 = .ok (.dup, 1) := by decide +kernel
theorem dM_init_279 : decode prog_14_method_1_code 279 = .ok (.iconst 1, 1) := by decide +kernel
theorem dM_init_280 : decode prog_14_method_1_code 280 = .ok (.iconst 0, 1) := by decide +kernel
theorem dM_init_281 : decode prog_14_method_1_code 281 = .ok (.iastore, 1) := by decide +kernel
theorem dM_init_282 : decode prog_14_method_1_code 282 = .ok (.dup, 1) := by decide +kernel
theorem dM_init_283 : decode prog_14_method_1_code 283 = .ok (.iconst 2, 1) := by decide +kernel
theorem dM_init_284 : decode prog_14_method_1_code 284 = .ok (.sipush 10000, 3) := by decide +kernel
theorem dM_init_287 : decode prog_14_method_1_code 287 = .ok (.iastore, 1) := by decide +kernel
theorem dM_init_288 : decode prog_14_method_1_code 288 = .ok (.dup, 1) := by decide +kernel
theorem dM_init_289 : decode prog_14_method_1_code 289 = .ok (.iconst 3, 1) := by decide +kernel
theorem dM_init_290 : decode prog_14_method_1_code 290 = .ok (.bipush 24, 2) := by decide +kernel
theorem dM_init_292 : decode prog_14_method_1_code 292 = .ok (.iastore, 1) := by decide +kernel
theorem dM_init_293 : decode prog_14_method_1_code 293 = .ok (.dup, 1) := by decide +kernel
theorem dM_init_294 : decode prog_14_method_1_code 294 = .ok (.iconst 4, 1) := by decide +kernel
theorem dM_init_295 : decode prog_14_method_1_code 295 = .ok (.iconst 0, 1) := by decide +kernel
theorem dM_init_296 : decode prog_14_method_1_code 296 = .ok (.iastore, 1) := by decide +kernel
theorem dM_init_297 : decode prog_14_method_1_code 297 = .ok (.dup, 1) := by decide +kernel
theorem dM_init_298 : decode prog_14_method_1_code 298 = .ok (.iconst 5, 1) := by decide +kernel
theorem dM_init_299 : decode prog_14_method_1_code 299 = .ok (.iconst 0, 1) := by decide +kernel
theorem dM_init_300 : decode prog_14_method_1_code 300 = .ok (.iastore, 1) := by decide +kernel
theorem dM_init_301 : decode prog_14_method_1_code 301 = .ok (.dup, 1) := by decide +kernel
theorem dM_init_302 : decode prog_14_method_1_code 302 = .ok (.bipush 6, 2) := by decide +kernel
theorem dM_init_304 : decode prog_14_method_1_code 304 = .ok (.iconst 0, 1) := by decide +kernel
theorem dM_init_305 : decode prog_14_method_1_code 305 = .ok (.iastore, 1) := by decide +kernel
theorem dM_init_306 : decode prog_14_method_1_code 306 = .ok (.dup, 1) := by decide +kernel
theorem dM_init_307 : decode prog_14_method_1_code 307 = .ok (.bipush 7, 2) := by decide +kernel
theorem dM_init_309 : decode prog_14_method_1_code 309 = .ok (.iconst (-1), 1) := by decide +kernel
theorem dM_init_310 : decode prog_14_method_1_code 310 = .ok (.iastore, 1) := by decide +kernel
theorem dM_init_311 : decode prog_14_method_1_code 311 = .ok (.dup, 1) := by decide +kernel
theorem dM_init_312 : decode prog_14_method_1_code 312 = .ok (.bipush 8, 2) := by decide +kernel
theorem dM_init_314 : decode prog_14_method_1_code 314 = .ok (.sipush 300, 3) := by decide +kernel
theorem dM_init_317 : decode prog_14_method_1_code 317 = .ok (.iastore, 1) := by decide +kernel
theorem dM_init_318 : decode prog_14_method_1_code 318 = .ok (.dup, 1) := by decide +kernel
theorem dM_init_319 : decode prog_14_method_1_code 319 = .ok (.bipush 9, 2) := by decide +kernel
theorem dM_init_321 : decode prog_14_method_1_code 321 = .ok (.iconst 0, 1) := by decide +kernel
theorem dM_init_322 : decode prog_14_method_1_code 322 = .ok (.iastore, 1) := by decide +kernel
theorem dM_init_323 : decode prog_14_method_1_code 323 = .ok (.dup, 1) := by decide +kernel
theorem dM_init_324 : decode prog_14_method_1_code 324 = .ok (.bipush 10, 2) := by decide +kernel
theorem dM_init_326 : decode prog_14_method_1_code 326 = .ok (.iconst 0, 1) := by decide +kernel
theorem dM_init_327 : decode prog_14_method_1_code 327 = .ok (.iastore, 1) := by decide +kernel
theorem dM_init_328 : decode prog_14_method_1_code 328 = .ok (.dup, 1) := by decide +kernel
theorem dM_init_329 : decode prog_14_method_1_code 329 = .ok (.bipush 11, 2) := by decide +kernel
theorem dM_init_331 : decode prog_14_method_1_code 331 = .ok (.iconst 0, 1) := by decide +kernel
theorem dM_init_332 : decode prog_14_method_1_code 332 = .ok (.iastore, 1) := by decide +kernel
theorem dM_init_333 : decode prog_14_method_1_code 333 = .ok (.putfield 108, 3) := by decide +kernel
theorem dM_init_336 : decode prog_14_method_1_code 336 = .ok (.aload_n 0, 1) := by decide +kernel
theorem dM_init_337 : decode prog_14_method_1_code 337 = .ok (.iconst 3, 1) := by decide +kernel
theorem dM_init_338 : decode prog_14_method_1_code 338 = .ok (.anewarray 111, 3) := by decide +kernel
theorem dM_init_341 : decode prog_14_method_1_code 341 = .ok (.dup, 1) := by decide +kernel
theorem dM_init_342 : decode prog_14_method_1_code 342 = .ok (.iconst 0, 1) := by decide +kernel
theorem dM_init_343 : decode prog_14_method_1_code 343 = .ok (.ldc 113, 2) := by decide +kernel
theorem dM_init_345 : decode prog_14_method_1_code 345 = .ok (.aastore, 1) := by decide +kernel
theorem dM_init_346 : decode prog_14_method_1_code 346 = .ok (.dup, 1) := by decide +kernel
theorem dM_init_347 : decode prog_14_method_1_code 347 = .ok (.iconst 1, 1) := by decide +kernel
theorem dM_init_348 : decode prog_14_method_1_code 348 = .ok (.ldc 115, 2) := by decide +kernel
theorem dM_init_350 : decode prog_14_method_1_code 350 = .ok (.aastore, 1) := by decide +kernel
theorem dM_init_351 : decode prog_14_method_1_code 351 = .ok (.dup, 1) := by decide +kernel
theorem dM_init_352 : decode prog_14_method_1_code 352 = .ok (.iconst 2, 1) := by decide +kernel
theorem dM_init_353 : decode prog_14_method_1_code 353 = .ok (.ldc 117, 2) := by decide +kernel
theorem dM_init_355 : decode prog_14_method_1_code 355 = .ok (.aastore, 1) := by decide +kernel
theorem dM_init_356 : decode prog_14_method_1_code 356 = .ok (.putfield 119, 3) := by decide +kernel
theorem dM_init_359 : decode prog_14_method_1_code 359 = .ok (.aload_n 0, 1) := by decide +kernel
theorem dM_init_360 : decode prog_14_method_1_code 360 = .ok (.bipush 8, 2) := by decide +kernel
theorem dM_init_362 : decode prog_14_method_1_code 362 = .ok (.sipush 260, 3) := by decide +kernel
theorem dM_init_365 : decode prog_14_method_1_code 365 = .ok (.multianewarray 123 2, 4) := by decide +kernel
theorem dM_init_369 : decode prog_14_method_1_code 369 = .ok (.putfield 125, 3) := by decide +kernel
theorem dM_init_372 : decode prog_14_method_1_code 372 = .ok (.aload_n 0, 1) := by decide +kernel
theorem dM_init_373 : decode prog_14_method_1_code 373 = .ok (.iconst 3, 1) := by decide +kernel
theorem dM_init_374 : decode prog_14_method_1_code 374 = .ok (.sipush 260, 3) := by decide +kernel
theorem dM_init_377 : decode prog_14_method_1_code 377 = .ok (.multianewarray 123 2, 4) := by decide +kernel
theorem dM_init_381 : decode prog_14_method_1_code 381 = .ok (.putfield 128, 3) := by decide +kernel
theorem dM_init_384 : decode prog_14_method_1_code 384 = .ok (.aload_n 0, 1) := by decide +kernel
theorem dM_init_385 : decode prog_14_method_1_code 385 = .ok (.bipush 8, 2) := by decide +kernel
theorem dM_init_387 : decode prog_14_method_1_code 387 = .ok (.sipush 260, 3) := by decide +kernel
theorem dM_init_390 : decode prog_14_method_1_code 390 = .ok (.multianewarray 123 2, 4) := by decide +kernel
theorem dM_init_394 : decode prog_14_method_1_code 394 = .ok (.putfield 131, 3) := by decide +kernel
theorem dM_init_397 : decode prog_14_method_1_code 397 = .ok (.aload_n 0, 1) := by decide +kernel
theorem dM_init_398 : decode prog_14_method_1_code 398 = .ok (.bipush 8, 2) := by decide +kernel
theorem dM_init_400 : decode prog_14_method_1_code 400 = .ok (.sipush 260, 3) := by decide +kernel
theorem dM_init_403 : decode prog_14_method_1_code 403 = .ok (.multianewarray 123 2, 4) := by decide +kernel
theorem dM_init_407 : decode prog_14_method_1_code 407 = .ok (.putfield 134, 3) := by decide +kernel
theorem dM_init_410 : decode prog_14_method_1_code 410 = .ok (.aload_n 0, 1) := by decide +kernel
theorem dM_init_411 : decode prog_14_method_1_code 411 = .ok (.iconst 4, 1) := by decide +kernel
theorem dM_init_412 : decode prog_14_method_1_code 412 = .ok (.newarray .long, 2) := by decide +kernel
theorem dM_init_414 : decode prog_14_method_1_code 414 = .ok (.putfield 137, 3) := by decide +kernel
theorem dM_init_417 : decode prog_14_method_1_code 417 = .ok (.aload_n 0, 1) := by decide +kernel
theorem dM_init_418 : decode prog_14_method_1_code 418 = .ok (.sipush 200, 3) := by decide +kernel
theorem dM_init_421 : decode prog_14_method_1_code 421 = .ok (.newarray .long, 2) := by decide +kernel
theorem dM_init_423 : decode prog_14_method_1_code 423 = .ok (.putfield 140, 3) := by decide +kernel
theorem dM_init_426 : decode prog_14_method_1_code 426 = .ok (.aload_n 0, 1) := by decide +kernel
theorem dM_init_427 : decode prog_14_method_1_code 427 = .ok (.iconst 4, 1) := by decide +kernel
theorem dM_init_428 : decode prog_14_method_1_code 428 = .ok (.bipush 8, 2) := by decide +kernel
theorem dM_init_430 : decode prog_14_method_1_code 430 = .ok (.multianewarray 143 2, 4) := by decide +kernel
theorem dM_init_434 : decode prog_14_method_1_code 434 = .ok (.putfield 145, 3) := by decide +kernel
theorem dM_init_437 : decode prog_14_method_1_code 437 = .ok (.aload_n 0, 1) := by decide +kernel
theorem dM_init_438 : decode prog_14_method_1_code 438 = .ok (.iconst 4, 1) := by decide +kernel
theorem dM_init_439 : decode prog_14_method_1_code 439 = .ok (.sipush 260, 3) := by decide +kernel
theorem dM_init_442 : decode prog_14_method_1_code 442 = .ok (.multianewarray 143 2, 4) := by decide +kernel
theorem dM_init_446 : decode prog_14_method_1_code 446 = .ok (.putfield 148, 3) := by decide +kernel
theorem dM_init_449 : decode prog_14_method_1_code 449 = .ok (.aload_n 0, 1) := by decide +kernel
theorem dM_init_450 : decode prog_14_method_1_code 450 = .ok (.iconst 4, 1) := by decide +kernel
theorem dM_init_451 : decode prog_14_method_1_code 451 = .ok (.sipush 260, 3) := by decide +kernel
theorem dM_init_454 : decode prog_14_method_1_code 454 = .ok (.multianewarray 143 2, 4) := by decide +kernel
theorem dM_init_458 : decode prog_14_method_1_code 458 = .ok (.putfield 151, 3) := by decide +kernel
theorem dM_init_461 : decode prog_14_method_1_code 461 = .ok (.aload_n 0, 1) := by decide +kernel
theorem dM_init_462 : decode prog_14_method_1_code 462 = .ok (.iconst 4, 1) := by decide +kernel
theorem dM_init_463 : decode prog_14_method_1_code 463 = .ok (.bipush 20, 2) := by decide +kernel
theorem dM_init_465 : decode prog_14_method_1_code 465 = .ok (.multianewarray 143 2, 4) := by decide +kernel
theorem dM_init_469 : decode prog_14_method_1_code 469 = .ok (.putfield 154, 3) := by decide +kernel
theorem dM_init_472 : decode prog_14_method_1_code 472 = .ok (.aload_n 0, 1) := by decide +kernel
theorem dM_init_473 : decode prog_14_method_1_code 473 = .ok (.iconst 4, 1) := by decide +kernel
theorem dM_init_474 : decode prog_14_method_1_code 474 = .ok (.newarray .long, 2) := by decide +kernel
theorem dM_init_476 : decode prog_14_method_1_code 476 = .ok (.putfield 157, 3) := by decide +kernel
theorem dM_init_479 : decode prog_14_method_1_code 479 = .ok (.aload_n 0, 1) := by decide +kernel
theorem dM_init_480 : decode prog_14_method_1_code 480 = .ok (.iconst 4, 1) := by decide +kernel
theorem dM_init_481 : decode prog_14_method_1_code 481 = .ok (.sipush 260, 3) := by decide +kernel
theorem dM_init_484 : decode prog_14_method_1_code 484 = .ok (.multianewarray 143 2, 4) := by decide +kernel
theorem dM_init_488 : decode prog_14_method_1_code 488 = .ok (.putfield 160, 3) := by decide +kernel
theorem dM_init_491 : decode prog_14_method_1_code 491 = .ok (.aload_n 0, 1) := by decide +kernel
theorem dM_init_492 : decode prog_14_method_1_code 492 = .ok (.iconst 4, 1) := by decide +kernel
theorem dM_init_493 : decode prog_14_method_1_code 493 = .ok (.sipush 260, 3) := by decide +kernel
theorem dM_init_496 : decode prog_14_method_1_code 496 = .ok (.multianewarray 143 2, 4) := by decide +kernel
theorem dM_init_500 : decode prog_14_method_1_code 500 = .ok (.putfield 163, 3) := by decide +kernel
theorem dM_init_503 : decode prog_14_method_1_code 503 = .ok (.aload_n 0, 1) := by decide +kernel
theorem dM_init_504 : decode prog_14_method_1_code 504 = .ok (.sipush 260, 3) := by decide +kernel
theorem dM_init_507 : decode prog_14_method_1_code 507 = .ok (.newarray .boolean, 2) := by decide +kernel
theorem dM_init_509 : decode prog_14_method_1_code 509 = .ok (.putfield 166, 3) := by decide +kernel
theorem dM_init_512 : decode prog_14_method_1_code 512 = .ok (.aload_n 0, 1) := by decide +kernel
theorem dM_init_513 : decode prog_14_method_1_code 513 = .ok (.bipush 20, 2) := by decide +kernel
theorem dM_init_515 : decode prog_14_method_1_code 515 = .ok (.newarray .long, 2) := by decide +kernel
theorem dM_init_517 : decode prog_14_method_1_code 517 = .ok (.putfield 169, 3) := by decide +kernel
theorem dM_init_520 : decode prog_14_method_1_code 520 = .ok (.aload_n 0, 1) := by decide +kernel
theorem dM_init_521 : decode prog_14_method_1_code 521 = .ok (.bipush 20, 2) := by decide +kernel
theorem dM_init_523 : decode prog_14_method_1_code 523 = .ok (.newarray .long, 2) := by decide +kernel
theorem dM_init_525 : decode prog_14_method_1_code 525 = .ok (.putfield 172, 3) := by decide +kernel
theorem dM_init_528 : decode prog_14_method_1_code 528 = .ok (.aload_n 0, 1) := by decide +kernel
theorem dM_init_529 : decode prog_14_method_1_code 529 = .ok (.bipush 20, 2) := by decide +kernel
theorem dM_init_531 : decode prog_14_method_1_code 531 = .ok (.newarray .long, 2) := by decide +kernel
theorem dM_init_533 : decode prog_14_method_1_code 533 = .ok (.putfield 175, 3) := by decide +kernel
theorem dM_init_536 : decode prog_14_method_1_code 536 = .ok (.aload_n 0, 1) := by decide +kernel
theorem dM_init_537 : decode prog_14_method_1_code 537 = .ok (.bipush 20, 2) := by decide +kernel
theorem dM_init_539 : decode prog_14_method_1_code 539 = .ok (.newarray .long, 2) := by decide +kernel
theorem dM_init_541 : decode prog_14_method_1_code 541 = .ok (.putfield 178, 3) := by decide +kernel
theorem dM_init_544 : decode prog_14_method_1_code 544 = .ok (.aload_n 0, 1) := by decide +kernel
theorem dM_init_545 : decode prog_14_method_1_code 545 = .ok (.bipush 20, 2) := by decide +kernel
theorem dM_init_547 : decode prog_14_method_1_code 547 = .ok (.newarray .int, 2) := by decide +kernel
theorem dM_init_549 : decode prog_14_method_1_code 549 = .ok (.putfield 181, 3) := by decide +kernel
theorem dM_init_552 : decode prog_14_method_1_code 552 = .ok (.aload_n 0, 1) := by decide +kernel
theorem dM_init_553 : decode prog_14_method_1_code 553 = .ok (.bipush 8, 2) := by decide +kernel
theorem dM_init_555 : decode prog_14_method_1_code 555 = .ok (.newarray .int, 2) := by decide +kernel
theorem dM_init_557 : decode prog_14_method_1_code 557 = .ok (.putfield 184, 3) := by decide +kernel
theorem dM_init_560 : decode prog_14_method_1_code 560 = .ok (.aload_n 0, 1) := by decide +kernel
theorem dM_init_561 : decode prog_14_method_1_code 561 = .ok (.bipush 8, 2) := by decide +kernel
theorem dM_init_563 : decode prog_14_method_1_code 563 = .ok (.newarray .int, 2) := by decide +kernel
theorem dM_init_565 : decode prog_14_method_1_code 565 = .ok (.putfield 187, 3) := by decide +kernel
theorem dM_init_568 : decode prog_14_method_1_code 568 = .ok (.aload_n 0, 1) := by decide +kernel
theorem dM_init_569 : decode prog_14_method_1_code 569 = .ok (.bipush 8, 2) := by decide +kernel
theorem dM_init_571 : decode prog_14_method_1_code 571 = .ok (.newarray .int, 2) := by decide +kernel
theorem dM_init_573 : decode prog_14_method_1_code 573 = .ok (.putfield 190, 3) := by decide +kernel
theorem dM_init_576 : decode prog_14_method_1_code 576 = .ok (.aload_n 0, 1) := by decide +kernel
theorem dM_init_577 : decode prog_14_method_1_code 577 = .ok (.bipush 22, 2) := by decide +kernel
theorem dM_init_579 : decode prog_14_method_1_code 579 = .ok (.newarray .long, 2) := by decide +kernel
theorem dM_init_581 : decode prog_14_method_1_code 581 = .ok (.putfield 193, 3) := by decide +kernel
theorem dM_init_584 : decode prog_14_method_1_code 584 = .ok (.aload_n 0, 1) := by decide +kernel
theorem dM_init_585 : decode prog_14_method_1_code 585 = .ok (.bipush 10, 2) := by decide +kernel
theorem dM_init_587 : decode prog_14_method_1_code 587 = .ok (.newarray .int, 2) := by decide +kernel
theorem dM_init_589 : decode prog_14_method_1_code 589 = .ok (.putfield 196, 3) := by decide +kernel
theorem dM_init_592 : decode prog_14_method_1_code 592 = .ok (.aload_n 0, 1) := by decide +kernel
theorem dM_init_593 : decode prog_14_method_1_code 593 = .ok (.sipush 1024, 3) := by decide +kernel
theorem dM_init_596 : decode prog_14_method_1_code 596 = .ok (.newarray .int, 2) := by decide +kernel
theorem dM_init_598 : decode prog_14_method_1_code 598 = .ok (.putfield 199, 3) := by decide +kernel
theorem dM_init_601 : decode prog_14_method_1_code 601 = .ok (.aload_n 0, 1) := by decide +kernel
theorem dM_init_602 : decode prog_14_method_1_code 602 = .ok (.sipush 1024, 3) := by decide +kernel
theorem dM_init_605 : decode prog_14_method_1_code 605 = .ok (.newarray .long, 2) := by decide +kernel
theorem dM_init_607 : decode prog_14_method_1_code 607 = .ok (.putfield 202, 3) := by decide +kernel
theorem dM_init_610 : decode prog_14_method_1_code 610 = .ok (.aload_n 0, 1) := by decide +kernel
theorem dM_init_611 : decode prog_14_method_1_code 611 = .ok (.bipush 10, 2) := by decide +kernel
theorem dM_init_613 : decode prog_14_method_1_code 613 = .ok (.newarray .int, 2) := by decide +kernel
theorem dM_init_615 : decode prog_14_method_1_code 615 = .ok (.putfield 205, 3) := by decide +kernel
theorem dM_init_618 : decode prog_14_method_1_code 618 = .ok (.return_, 1) := by decide +kernel
def nS_162 : List bz_Sh := nS_161 ++ [.inr (12, [(0, 0), (5, 0), (0, 0), (5, 0), (5, 0), (5, 0), (5, 0), (5, 0), (5, 0), (5, 0), (5, 0), (5, 0), (0, 0), (0, 0), (5, 0), (5, 0), (5, 0), (5, 0), (5, 0), (0, 0), (0, 0), (5, 0), (5, 0), (5, 0), (5, 0), (5, 0), (5, 0), (0, 0), (5, 0), (5, 0), (5, 0), (5, 0), (5, 0), (5, 0), (5, 0), (0, 0), (5, 0), (0, 0), (0, 0), (0, 0), (0, 0), (5, 0), (5, 0), (0, 0), (5, 0), (5, 0), (5, 0), (5, 0), (5, 0), (5, 0), (5, 0), (5, 0), (5, 0), (5, 0), (5, 0), (5, 0), (5, 0), (5, 0), (5, 0), (5, 0), (5, 0), (0, 0), (5, 0), (5, 0), (5, 0), (5, 0), (5, 0), (5, 0), (5, 0), (0, 0), (0, 0), (0, 0), (5, 0), (5, 0), (0, 0), (5, 0), (5, 0), (5, 0), (0, 0)])]
def nS_163 : List bz_Sh := nS_162 ++ [.inl (2, 260, 0)]
def nS_164 : List bz_Sh := nS_163.set 81 (.inr (12, ([(0, 0), (5, 0), (0, 0), (5, 0), (5, 0), (5, 0), (5, 0), (5, 0), (5, 0), (5, 0), (5, 0), (5, 0), (0, 0), (0, 0), (5, 0), (5, 0), (5, 0), (5, 0), (5, 0), (0, 0), (0, 0), (5, 0), (5, 0), (5, 0), (5, 0), (5, 0), (5, 0), (0, 0), (5, 0), (5, 0), (5, 0), (5, 0), (5, 0), (5, 0), (5, 0), (0, 0), (5, 0), (0, 0), (0, 0), (0, 0), (0, 0), (5, 0), (5, 0), (0, 0), (5, 0), (5, 0), (5, 0), (5, 0), (5, 0), (5, 0), (5, 0), (5, 0), (5, 0), (5, 0), (5, 0), (5, 0), (5, 0), (5, 0), (5, 0), (5, 0), (5, 0), (0, 0), (5, 0), (5, 0), (5, 0), (5, 0), (5, 0), (5, 0), (5, 0), (0, 0), (0, 0), (0, 0), (5, 0), (5, 0), (0, 0), (5, 0), (5, 0), (5, 0), (0, 0)] : List (Nat × Nat)).set 1 (4, 82)))
def nS_165 : List bz_Sh := nS_164 ++ [.inl (0, 407, 0)]
def nS_166 : List bz_Sh := nS_165.set 81 (.inr (12, ([(0, 0), (4, 82), (0, 0), (5, 0), (5, 0), (5, 0), (5, 0), (5, 0), (5, 0), (5, 0), (5, 0), (5, 0), (0, 0), (0, 0), (5, 0), (5, 0), (5, 0), (5, 0), (5, 0), (0, 0), (0, 0), (5, 0), (5, 0), (5, 0), (5, 0), (5, 0), (5, 0), (0, 0), (5, 0), (5, 0), (5, 0), (5, 0), (5, 0), (5, 0), (5, 0), (0, 0), (5, 0), (0, 0), (0, 0), (0, 0), (0, 0), (5, 0), (5, 0), (0, 0), (5, 0), (5, 0), (5, 0), (5, 0), (5, 0), (5, 0), (5, 0), (5, 0), (5, 0), (5, 0), (5, 0), (5, 0), (5, 0), (5, 0), (5, 0), (5, 0), (5, 0), (0, 0), (5, 0), (5, 0), (5, 0), (5, 0), (5, 0), (5, 0), (5, 0), (0, 0), (0, 0), (0, 0), (5, 0), (5, 0), (0, 0), (5, 0), (5, 0), (5, 0), (0, 0)] : List (Nat × Nat)).set 3 (4, 83)))
def nS_167 : List bz_Sh := nS_166 ++ [.inl (0, 407, 0)]
def nS_168 : List bz_Sh := nS_167.set 81 (.inr (12, ([(0, 0), (4, 82), (0, 0), (4, 83), (5, 0), (5, 0), (5, 0), (5, 0), (5, 0), (5, 0), (5, 0), (5, 0), (0, 0), (0, 0), (5, 0), (5, 0), (5, 0), (5, 0), (5, 0), (0, 0), (0, 0), (5, 0), (5, 0), (5, 0), (5, 0), (5, 0), (5, 0), (0, 0), (5, 0), (5, 0), (5, 0), (5, 0), (5, 0), (5, 0), (5, 0), (0, 0), (5, 0), (0, 0), (0, 0), (0, 0), (0, 0), (5, 0), (5, 0), (0, 0), (5, 0), (5, 0), (5, 0), (5, 0), (5, 0), (5, 0), (5, 0), (5, 0), (5, 0), (5, 0), (5, 0), (5, 0), (5, 0), (5, 0), (5, 0), (5, 0), (5, 0), (0, 0), (5, 0), (5, 0), (5, 0), (5, 0), (5, 0), (5, 0), (5, 0), (0, 0), (0, 0), (0, 0), (5, 0), (5, 0), (0, 0), (5, 0), (5, 0), (5, 0), (0, 0)] : List (Nat × Nat)).set 4 (4, 84)))
def nS_169 : List bz_Sh := nS_168 ++ [.inl (0, 407, 0)]
def nS_170 : List bz_Sh := nS_169.set 81 (.inr (12, ([(0, 0), (4, 82), (0, 0), (4, 83), (4, 84), (5, 0), (5, 0), (5, 0), (5, 0), (5, 0), (5, 0), (5, 0), (0, 0), (0, 0), (5, 0), (5, 0), (5, 0), (5, 0), (5, 0), (0, 0), (0, 0), (5, 0), (5, 0), (5, 0), (5, 0), (5, 0), (5, 0), (0, 0), (5, 0), (5, 0), (5, 0), (5, 0), (5, 0), (5, 0), (5, 0), (0, 0), (5, 0), (0, 0), (0, 0), (0, 0), (0, 0), (5, 0), (5, 0), (0, 0), (5, 0), (5, 0), (5, 0), (5, 0), (5, 0), (5, 0), (5, 0), (5, 0), (5, 0), (5, 0), (5, 0), (5, 0), (5, 0), (5, 0), (5, 0), (5, 0), (5, 0), (0, 0), (5, 0), (5, 0), (5, 0), (5, 0), (5, 0), (5, 0), (5, 0), (0, 0), (0, 0), (0, 0), (5, 0), (5, 0), (0, 0), (5, 0), (5, 0), (5, 0), (0, 0)] : List (Nat × Nat)).set 5 (4, 85)))
def nS_171 : List bz_Sh := nS_170 ++ [.inl (0, 407, 0)]
def nS_172 : List bz_Sh := nS_171.set 81 (.inr (12, ([(0, 0), (4, 82), (0, 0), (4, 83), (4, 84), (4, 85), (5, 0), (5, 0), (5, 0), (5, 0), (5, 0), (5, 0), (0, 0), (0, 0), (5, 0), (5, 0), (5, 0), (5, 0), (5, 0), (0, 0), (0, 0), (5, 0), (5, 0), (5, 0), (5, 0), (5, 0), (5, 0), (0, 0), (5, 0), (5, 0), (5, 0), (5, 0), (5, 0), (5, 0), (5, 0), (0, 0), (5, 0), (0, 0), (0, 0), (0, 0), (0, 0), (5, 0), (5, 0), (0, 0), (5, 0), (5, 0), (5, 0), (5, 0), (5, 0), (5, 0), (5, 0), (5, 0), (5, 0), (5, 0), (5, 0), (5, 0), (5, 0), (5, 0), (5, 0), (5, 0), (5, 0), (0, 0), (5, 0), (5, 0), (5, 0), (5, 0), (5, 0), (5, 0), (5, 0), (0, 0), (0, 0), (0, 0), (5, 0), (5, 0), (0, 0), (5, 0), (5, 0), (5, 0), (0, 0)] : List (Nat × Nat)).set 6 (4, 86)))
def nS_173 : List bz_Sh := nS_172 ++ [.inl (0, 407, 0)]
def nS_174 : List bz_Sh := nS_173.set 81 (.inr (12, ([(0, 0), (4, 82), (0, 0), (4, 83), (4, 84), (4, 85), (4, 86), (5, 0), (5, 0), (5, 0), (5, 0), (5, 0), (0, 0), (0, 0), (5, 0), (5, 0), (5, 0), (5, 0), (5, 0), (0, 0), (0, 0), (5, 0), (5, 0), (5, 0), (5, 0), (5, 0), (5, 0), (0, 0), (5, 0), (5, 0), (5, 0), (5, 0), (5, 0), (5, 0), (5, 0), (0, 0), (5, 0), (0, 0), (0, 0), (0, 0), (0, 0), (5, 0), (5, 0), (0, 0), (5, 0), (5, 0), (5, 0), (5, 0), (5, 0), (5, 0), (5, 0), (5, 0), (5, 0), (5, 0), (5, 0), (5, 0), (5, 0), (5, 0), (5, 0), (5, 0), (5, 0), (0, 0), (5, 0), (5, 0), (5, 0), (5, 0), (5, 0), (5, 0), (5, 0), (0, 0), (0, 0), (0, 0), (5, 0), (5, 0), (0, 0), (5, 0), (5, 0), (5, 0), (0, 0)] : List (Nat × Nat)).set 7 (4, 87)))
def nS_175 : List bz_Sh := nS_174 ++ [.inl (0, 7, 0)]
def nS_176 : List bz_Sh := nS_175.set 81 (.inr (12, ([(0, 0), (4, 82), (0, 0), (4, 83), (4, 84), (4, 85), (4, 86), (4, 87), (5, 0), (5, 0), (5, 0), (5, 0), (0, 0), (0, 0), (5, 0), (5, 0), (5, 0), (5, 0), (5, 0), (0, 0), (0, 0), (5, 0), (5, 0), (5, 0), (5, 0), (5, 0), (5, 0), (0, 0), (5, 0), (5, 0), (5, 0), (5, 0), (5, 0), (5, 0), (5, 0), (0, 0), (5, 0), (0, 0), (0, 0), (0, 0), (0, 0), (5, 0), (5, 0), (0, 0), (5, 0), (5, 0), (5, 0), (5, 0), (5, 0), (5, 0), (5, 0), (5, 0), (5, 0), (5, 0), (5, 0), (5, 0), (5, 0), (5, 0), (5, 0), (5, 0), (5, 0), (0, 0), (5, 0), (5, 0), (5, 0), (5, 0), (5, 0), (5, 0), (5, 0), (0, 0), (0, 0), (0, 0), (5, 0), (5, 0), (0, 0), (5, 0), (5, 0), (5, 0), (0, 0)] : List (Nat × Nat)).set 8 (4, 88)))
def nS_177 : List bz_Sh := nS_176 ++ [.inl (0, 7, 0)]
def nS_178 : List bz_Sh := nS_177.set 81 (.inr (12, ([(0, 0), (4, 82), (0, 0), (4, 83), (4, 84), (4, 85), (4, 86), (4, 87), (4, 88), (5, 0), (5, 0), (5, 0), (0, 0), (0, 0), (5, 0), (5, 0), (5, 0), (5, 0), (5, 0), (0, 0), (0, 0), (5, 0), (5, 0), (5, 0), (5, 0), (5, 0), (5, 0), (0, 0), (5, 0), (5, 0), (5, 0), (5, 0), (5, 0), (5, 0), (5, 0), (0, 0), (5, 0), (0, 0), (0, 0), (0, 0), (0, 0), (5, 0), (5, 0), (0, 0), (5, 0), (5, 0), (5, 0), (5, 0), (5, 0), (5, 0), (5, 0), (5, 0), (5, 0), (5, 0), (5, 0), (5, 0), (5, 0), (5, 0), (5, 0), (5, 0), (5, 0), (0, 0), (5, 0), (5, 0), (5, 0), (5, 0), (5, 0), (5, 0), (5, 0), (0, 0), (0, 0), (0, 0), (5, 0), (5, 0), (0, 0), (5, 0), (5, 0), (5, 0), (0, 0)] : List (Nat × Nat)).set 9 (4, 89)))
def nS_179 : List bz_Sh := nS_178 ++ [.inl (0, 7, 0)]
def nS_180 : List bz_Sh := nS_179.set 81 (.inr (12, ([(0, 0), (4, 82), (0, 0), (4, 83), (4, 84), (4, 85), (4, 86), (4, 87), (4, 88), (4, 89), (5, 0), (5, 0), (0, 0), (0, 0), (5, 0), (5, 0), (5, 0), (5, 0), (5, 0), (0, 0), (0, 0), (5, 0), (5, 0), (5, 0), (5, 0), (5, 0), (5, 0), (0, 0), (5, 0), (5, 0), (5, 0), (5, 0), (5, 0), (5, 0), (5, 0), (0, 0), (5, 0), (0, 0), (0, 0), (0, 0), (0, 0), (5, 0), (5, 0), (0, 0), (5, 0), (5, 0), (5, 0), (5, 0), (5, 0), (5, 0), (5, 0), (5, 0), (5, 0), (5, 0), (5, 0), (5, 0), (5, 0), (5, 0), (5, 0), (5, 0), (5, 0), (0, 0), (5, 0), (5, 0), (5, 0), (5, 0), (5, 0), (5, 0), (5, 0), (0, 0), (0, 0), (0, 0), (5, 0), (5, 0), (0, 0), (5, 0), (5, 0), (5, 0), (0, 0)] : List (Nat × Nat)).set 10 (4, 90)))
def nS_181 : List bz_Sh := nS_180 ++ [.inl (0, 7, 0)]
def nS_182 : List bz_Sh := nS_181.set 81 (.inr (12, ([(0, 0), (4, 82), (0, 0), (4, 83), (4, 84), (4, 85), (4, 86), (4, 87), (4, 88), (4, 89), (4, 90), (5, 0), (0, 0), (0, 0), (5, 0), (5, 0), (5, 0), (5, 0), (5, 0), (0, 0), (0, 0), (5, 0), (5, 0), (5, 0), (5, 0), (5, 0), (5, 0), (0, 0), (5, 0), (5, 0), (5, 0), (5, 0), (5, 0), (5, 0), (5, 0), (0, 0), (5, 0), (0, 0), (0, 0), (0, 0), (0, 0), (5, 0), (5, 0), (0, 0), (5, 0), (5, 0), (5, 0), (5, 0), (5, 0), (5, 0), (5, 0), (5, 0), (5, 0), (5, 0), (5, 0), (5, 0), (5, 0), (5, 0), (5, 0), (5, 0), (5, 0), (0, 0), (5, 0), (5, 0), (5, 0), (5, 0), (5, 0), (5, 0), (5, 0), (0, 0), (0, 0), (0, 0), (5, 0), (5, 0), (0, 0), (5, 0), (5, 0), (5, 0), (0, 0)] : List (Nat × Nat)).set 11 (4, 91)))
def nS_183 : List bz_Sh := nS_182 ++ [.inl (0, 8, 0)]
def nS_184 : List bz_Sh := nS_183.set 81 (.inr (12, ([(0, 0), (4, 82), (0, 0), (4, 83), (4, 84), (4, 85), (4, 86), (4, 87), (4, 88), (4, 89), (4, 90), (4, 91), (0, 0), (0, 0), (5, 0), (5, 0), (5, 0), (5, 0), (5, 0), (0, 0), (0, 0), (5, 0), (5, 0), (5, 0), (5, 0), (5, 0), (5, 0), (0, 0), (5, 0), (5, 0), (5, 0), (5, 0), (5, 0), (5, 0), (5, 0), (0, 0), (5, 0), (0, 0), (0, 0), (0, 0), (0, 0), (5, 0), (5, 0), (0, 0), (5, 0), (5, 0), (5, 0), (5, 0), (5, 0), (5, 0), (5, 0), (5, 0), (5, 0), (5, 0), (5, 0), (5, 0), (5, 0), (5, 0), (5, 0), (5, 0), (5, 0), (0, 0), (5, 0), (5, 0), (5, 0), (5, 0), (5, 0), (5, 0), (5, 0), (0, 0), (0, 0), (0, 0), (5, 0), (5, 0), (0, 0), (5, 0), (5, 0), (5, 0), (0, 0)] : List (Nat × Nat)).set 14 (4, 92)))
def nS_185 : List bz_Sh := nS_184 ++ [.inl (0, 4, 0)]
def nS_186 : List bz_Sh := nS_185.set 81 (.inr (12, ([(0, 0), (4, 82), (0, 0), (4, 83), (4, 84), (4, 85), (4, 86), (4, 87), (4, 88), (4, 89), (4, 90), (4, 91), (0, 0), (0, 0), (4, 92), (5, 0), (5, 0), (5, 0), (5, 0), (0, 0), (0, 0), (5, 0), (5, 0), (5, 0), (5, 0), (5, 0), (5, 0), (0, 0), (5, 0), (5, 0), (5, 0), (5, 0), (5, 0), (5, 0), (5, 0), (0, 0), (5, 0), (0, 0), (0, 0), (0, 0), (0, 0), (5, 0), (5, 0), (0, 0), (5, 0), (5, 0), (5, 0), (5, 0), (5, 0), (5, 0), (5, 0), (5, 0), (5, 0), (5, 0), (5, 0), (5, 0), (5, 0), (5, 0), (5, 0), (5, 0), (5, 0), (0, 0), (5, 0), (5, 0), (5, 0), (5, 0), (5, 0), (5, 0), (5, 0), (0, 0), (0, 0), (0, 0), (5, 0), (5, 0), (0, 0), (5, 0), (5, 0), (5, 0), (0, 0)] : List (Nat × Nat)).set 15 (4, 93)))
def nS_187 : List bz_Sh := nS_186 ++ [.inl (0, 16, 0)]
def nS_188 : List bz_Sh := nS_187.set 81 (.inr (12, ([(0, 0), (4, 82), (0, 0), (4, 83), (4, 84), (4, 85), (4, 86), (4, 87), (4, 88), (4, 89), (4, 90), (4, 91), (0, 0), (0, 0), (4, 92), (4, 93), (5, 0), (5, 0), (5, 0), (0, 0), (0, 0), (5, 0), (5, 0), (5, 0), (5, 0), (5, 0), (5, 0), (0, 0), (5, 0), (5, 0), (5, 0), (5, 0), (5, 0), (5, 0), (5, 0), (0, 0), (5, 0), (0, 0), (0, 0), (0, 0), (0, 0), (5, 0), (5, 0), (0, 0), (5, 0), (5, 0), (5, 0), (5, 0), (5, 0), (5, 0), (5, 0), (5, 0), (5, 0), (5, 0), (5, 0), (5, 0), (5, 0), (5, 0), (5, 0), (5, 0), (5, 0), (0, 0), (5, 0), (5, 0), (5, 0), (5, 0), (5, 0), (5, 0), (5, 0), (0, 0), (0, 0), (0, 0), (5, 0), (5, 0), (0, 0), (5, 0), (5, 0), (5, 0), (0, 0)] : List (Nat × Nat)).set 16 (4, 94)))
def nS_189 : List bz_Sh := nS_188 ++ [.inl (0, 16, 0)]
def nS_190 : List bz_Sh := nS_189.set 81 (.inr (12, ([(0, 0), (4, 82), (0, 0), (4, 83), (4, 84), (4, 85), (4, 86), (4, 87), (4, 88), (4, 89), (4, 90), (4, 91), (0, 0), (0, 0), (4, 92), (4, 93), (4, 94), (5, 0), (5, 0), (0, 0), (0, 0), (5, 0), (5, 0), (5, 0), (5, 0), (5, 0), (5, 0), (0, 0), (5, 0), (5, 0), (5, 0), (5, 0), (5, 0), (5, 0), (5, 0), (0, 0), (5, 0), (0, 0), (0, 0), (0, 0), (0, 0), (5, 0), (5, 0), (0, 0), (5, 0), (5, 0), (5, 0), (5, 0), (5, 0), (5, 0), (5, 0), (5, 0), (5, 0), (5, 0), (5, 0), (5, 0), (5, 0), (5, 0), (5, 0), (5, 0), (5, 0), (0, 0), (5, 0), (5, 0), (5, 0), (5, 0), (5, 0), (5, 0), (5, 0), (0, 0), (0, 0), (0, 0), (5, 0), (5, 0), (0, 0), (5, 0), (5, 0), (5, 0), (0, 0)] : List (Nat × Nat)).set 17 (4, 95)))
def nS_191 : List bz_Sh := nS_190 ++ [.inl (0, 4, 0)]
def nS_192 : List bz_Sh := nS_191.set 81 (.inr (12, ([(0, 0), (4, 82), (0, 0), (4, 83), (4, 84), (4, 85), (4, 86), (4, 87), (4, 88), (4, 89), (4, 90), (4, 91), (0, 0), (0, 0), (4, 92), (4, 93), (4, 94), (4, 95), (5, 0), (0, 0), (0, 0), (5, 0), (5, 0), (5, 0), (5, 0), (5, 0), (5, 0), (0, 0), (5, 0), (5, 0), (5, 0), (5, 0), (5, 0), (5, 0), (5, 0), (0, 0), (5, 0), (0, 0), (0, 0), (0, 0), (0, 0), (5, 0), (5, 0), (0, 0), (5, 0), (5, 0), (5, 0), (5, 0), (5, 0), (5, 0), (5, 0), (5, 0), (5, 0), (5, 0), (5, 0), (5, 0), (5, 0), (5, 0), (5, 0), (5, 0), (5, 0), (0, 0), (5, 0), (5, 0), (5, 0), (5, 0), (5, 0), (5, 0), (5, 0), (0, 0), (0, 0), (0, 0), (5, 0), (5, 0), (0, 0), (5, 0), (5, 0), (5, 0), (0, 0)] : List (Nat × Nat)).set 18 (4, 96)))
def nS_193 : List bz_Sh := nS_192 ++ [.inl (0, 120, 0)]
def nS_194 : List bz_Sh := nS_193.set 81 (.inr (12, ([(0, 0), (4, 82), (0, 0), (4, 83), (4, 84), (4, 85), (4, 86), (4, 87), (4, 88), (4, 89), (4, 90), (4, 91), (0, 0), (0, 0), (4, 92), (4, 93), (4, 94), (4, 95), (4, 96), (0, 0), (0, 0), (5, 0), (5, 0), (5, 0), (5, 0), (5, 0), (5, 0), (0, 0), (5, 0), (5, 0), (5, 0), (5, 0), (5, 0), (5, 0), (5, 0), (0, 0), (5, 0), (0, 0), (0, 0), (0, 0), (0, 0), (5, 0), (5, 0), (0, 0), (5, 0), (5, 0), (5, 0), (5, 0), (5, 0), (5, 0), (5, 0), (5, 0), (5, 0), (5, 0), (5, 0), (5, 0), (5, 0), (5, 0), (5, 0), (5, 0), (5, 0), (0, 0), (5, 0), (5, 0), (5, 0), (5, 0), (5, 0), (5, 0), (5, 0), (0, 0), (0, 0), (0, 0), (5, 0), (5, 0), (0, 0), (5, 0), (5, 0), (5, 0), (0, 0)] : List (Nat × Nat)).set 21 (4, 97)))
def nS_195 : List bz_Sh := nS_194 ++ [.inl (0, 120, 0)]
def nS_196 : List bz_Sh := nS_195.set 81 (.inr (12, ([(0, 0), (4, 82), (0, 0), (4, 83), (4, 84), (4, 85), (4, 86), (4, 87), (4, 88), (4, 89), (4, 90), (4, 91), (0, 0), (0, 0), (4, 92), (4, 93), (4, 94), (4, 95), (4, 96), (0, 0), (0, 0), (4, 97), (5, 0), (5, 0), (5, 0), (5, 0), (5, 0), (0, 0), (5, 0), (5, 0), (5, 0), (5, 0), (5, 0), (5, 0), (5, 0), (0, 0), (5, 0), (0, 0), (0, 0), (0, 0), (0, 0), (5, 0), (5, 0), (0, 0), (5, 0), (5, 0), (5, 0), (5, 0), (5, 0), (5, 0), (5, 0), (5, 0), (5, 0), (5, 0), (5, 0), (5, 0), (5, 0), (5, 0), (5, 0), (5, 0), (5, 0), (0, 0), (5, 0), (5, 0), (5, 0), (5, 0), (5, 0), (5, 0), (5, 0), (0, 0), (0, 0), (0, 0), (5, 0), (5, 0), (0, 0), (5, 0), (5, 0), (5, 0), (0, 0)] : List (Nat × Nat)).set 22 (4, 98)))
def nS_197 : List bz_Sh := nS_196 ++ [.inl (0, 120, 0)]
def nS_198 : List bz_Sh := nS_197.set 81 (.inr (12, ([(0, 0), (4, 82), (0, 0), (4, 83), (4, 84), (4, 85), (4, 86), (4, 87), (4, 88), (4, 89), (4, 90), (4, 91), (0, 0), (0, 0), (4, 92), (4, 93), (4, 94), (4, 95), (4, 96), (0, 0), (0, 0), (4, 97), (4, 98), (5, 0), (5, 0), (5, 0), (5, 0), (0, 0), (5, 0), (5, 0), (5, 0), (5, 0), (5, 0), (5, 0), (5, 0), (0, 0), (5, 0), (0, 0), (0, 0), (0, 0), (0, 0), (5, 0), (5, 0), (0, 0), (5, 0), (5, 0), (5, 0), (5, 0), (5, 0), (5, 0), (5, 0), (5, 0), (5, 0), (5, 0), (5, 0), (5, 0), (5, 0), (5, 0), (5, 0), (5, 0), (5, 0), (0, 0), (5, 0), (5, 0), (5, 0), (5, 0), (5, 0), (5, 0), (5, 0), (0, 0), (0, 0), (0, 0), (5, 0), (5, 0), (0, 0), (5, 0), (5, 0), (5, 0), (0, 0)] : List (Nat × Nat)).set 23 (4, 99)))
def nS_199 : List bz_Sh := nS_198 ++ [.inl (0, 120, 0)]
def nS_200 : List bz_Sh := nS_199.set 81 (.inr (12, ([(0, 0), (4, 82), (0, 0), (4, 83), (4, 84), (4, 85), (4, 86), (4, 87), (4, 88), (4, 89), (4, 90), (4, 91), (0, 0), (0, 0), (4, 92), (4, 93), (4, 94), (4, 95), (4, 96), (0, 0), (0, 0), (4, 97), (4, 98), (4, 99), (5, 0), (5, 0), (5, 0), (0, 0), (5, 0), (5, 0), (5, 0), (5, 0), (5, 0), (5, 0), (5, 0), (0, 0), (5, 0), (0, 0), (0, 0), (0, 0), (0, 0), (5, 0), (5, 0), (0, 0), (5, 0), (5, 0), (5, 0), (5, 0), (5, 0), (5, 0), (5, 0), (5, 0), (5, 0), (5, 0), (5, 0), (5, 0), (5, 0), (5, 0), (5, 0), (5, 0), (5, 0), (0, 0), (5, 0), (5, 0), (5, 0), (5, 0), (5, 0), (5, 0), (5, 0), (0, 0), (0, 0), (0, 0), (5, 0), (5, 0), (0, 0), (5, 0), (5, 0), (5, 0), (0, 0)] : List (Nat × Nat)).set 24 (4, 100)))
def nS_201 : List bz_Sh := nS_200 ++ [.inl (0, 120, 0)]
def nS_202 : List bz_Sh := nS_201.set 81 (.inr (12, ([(0, 0), (4, 82), (0, 0), (4, 83), (4, 84), (4, 85), (4, 86), (4, 87), (4, 88), (4, 89), (4, 90), (4, 91), (0, 0), (0, 0), (4, 92), (4, 93), (4, 94), (4, 95), (4, 96), (0, 0), (0, 0), (4, 97), (4, 98), (4, 99), (4, 100), (5, 0), (5, 0), (0, 0), (5, 0), (5, 0), (5, 0), (5, 0), (5, 0), (5, 0), (5, 0), (0, 0), (5, 0), (0, 0), (0, 0), (0, 0), (0, 0), (5, 0), (5, 0), (0, 0), (5, 0), (5, 0), (5, 0), (5, 0), (5, 0), (5, 0), (5, 0), (5, 0), (5, 0), (5, 0), (5, 0), (5, 0), (5, 0), (5, 0), (5, 0), (5, 0), (5, 0), (0, 0), (5, 0), (5, 0), (5, 0), (5, 0), (5, 0), (5, 0), (5, 0), (0, 0), (0, 0), (0, 0), (5, 0), (5, 0), (0, 0), (5, 0), (5, 0), (5, 0), (0, 0)] : List (Nat × Nat)).set 25 (4, 101)))
def nS_203 : List bz_Sh := nS_202 ++ [.inl (0, 120, 0)]
def nS_204 : List bz_Sh := nS_203.set 81 (.inr (12, ([(0, 0), (4, 82), (0, 0), (4, 83), (4, 84), (4, 85), (4, 86), (4, 87), (4, 88), (4, 89), (4, 90), (4, 91), (0, 0), (0, 0), (4, 92), (4, 93), (4, 94), (4, 95), (4, 96), (0, 0), (0, 0), (4, 97), (4, 98), (4, 99), (4, 100), (4, 101), (5, 0), (0, 0), (5, 0), (5, 0), (5, 0), (5, 0), (5, 0), (5, 0), (5, 0), (0, 0), (5, 0), (0, 0), (0, 0), (0, 0), (0, 0), (5, 0), (5, 0), (0, 0), (5, 0), (5, 0), (5, 0), (5, 0), (5, 0), (5, 0), (5, 0), (5, 0), (5, 0), (5, 0), (5, 0), (5, 0), (5, 0), (5, 0), (5, 0), (5, 0), (5, 0), (0, 0), (5, 0), (5, 0), (5, 0), (5, 0), (5, 0), (5, 0), (5, 0), (0, 0), (0, 0), (0, 0), (5, 0), (5, 0), (0, 0), (5, 0), (5, 0), (5, 0), (0, 0)] : List (Nat × Nat)).set 26 (4, 102)))
def nS_205 : List bz_Sh := nS_204 ++ [.inl (0, 200, 0)]
def nS_206 : List bz_Sh := nS_205.set 81 (.inr (12, ([(0, 0), (4, 82), (0, 0), (4, 83), (4, 84), (4, 85), (4, 86), (4, 87), (4, 88), (4, 89), (4, 90), (4, 91), (0, 0), (0, 0), (4, 92), (4, 93), (4, 94), (4, 95), (4, 96), (0, 0), (0, 0), (4, 97), (4, 98), (4, 99), (4, 100), (4, 101), (4, 102), (0, 0), (5, 0), (5, 0), (5, 0), (5, 0), (5, 0), (5, 0), (5, 0), (0, 0), (5, 0), (0, 0), (0, 0), (0, 0), (0, 0), (5, 0), (5, 0), (0, 0), (5, 0), (5, 0), (5, 0), (5, 0), (5, 0), (5, 0), (5, 0), (5, 0), (5, 0), (5, 0), (5, 0), (5, 0), (5, 0), (5, 0), (5, 0), (5, 0), (5, 0), (0, 0), (5, 0), (5, 0), (5, 0), (5, 0), (5, 0), (5, 0), (5, 0), (0, 0), (0, 0), (0, 0), (5, 0), (5, 0), (0, 0), (5, 0), (5, 0), (5, 0), (0, 0)] : List (Nat × Nat)).set 28 (4, 103)))
def nS_207 : List bz_Sh := nS_206 ++ [.inl (0, 200, 0)]
def nS_208 : List bz_Sh := nS_207.set 81 (.inr (12, ([(0, 0), (4, 82), (0, 0), (4, 83), (4, 84), (4, 85), (4, 86), (4, 87), (4, 88), (4, 89), (4, 90), (4, 91), (0, 0), (0, 0), (4, 92), (4, 93), (4, 94), (4, 95), (4, 96), (0, 0), (0, 0), (4, 97), (4, 98), (4, 99), (4, 100), (4, 101), (4, 102), (0, 0), (4, 103), (5, 0), (5, 0), (5, 0), (5, 0), (5, 0), (5, 0), (0, 0), (5, 0), (0, 0), (0, 0), (0, 0), (0, 0), (5, 0), (5, 0), (0, 0), (5, 0), (5, 0), (5, 0), (5, 0), (5, 0), (5, 0), (5, 0), (5, 0), (5, 0), (5, 0), (5, 0), (5, 0), (5, 0), (5, 0), (5, 0), (5, 0), (5, 0), (0, 0), (5, 0), (5, 0), (5, 0), (5, 0), (5, 0), (5, 0), (5, 0), (0, 0), (0, 0), (0, 0), (5, 0), (5, 0), (0, 0), (5, 0), (5, 0), (5, 0), (0, 0)] : List (Nat × Nat)).set 29 (4, 104)))
def nS_209 : List bz_Sh := nS_208 ++ [.inl (0, 200, 0)]
def nS_210 : List bz_Sh := nS_209.set 81 (.inr (12, ([(0, 0), (4, 82), (0, 0), (4, 83), (4, 84), (4, 85), (4, 86), (4, 87), (4, 88), (4, 89), (4, 90), (4, 91), (0, 0), (0, 0), (4, 92), (4, 93), (4, 94), (4, 95), (4, 96), (0, 0), (0, 0), (4, 97), (4, 98), (4, 99), (4, 100), (4, 101), (4, 102), (0, 0), (4, 103), (4, 104), (5, 0), (5, 0), (5, 0), (5, 0), (5, 0), (0, 0), (5, 0), (0, 0), (0, 0), (0, 0), (0, 0), (5, 0), (5, 0), (0, 0), (5, 0), (5, 0), (5, 0), (5, 0), (5, 0), (5, 0), (5, 0), (5, 0), (5, 0), (5, 0), (5, 0), (5, 0), (5, 0), (5, 0), (5, 0), (5, 0), (5, 0), (0, 0), (5, 0), (5, 0), (5, 0), (5, 0), (5, 0), (5, 0), (5, 0), (0, 0), (0, 0), (0, 0), (5, 0), (5, 0), (0, 0), (5, 0), (5, 0), (5, 0), (0, 0)] : List (Nat × Nat)).set 30 (4, 105)))
def nS_211 : List bz_Sh := nS_210 ++ [.inl (0, 200, 0)]
def nS_212 : List bz_Sh := nS_211.set 81 (.inr (12, ([(0, 0), (4, 82), (0, 0), (4, 83), (4, 84), (4, 85), (4, 86), (4, 87), (4, 88), (4, 89), (4, 90), (4, 91), (0, 0), (0, 0), (4, 92), (4, 93), (4, 94), (4, 95), (4, 96), (0, 0), (0, 0), (4, 97), (4, 98), (4, 99), (4, 100), (4, 101), (4, 102), (0, 0), (4, 103), (4, 104), (4, 105), (5, 0), (5, 0), (5, 0), (5, 0), (0, 0), (5, 0), (0, 0), (0, 0), (0, 0), (0, 0), (5, 0), (5, 0), (0, 0), (5, 0), (5, 0), (5, 0), (5, 0), (5, 0), (5, 0), (5, 0), (5, 0), (5, 0), (5, 0), (5, 0), (5, 0), (5, 0), (5, 0), (5, 0), (5, 0), (5, 0), (0, 0), (5, 0), (5, 0), (5, 0), (5, 0), (5, 0), (5, 0), (5, 0), (0, 0), (0, 0), (0, 0), (5, 0), (5, 0), (0, 0), (5, 0), (5, 0), (5, 0), (0, 0)] : List (Nat × Nat)).set 31 (4, 106)))
def nS_213 : List bz_Sh := nS_212 ++ [.inl (0, 200, 0)]
def nS_214 : List bz_Sh := nS_213.set 81 (.inr (12, ([(0, 0), (4, 82), (0, 0), (4, 83), (4, 84), (4, 85), (4, 86), (4, 87), (4, 88), (4, 89), (4, 90), (4, 91), (0, 0), (0, 0), (4, 92), (4, 93), (4, 94), (4, 95), (4, 96), (0, 0), (0, 0), (4, 97), (4, 98), (4, 99), (4, 100), (4, 101), (4, 102), (0, 0), (4, 103), (4, 104), (4, 105), (4, 106), (5, 0), (5, 0), (5, 0), (0, 0), (5, 0), (0, 0), (0, 0), (0, 0), (0, 0), (5, 0), (5, 0), (0, 0), (5, 0), (5, 0), (5, 0), (5, 0), (5, 0), (5, 0), (5, 0), (5, 0), (5, 0), (5, 0), (5, 0), (5, 0), (5, 0), (5, 0), (5, 0), (5, 0), (5, 0), (0, 0), (5, 0), (5, 0), (5, 0), (5, 0), (5, 0), (5, 0), (5, 0), (0, 0), (0, 0), (0, 0), (5, 0), (5, 0), (0, 0), (5, 0), (5, 0), (5, 0), (0, 0)] : List (Nat × Nat)).set 32 (4, 107)))
def nS_215 : List bz_Sh := nS_214 ++ [.inl (2, 200, 0)]
def nS_216 : List bz_Sh := nS_215.set 81 (.inr (12, ([(0, 0), (4, 82), (0, 0), (4, 83), (4, 84), (4, 85), (4, 86), (4, 87), (4, 88), (4, 89), (4, 90), (4, 91), (0, 0), (0, 0), (4, 92), (4, 93), (4, 94), (4, 95), (4, 96), (0, 0), (0, 0), (4, 97), (4, 98), (4, 99), (4, 100), (4, 101), (4, 102), (0, 0), (4, 103), (4, 104), (4, 105), (4, 106), (4, 107), (5, 0), (5, 0), (0, 0), (5, 0), (0, 0), (0, 0), (0, 0), (0, 0), (5, 0), (5, 0), (0, 0), (5, 0), (5, 0), (5, 0), (5, 0), (5, 0), (5, 0), (5, 0), (5, 0), (5, 0), (5, 0), (5, 0), (5, 0), (5, 0), (5, 0), (5, 0), (5, 0), (5, 0), (0, 0), (5, 0), (5, 0), (5, 0), (5, 0), (5, 0), (5, 0), (5, 0), (0, 0), (0, 0), (0, 0), (5, 0), (5, 0), (0, 0), (5, 0), (5, 0), (5, 0), (0, 0)] : List (Nat × Nat)).set 33 (4, 108)))
def nS_217 : List bz_Sh := nS_216 ++ [.inl (1, 200, 0)]
def nS_218 : List bz_Sh := nS_217.set 81 (.inr (12, ([(0, 0), (4, 82), (0, 0), (4, 83), (4, 84), (4, 85), (4, 86), (4, 87), (4, 88), (4, 89), (4, 90), (4, 91), (0, 0), (0, 0), (4, 92), (4, 93), (4, 94), (4, 95), (4, 96), (0, 0), (0, 0), (4, 97), (4, 98), (4, 99), (4, 100), (4, 101), (4, 102), (0, 0), (4, 103), (4, 104), (4, 105), (4, 106), (4, 107), (4, 108), (5, 0), (0, 0), (5, 0), (0, 0), (0, 0), (0, 0), (0, 0), (5, 0), (5, 0), (0, 0), (5, 0), (5, 0), (5, 0), (5, 0), (5, 0), (5, 0), (5, 0), (5, 0), (5, 0), (5, 0), (5, 0), (5, 0), (5, 0), (5, 0), (5, 0), (5, 0), (5, 0), (0, 0), (5, 0), (5, 0), (5, 0), (5, 0), (5, 0), (5, 0), (5, 0), (0, 0), (0, 0), (0, 0), (5, 0), (5, 0), (0, 0), (5, 0), (5, 0), (5, 0), (0, 0)] : List (Nat × Nat)).set 34 (4, 109)))
def nS_219 : List bz_Sh := nS_218 ++ [.inl (3, 600, 0)]
def nS_220 : List bz_Sh := nS_219.set 81 (.inr (12, ([(0, 0), (4, 82), (0, 0), (4, 83), (4, 84), (4, 85), (4, 86), (4, 87), (4, 88), (4, 89), (4, 90), (4, 91), (0, 0), (0, 0), (4, 92), (4, 93), (4, 94), (4, 95), (4, 96), (0, 0), (0, 0), (4, 97), (4, 98), (4, 99), (4, 100), (4, 101), (4, 102), (0, 0), (4, 103), (4, 104), (4, 105), (4, 106), (4, 107), (4, 108), (4, 109), (0, 0), (5, 0), (0, 0), (0, 0), (0, 0), (0, 0), (5, 0), (5, 0), (0, 0), (5, 0), (5, 0), (5, 0), (5, 0), (5, 0), (5, 0), (5, 0), (5, 0), (5, 0), (5, 0), (5, 0), (5, 0), (5, 0), (5, 0), (5, 0), (5, 0), (5, 0), (0, 0), (5, 0), (5, 0), (5, 0), (5, 0), (5, 0), (5, 0), (5, 0), (0, 0), (0, 0), (0, 0), (5, 0), (5, 0), (0, 0), (5, 0), (5, 0), (5, 0), (0, 0)] : List (Nat × Nat)).set 36 (4, 110)))
def nS_221 : List bz_Sh := nS_220 ++ n3_S
def nS_222 : List bz_Sh := nS_221.set 81 (.inr (12, ([(0, 0), (4, 82), (0, 0), (4, 83), (4, 84), (4, 85), (4, 86), (4, 87), (4, 88), (4, 89), (4, 90), (4, 91), (0, 0), (0, 0), (4, 92), (4, 93), (4, 94), (4, 95), (4, 96), (0, 0), (0, 0), (4, 97), (4, 98), (4, 99), (4, 100), (4, 101), (4, 102), (0, 0), (4, 103), (4, 104), (4, 105), (4, 106), (4, 107), (4, 108), (4, 109), (0, 0), (4, 110), (0, 0), (0, 0), (0, 0), (0, 0), (5, 0), (5, 0), (0, 0), (5, 0), (5, 0), (5, 0), (5, 0), (5, 0), (5, 0), (5, 0), (5, 0), (5, 0), (5, 0), (5, 0), (5, 0), (5, 0), (5, 0), (5, 0), (5, 0), (5, 0), (0, 0), (5, 0), (5, 0), (5, 0), (5, 0), (5, 0), (5, 0), (5, 0), (0, 0), (0, 0), (0, 0), (5, 0), (5, 0), (0, 0), (5, 0), (5, 0), (5, 0), (0, 0)] : List (Nat × Nat)).set 41 (4, 111)))
def nS_223 : List bz_Sh := nS_222 ++ [.inl (0, 6, 0)]
def nS_224 : List bz_Sh := nS_223.set 81 (.inr (12, ([(0, 0), (4, 82), (0, 0), (4, 83), (4, 84), (4, 85), (4, 86), (4, 87), (4, 88), (4, 89), (4, 90), (4, 91), (0, 0), (0, 0), (4, 92), (4, 93), (4, 94), (4, 95), (4, 96), (0, 0), (0, 0), (4, 97), (4, 98), (4, 99), (4, 100), (4, 101), (4, 102), (0, 0), (4, 103), (4, 104), (4, 105), (4, 106), (4, 107), (4, 108), (4, 109), (0, 0), (4, 110), (0, 0), (0, 0), (0, 0), (0, 0), (4, 111), (5, 0), (0, 0), (5, 0), (5, 0), (5, 0), (5, 0), (5, 0), (5, 0), (5, 0), (5, 0), (5, 0), (5, 0), (5, 0), (5, 0), (5, 0), (5, 0), (5, 0), (5, 0), (5, 0), (0, 0), (5, 0), (5, 0), (5, 0), (5, 0), (5, 0), (5, 0), (5, 0), (0, 0), (0, 0), (0, 0), (5, 0), (5, 0), (0, 0), (5, 0), (5, 0), (5, 0), (0, 0)] : List (Nat × Nat)).set 42 (4, 154)))
def nS_225 : List bz_Sh := nS_224 ++ [.inl (0, 12, 0)]
def mM_4 : bz_Mm := st_ mM_3 (bn_id 155) (w32 0).toNat 0
def mM_5 : bz_Mm := st_ mM_4 (bn_id 155) (w32 1).toNat 0
def mM_6 : bz_Mm := st_ mM_5 (bn_id 155) (w32 2).toNat 10000
def mM_7 : bz_Mm := st_ mM_6 (bn_id 155) (w32 3).toNat 24
def mM_8 : bz_Mm := st_ mM_7 (bn_id 155) (w32 4).toNat 0
def mM_9 : bz_Mm := st_ mM_8 (bn_id 155) (w32 5).toNat 0
def mM_10 : bz_Mm := st_ mM_9 (bn_id 155) (w32 6).toNat 0
def mM_11 : bz_Mm := st_ mM_10 (bn_id 155) (w32 7).toNat (-1)
def mM_12 : bz_Mm := st_ mM_11 (bn_id 155) (w32 8).toNat 300
def mM_13 : bz_Mm := st_ mM_12 (bn_id 155) (w32 9).toNat 0
def mM_14 : bz_Mm := st_ mM_13 (bn_id 155) (w32 10).toNat 0
def mM_15 : bz_Mm := st_ mM_14 (bn_id 155) (w32 11).toNat 0
def nS_226 : List bz_Sh := nS_225.set 81 (.inr (12, ([(0, 0), (4, 82), (0, 0), (4, 83), (4, 84), (4, 85), (4, 86), (4, 87), (4, 88), (4, 89), (4, 90), (4, 91), (0, 0), (0, 0), (4, 92), (4, 93), (4, 94), (4, 95), (4, 96), (0, 0), (0, 0), (4, 97), (4, 98), (4, 99), (4, 100), (4, 101), (4, 102), (0, 0), (4, 103), (4, 104), (4, 105), (4, 106), (4, 107), (4, 108), (4, 109), (0, 0), (4, 110), (0, 0), (0, 0), (0, 0), (0, 0), (4, 111), (4, 154), (0, 0), (5, 0), (5, 0), (5, 0), (5, 0), (5, 0), (5, 0), (5, 0), (5, 0), (5, 0), (5, 0), (5, 0), (5, 0), (5, 0), (5, 0), (5, 0), (5, 0), (5, 0), (0, 0), (5, 0), (5, 0), (5, 0), (5, 0), (5, 0), (5, 0), (5, 0), (0, 0), (0, 0), (0, 0), (5, 0), (5, 0), (0, 0), (5, 0), (5, 0), (5, 0), (0, 0)] : List (Nat × Nat)).set 44 (4, 155)))
def nS_227 : List bz_Sh := nS_226 ++ [.inl (7, 3, 900)]
def nS_228 : List bz_Sh := nS_227.set 81 (.inr (12, ([(0, 0), (4, 82), (0, 0), (4, 83), (4, 84), (4, 85), (4, 86), (4, 87), (4, 88), (4, 89), (4, 90), (4, 91), (0, 0), (0, 0), (4, 92), (4, 93), (4, 94), (4, 95), (4, 96), (0, 0), (0, 0), (4, 97), (4, 98), (4, 99), (4, 100), (4, 101), (4, 102), (0, 0), (4, 103), (4, 104), (4, 105), (4, 106), (4, 107), (4, 108), (4, 109), (0, 0), (4, 110), (0, 0), (0, 0), (0, 0), (0, 0), (4, 111), (4, 154), (0, 0), (4, 155), (5, 0), (5, 0), (5, 0), (5, 0), (5, 0), (5, 0), (5, 0), (5, 0), (5, 0), (5, 0), (5, 0), (5, 0), (5, 0), (5, 0), (5, 0), (5, 0), (0, 0), (5, 0), (5, 0), (5, 0), (5, 0), (5, 0), (5, 0), (5, 0), (0, 0), (0, 0), (0, 0), (5, 0), (5, 0), (0, 0), (5, 0), (5, 0), (5, 0), (0, 0)] : List (Nat × Nat)).set 45 (4, 156)))
def nS_229 : List bz_Sh := nS_228 ++ (.inl (4, 8, 158) :: List.replicate 8 (.inl (0, 260, 0)))
def nS_230 : List bz_Sh := nS_229.set 81 (.inr (12, ([(0, 0), (4, 82), (0, 0), (4, 83), (4, 84), (4, 85), (4, 86), (4, 87), (4, 88), (4, 89), (4, 90), (4, 91), (0, 0), (0, 0), (4, 92), (4, 93), (4, 94), (4, 95), (4, 96), (0, 0), (0, 0), (4, 97), (4, 98), (4, 99), (4, 100), (4, 101), (4, 102), (0, 0), (4, 103), (4, 104), (4, 105), (4, 106), (4, 107), (4, 108), (4, 109), (0, 0), (4, 110), (0, 0), (0, 0), (0, 0), (0, 0), (4, 111), (4, 154), (0, 0), (4, 155), (4, 156), (5, 0), (5, 0), (5, 0), (5, 0), (5, 0), (5, 0), (5, 0), (5, 0), (5, 0), (5, 0), (5, 0), (5, 0), (5, 0), (5, 0), (5, 0), (0, 0), (5, 0), (5, 0), (5, 0), (5, 0), (5, 0), (5, 0), (5, 0), (0, 0), (0, 0), (0, 0), (5, 0), (5, 0), (0, 0), (5, 0), (5, 0), (5, 0), (0, 0)] : List (Nat × Nat)).set 46 (4, 157)))
def nS_231 : List bz_Sh := nS_230 ++ (.inl (4, 3, 167) :: List.replicate 3 (.inl (0, 260, 0)))
def nS_232 : List bz_Sh := nS_231.set 81 (.inr (12, ([(0, 0), (4, 82), (0, 0), (4, 83), (4, 84), (4, 85), (4, 86), (4, 87), (4, 88), (4, 89), (4, 90), (4, 91), (0, 0), (0, 0), (4, 92), (4, 93), (4, 94), (4, 95), (4, 96), (0, 0), (0, 0), (4, 97), (4, 98), (4, 99), (4, 100), (4, 101), (4, 102), (0, 0), (4, 103), (4, 104), (4, 105), (4, 106), (4, 107), (4, 108), (4, 109), (0, 0), (4, 110), (0, 0), (0, 0), (0, 0), (0, 0), (4, 111), (4, 154), (0, 0), (4, 155), (4, 156), (4, 157), (5, 0), (5, 0), (5, 0), (5, 0), (5, 0), (5, 0), (5, 0), (5, 0), (5, 0), (5, 0), (5, 0), (5, 0), (5, 0), (5, 0), (0, 0), (5, 0), (5, 0), (5, 0), (5, 0), (5, 0), (5, 0), (5, 0), (0, 0), (0, 0), (0, 0), (5, 0), (5, 0), (0, 0), (5, 0), (5, 0), (5, 0), (0, 0)] : List (Nat × Nat)).set 47 (4, 166)))
def nS_233 : List bz_Sh := nS_232 ++ (.inl (4, 8, 171) :: List.replicate 8 (.inl (0, 260, 0)))
def nS_234 : List bz_Sh := nS_233.set 81 (.inr (12, ([(0, 0), (4, 82), (0, 0), (4, 83), (4, 84), (4, 85), (4, 86), (4, 87), (4, 88), (4, 89), (4, 90), (4, 91), (0, 0), (0, 0), (4, 92), (4, 93), (4, 94), (4, 95), (4, 96), (0, 0), (0, 0), (4, 97), (4, 98), (4, 99), (4, 100), (4, 101), (4, 102), (0, 0), (4, 103), (4, 104), (4, 105), (4, 106), (4, 107), (4, 108), (4, 109), (0, 0), (4, 110), (0, 0), (0, 0), (0, 0), (0, 0), (4, 111), (4, 154), (0, 0), (4, 155), (4, 156), (4, 157), (4, 166), (5, 0), (5, 0), (5, 0), (5, 0), (5, 0), (5, 0), (5, 0), (5, 0), (5, 0), (5, 0), (5, 0), (5, 0), (5, 0), (0, 0), (5, 0), (5, 0), (5, 0), (5, 0), (5, 0), (5, 0), (5, 0), (0, 0), (0, 0), (0, 0), (5, 0), (5, 0), (0, 0), (5, 0), (5, 0), (5, 0), (0, 0)] : List (Nat × Nat)).set 48 (4, 170)))
def nS_235 : List bz_Sh := nS_234 ++ (.inl (4, 8, 180) :: List.replicate 8 (.inl (0, 260, 0)))
def nS_236 : List bz_Sh := nS_235.set 81 (.inr (12, ([(0, 0), (4, 82), (0, 0), (4, 83), (4, 84), (4, 85), (4, 86), (4, 87), (4, 88), (4, 89), (4, 90), (4, 91), (0, 0), (0, 0), (4, 92), (4, 93), (4, 94), (4, 95), (4, 96), (0, 0), (0, 0), (4, 97), (4, 98), (4, 99), (4, 100), (4, 101), (4, 102), (0, 0), (4, 103), (4, 104), (4, 105), (4, 106), (4, 107), (4, 108), (4, 109), (0, 0), (4, 110), (0, 0), (0, 0), (0, 0), (0, 0), (4, 111), (4, 154), (0, 0), (4, 155), (4, 156), (4, 157), (4, 166), (4, 170), (5, 0), (5, 0), (5, 0), (5, 0), (5, 0), (5, 0), (5, 0), (5, 0), (5, 0), (5, 0), (5, 0), (5, 0), (0, 0), (5, 0), (5, 0), (5, 0), (5, 0), (5, 0), (5, 0), (5, 0), (0, 0), (0, 0), (0, 0), (5, 0), (5, 0), (0, 0), (5, 0), (5, 0), (5, 0), (0, 0)] : List (Nat × Nat)).set 49 (4, 179)))
def nS_237 : List bz_Sh := nS_236 ++ [.inl (1, 4, 0)]
def nS_238 : List bz_Sh := nS_237.set 81 (.inr (12, ([(0, 0), (4, 82), (0, 0), (4, 83), (4, 84), (4, 85), (4, 86), (4, 87), (4, 88), (4, 89), (4, 90), (4, 91), (0, 0), (0, 0), (4, 92), (4, 93), (4, 94), (4, 95), (4, 96), (0, 0), (0, 0), (4, 97), (4, 98), (4, 99), (4, 100), (4, 101), (4, 102), (0, 0), (4, 103), (4, 104), (4, 105), (4, 106), (4, 107), (4, 108), (4, 109), (0, 0), (4, 110), (0, 0), (0, 0), (0, 0), (0, 0), (4, 111), (4, 154), (0, 0), (4, 155), (4, 156), (4, 157), (4, 166), (4, 170), (4, 179), (5, 0), (5, 0), (5, 0), (5, 0), (5, 0), (5, 0), (5, 0), (5, 0), (5, 0), (5, 0), (5, 0), (0, 0), (5, 0), (5, 0), (5, 0), (5, 0), (5, 0), (5, 0), (5, 0), (0, 0), (0, 0), (0, 0), (5, 0), (5, 0), (0, 0), (5, 0), (5, 0), (5, 0), (0, 0)] : List (Nat × Nat)).set 50 (4, 188)))
def nS_239 : List bz_Sh := nS_238 ++ [.inl (1, 200, 0)]
def nS_240 : List bz_Sh := nS_239.set 81 (.inr (12, ([(0, 0), (4, 82), (0, 0), (4, 83), (4, 84), (4, 85), (4, 86), (4, 87), (4, 88), (4, 89), (4, 90), (4, 91), (0, 0), (0, 0), (4, 92), (4, 93), (4, 94), (4, 95), (4, 96), (0, 0), (0, 0), (4, 97), (4, 98), (4, 99), (4, 100), (4, 101), (4, 102), (0, 0), (4, 103), (4, 104), (4, 105), (4, 106), (4, 107), (4, 108), (4, 109), (0, 0), (4, 110), (0, 0), (0, 0), (0, 0), (0, 0), (4, 111), (4, 154), (0, 0), (4, 155), (4, 156), (4, 157), (4, 166), (4, 170), (4, 179), (4, 188), (5, 0), (5, 0), (5, 0), (5, 0), (5, 0), (5, 0), (5, 0), (5, 0), (5, 0), (5, 0), (0, 0), (5, 0), (5, 0), (5, 0), (5, 0), (5, 0), (5, 0), (5, 0), (0, 0), (0, 0), (0, 0), (5, 0), (5, 0), (0, 0), (5, 0), (5, 0), (5, 0), (0, 0)] : List (Nat × Nat)).set 51 (4, 189)))
def nS_241 : List bz_Sh := nS_240 ++ (.inl (5, 4, 191) :: List.replicate 4 (.inl (1, 8, 0)))
def nS_242 : List bz_Sh := nS_241.set 81 (.inr (12, ([(0, 0), (4, 82), (0, 0), (4, 83), (4, 84), (4, 85), (4, 86), (4, 87), (4, 88), (4, 89), (4, 90), (4, 91), (0, 0), (0, 0), (4, 92), (4, 93), (4, 94), (4, 95), (4, 96), (0, 0), (0, 0), (4, 97), (4, 98), (4, 99), (4, 100), (4, 101), (4, 102), (0, 0), (4, 103), (4, 104), (4, 105), (4, 106), (4, 107), (4, 108), (4, 109), (0, 0), (4, 110), (0, 0), (0, 0), (0, 0), (0, 0), (4, 111), (4, 154), (0, 0), (4, 155), (4, 156), (4, 157), (4, 166), (4, 170), (4, 179), (4, 188), (4, 189), (5, 0), (5, 0), (5, 0), (5, 0), (5, 0), (5, 0), (5, 0), (5, 0), (5, 0), (0, 0), (5, 0), (5, 0), (5, 0), (5, 0), (5, 0), (5, 0), (5, 0), (0, 0), (0, 0), (0, 0), (5, 0), (5, 0), (0, 0), (5, 0), (5, 0), (5, 0), (0, 0)] : List (Nat × Nat)).set 52 (4, 190)))
def nS_243 : List bz_Sh := nS_242 ++ (.inl (5, 4, 196) :: List.replicate 4 (.inl (1, 260, 0)))
def nS_244 : List bz_Sh := nS_243.set 81 (.inr (12, ([(0, 0), (4, 82), (0, 0), (4, 83), (4, 84), (4, 85), (4, 86), (4, 87), (4, 88), (4, 89), (4, 90), (4, 91), (0, 0), (0, 0), (4, 92), (4, 93), (4, 94), (4, 95), (4, 96), (0, 0), (0, 0), (4, 97), (4, 98), (4, 99), (4, 100), (4, 101), (4, 102), (0, 0), (4, 103), (4, 104), (4, 105), (4, 106), (4, 107), (4, 108), (4, 109), (0, 0), (4, 110), (0, 0), (0, 0), (0, 0), (0, 0), (4, 111), (4, 154), (0, 0), (4, 155), (4, 156), (4, 157), (4, 166), (4, 170), (4, 179), (4, 188), (4, 189), (4, 190), (5, 0), (5, 0), (5, 0), (5, 0), (5, 0), (5, 0), (5, 0), (5, 0), (0, 0), (5, 0), (5, 0), (5, 0), (5, 0), (5, 0), (5, 0), (5, 0), (0, 0), (0, 0), (0, 0), (5, 0), (5, 0), (0, 0), (5, 0), (5, 0), (5, 0), (0, 0)] : List (Nat × Nat)).set 53 (4, 195)))
def nS_245 : List bz_Sh := nS_244 ++ (.inl (5, 4, 201) :: List.replicate 4 (.inl (1, 260, 0)))
def nS_246 : List bz_Sh := nS_245.set 81 (.inr (12, ([(0, 0), (4, 82), (0, 0), (4, 83), (4, 84), (4, 85), (4, 86), (4, 87), (4, 88), (4, 89), (4, 90), (4, 91), (0, 0), (0, 0), (4, 92), (4, 93), (4, 94), (4, 95), (4, 96), (0, 0), (0, 0), (4, 97), (4, 98), (4, 99), (4, 100), (4, 101), (4, 102), (0, 0), (4, 103), (4, 104), (4, 105), (4, 106), (4, 107), (4, 108), (4, 109), (0, 0), (4, 110), (0, 0), (0, 0), (0, 0), (0, 0), (4, 111), (4, 154), (0, 0), (4, 155), (4, 156), (4, 157), (4, 166), (4, 170), (4, 179), (4, 188), (4, 189), (4, 190), (4, 195), (5, 0), (5, 0), (5, 0), (5, 0), (5, 0), (5, 0), (5, 0), (0, 0), (5, 0), (5, 0), (5, 0), (5, 0), (5, 0), (5, 0), (5, 0), (0, 0), (0, 0), (0, 0), (5, 0), (5, 0), (0, 0), (5, 0), (5, 0), (5, 0), (0, 0)] : List (Nat × Nat)).set 54 (4, 200)))
def nS_247 : List bz_Sh := nS_246 ++ (.inl (5, 4, 206) :: List.replicate 4 (.inl (1, 20, 0)))
def nS_248 : List bz_Sh := nS_247.set 81 (.inr (12, ([(0, 0), (4, 82), (0, 0), (4, 83), (4, 84), (4, 85), (4, 86), (4, 87), (4, 88), (4, 89), (4, 90), (4, 91), (0, 0), (0, 0), (4, 92), (4, 93), (4, 94), (4, 95), (4, 96), (0, 0), (0, 0), (4, 97), (4, 98), (4, 99), (4, 100), (4, 101), (4, 102), (0, 0), (4, 103), (4, 104), (4, 105), (4, 106), (4, 107), (4, 108), (4, 109), (0, 0), (4, 110), (0, 0), (0, 0), (0, 0), (0, 0), (4, 111), (4, 154), (0, 0), (4, 155), (4, 156), (4, 157), (4, 166), (4, 170), (4, 179), (4, 188), (4, 189), (4, 190), (4, 195), (4, 200), (5, 0), (5, 0), (5, 0), (5, 0), (5, 0), (5, 0), (0, 0), (5, 0), (5, 0), (5, 0), (5, 0), (5, 0), (5, 0), (5, 0), (0, 0), (0, 0), (0, 0), (5, 0), (5, 0), (0, 0), (5, 0), (5, 0), (5, 0), (0, 0)] : List (Nat × Nat)).set 55 (4, 205)))
def nS_249 : List bz_Sh := nS_248 ++ [.inl (1, 4, 0)]
def nS_250 : List bz_Sh := nS_249.set 81 (.inr (12, ([(0, 0), (4, 82), (0, 0), (4, 83), (4, 84), (4, 85), (4, 86), (4, 87), (4, 88), (4, 89), (4, 90), (4, 91), (0, 0), (0, 0), (4, 92), (4, 93), (4, 94), (4, 95), (4, 96), (0, 0), (0, 0), (4, 97), (4, 98), (4, 99), (4, 100), (4, 101), (4, 102), (0, 0), (4, 103), (4, 104), (4, 105), (4, 106), (4, 107), (4, 108), (4, 109), (0, 0), (4, 110), (0, 0), (0, 0), (0, 0), (0, 0), (4, 111), (4, 154), (0, 0), (4, 155), (4, 156), (4, 157), (4, 166), (4, 170), (4, 179), (4, 188), (4, 189), (4, 190), (4, 195), (4, 200), (4, 205), (5, 0), (5, 0), (5, 0), (5, 0), (5, 0), (0, 0), (5, 0), (5, 0), (5, 0), (5, 0), (5, 0), (5, 0), (5, 0), (0, 0), (0, 0), (0, 0), (5, 0), (5, 0), (0, 0), (5, 0), (5, 0), (5, 0), (0, 0)] : List (Nat × Nat)).set 56 (4, 210)))
def nS_251 : List bz_Sh := nS_250 ++ (.inl (5, 4, 212) :: List.replicate 4 (.inl (1, 260, 0)))
def nS_252 : List bz_Sh := nS_251.set 81 (.inr (12, ([(0, 0), (4, 82), (0, 0), (4, 83), (4, 84), (4, 85), (4, 86), (4, 87), (4, 88), (4, 89), (4, 90), (4, 91), (0, 0), (0, 0), (4, 92), (4, 93), (4, 94), (4, 95), (4, 96), (0, 0), (0, 0), (4, 97), (4, 98), (4, 99), (4, 100), (4, 101), (4, 102), (0, 0), (4, 103), (4, 104), (4, 105), (4, 106), (4, 107), (4, 108), (4, 109), (0, 0), (4, 110), (0, 0), (0, 0), (0, 0), (0, 0), (4, 111), (4, 154), (0, 0), (4, 155), (4, 156), (4, 157), (4, 166), (4, 170), (4, 179), (4, 188), (4, 189), (4, 190), (4, 195), (4, 200), (4, 205), (4, 210), (5, 0), (5, 0), (5, 0), (5, 0), (0, 0), (5, 0), (5, 0), (5, 0), (5, 0), (5, 0), (5, 0), (5, 0), (0, 0), (0, 0), (0, 0), (5, 0), (5, 0), (0, 0), (5, 0), (5, 0), (5, 0), (0, 0)] : List (Nat × Nat)).set 57 (4, 211)))
def nS_253 : List bz_Sh := nS_252 ++ (.inl (5, 4, 217) :: List.replicate 4 (.inl (1, 260, 0)))
def nS_254 : List bz_Sh := nS_253.set 81 (.inr (12, ([(0, 0), (4, 82), (0, 0), (4, 83), (4, 84), (4, 85), (4, 86), (4, 87), (4, 88), (4, 89), (4, 90), (4, 91), (0, 0), (0, 0), (4, 92), (4, 93), (4, 94), (4, 95), (4, 96), (0, 0), (0, 0), (4, 97), (4, 98), (4, 99), (4, 100), (4, 101), (4, 102), (0, 0), (4, 103), (4, 104), (4, 105), (4, 106), (4, 107), (4, 108), (4, 109), (0, 0), (4, 110), (0, 0), (0, 0), (0, 0), (0, 0), (4, 111), (4, 154), (0, 0), (4, 155), (4, 156), (4, 157), (4, 166), (4, 170), (4, 179), (4, 188), (4, 189), (4, 190), (4, 195), (4, 200), (4, 205), (4, 210), (4, 211), (5, 0), (5, 0), (5, 0), (0, 0), (5, 0), (5, 0), (5, 0), (5, 0), (5, 0), (5, 0), (5, 0), (0, 0), (0, 0), (0, 0), (5, 0), (5, 0), (0, 0), (5, 0), (5, 0), (5, 0), (0, 0)] : List (Nat × Nat)).set 58 (4, 216)))
def nS_255 : List bz_Sh := nS_254 ++ [.inl (2, 260, 0)]
def nS_256 : List bz_Sh := nS_255.set 81 (.inr (12, ([(0, 0), (4, 82), (0, 0), (4, 83), (4, 84), (4, 85), (4, 86), (4, 87), (4, 88), (4, 89), (4, 90), (4, 91), (0, 0), (0, 0), (4, 92), (4, 93), (4, 94), (4, 95), (4, 96), (0, 0), (0, 0), (4, 97), (4, 98), (4, 99), (4, 100), (4, 101), (4, 102), (0, 0), (4, 103), (4, 104), (4, 105), (4, 106), (4, 107), (4, 108), (4, 109), (0, 0), (4, 110), (0, 0), (0, 0), (0, 0), (0, 0), (4, 111), (4, 154), (0, 0), (4, 155), (4, 156), (4, 157), (4, 166), (4, 170), (4, 179), (4, 188), (4, 189), (4, 190), (4, 195), (4, 200), (4, 205), (4, 210), (4, 211), (4, 216), (5, 0), (5, 0), (0, 0), (5, 0), (5, 0), (5, 0), (5, 0), (5, 0), (5, 0), (5, 0), (0, 0), (0, 0), (0, 0), (5, 0), (5, 0), (0, 0), (5, 0), (5, 0), (5, 0), (0, 0)] : List (Nat × Nat)).set 59 (4, 221)))
def nS_257 : List bz_Sh := nS_256 ++ [.inl (1, 20, 0)]
def nS_258 : List bz_Sh := nS_257.set 81 (.inr (12, ([(0, 0), (4, 82), (0, 0), (4, 83), (4, 84), (4, 85), (4, 86), (4, 87), (4, 88), (4, 89), (4, 90), (4, 91), (0, 0), (0, 0), (4, 92), (4, 93), (4, 94), (4, 95), (4, 96), (0, 0), (0, 0), (4, 97), (4, 98), (4, 99), (4, 100), (4, 101), (4, 102), (0, 0), (4, 103), (4, 104), (4, 105), (4, 106), (4, 107), (4, 108), (4, 109), (0, 0), (4, 110), (0, 0), (0, 0), (0, 0), (0, 0), (4, 111), (4, 154), (0, 0), (4, 155), (4, 156), (4, 157), (4, 166), (4, 170), (4, 179), (4, 188), (4, 189), (4, 190), (4, 195), (4, 200), (4, 205), (4, 210), (4, 211), (4, 216), (4, 221), (5, 0), (0, 0), (5, 0), (5, 0), (5, 0), (5, 0), (5, 0), (5, 0), (5, 0), (0, 0), (0, 0), (0, 0), (5, 0), (5, 0), (0, 0), (5, 0), (5, 0), (5, 0), (0, 0)] : List (Nat × Nat)).set 60 (4, 222)))
def nS_259 : List bz_Sh := nS_258 ++ [.inl (1, 20, 0)]
def nS_260 : List bz_Sh := nS_259.set 81 (.inr (12, ([(0, 0), (4, 82), (0, 0), (4, 83), (4, 84), (4, 85), (4, 86), (4, 87), (4, 88), (4, 89), (4, 90), (4, 91), (0, 0), (0, 0), (4, 92), (4, 93), (4, 94), (4, 95), (4, 96), (0, 0), (0, 0), (4, 97), (4, 98), (4, 99), (4, 100), (4, 101), (4, 102), (0, 0), (4, 103), (4, 104), (4, 105), (4, 106), (4, 107), (4, 108), (4, 109), (0, 0), (4, 110), (0, 0), (0, 0), (0, 0), (0, 0), (4, 111), (4, 154), (0, 0), (4, 155), (4, 156), (4, 157), (4, 166), (4, 170), (4, 179), (4, 188), (4, 189), (4, 190), (4, 195), (4, 200), (4, 205), (4, 210), (4, 211), (4, 216), (4, 221), (4, 222), (0, 0), (5, 0), (5, 0), (5, 0), (5, 0), (5, 0), (5, 0), (5, 0), (0, 0), (0, 0), (0, 0), (5, 0), (5, 0), (0, 0), (5, 0), (5, 0), (5, 0), (0, 0)] : List (Nat × Nat)).set 62 (4, 223)))
def nS_261 : List bz_Sh := nS_260 ++ [.inl (1, 20, 0)]
def nS_262 : List bz_Sh := nS_261.set 81 (.inr (12, ([(0, 0), (4, 82), (0, 0), (4, 83), (4, 84), (4, 85), (4, 86), (4, 87), (4, 88), (4, 89), (4, 90), (4, 91), (0, 0), (0, 0), (4, 92), (4, 93), (4, 94), (4, 95), (4, 96), (0, 0), (0, 0), (4, 97), (4, 98), (4, 99), (4, 100), (4, 101), (4, 102), (0, 0), (4, 103), (4, 104), (4, 105), (4, 106), (4, 107), (4, 108), (4, 109), (0, 0), (4, 110), (0, 0), (0, 0), (0, 0), (0, 0), (4, 111), (4, 154), (0, 0), (4, 155), (4, 156), (4, 157), (4, 166), (4, 170), (4, 179), (4, 188), (4, 189), (4, 190), (4, 195), (4, 200), (4, 205), (4, 210), (4, 211), (4, 216), (4, 221), (4, 222), (0, 0), (4, 223), (5, 0), (5, 0), (5, 0), (5, 0), (5, 0), (5, 0), (0, 0), (0, 0), (0, 0), (5, 0), (5, 0), (0, 0), (5, 0), (5, 0), (5, 0), (0, 0)] : List (Nat × Nat)).set 63 (4, 224)))
def nS_263 : List bz_Sh := nS_262 ++ [.inl (1, 20, 0)]
def nS_264 : List bz_Sh := nS_263.set 81 (.inr (12, ([(0, 0), (4, 82), (0, 0), (4, 83), (4, 84), (4, 85), (4, 86), (4, 87), (4, 88), (4, 89), (4, 90), (4, 91), (0, 0), (0, 0), (4, 92), (4, 93), (4, 94), (4, 95), (4, 96), (0, 0), (0, 0), (4, 97), (4, 98), (4, 99), (4, 100), (4, 101), (4, 102), (0, 0), (4, 103), (4, 104), (4, 105), (4, 106), (4, 107), (4, 108), (4, 109), (0, 0), (4, 110), (0, 0), (0, 0), (0, 0), (0, 0), (4, 111), (4, 154), (0, 0), (4, 155), (4, 156), (4, 157), (4, 166), (4, 170), (4, 179), (4, 188), (4, 189), (4, 190), (4, 195), (4, 200), (4, 205), (4, 210), (4, 211), (4, 216), (4, 221), (4, 222), (0, 0), (4, 223), (4, 224), (5, 0), (5, 0), (5, 0), (5, 0), (5, 0), (0, 0), (0, 0), (0, 0), (5, 0), (5, 0), (0, 0), (5, 0), (5, 0), (5, 0), (0, 0)] : List (Nat × Nat)).set 64 (4, 225)))
def nS_265 : List bz_Sh := nS_264 ++ [.inl (0, 20, 0)]
def nS_266 : List bz_Sh := nS_265.set 81 (.inr (12, ([(0, 0), (4, 82), (0, 0), (4, 83), (4, 84), (4, 85), (4, 86), (4, 87), (4, 88), (4, 89), (4, 90), (4, 91), (0, 0), (0, 0), (4, 92), (4, 93), (4, 94), (4, 95), (4, 96), (0, 0), (0, 0), (4, 97), (4, 98), (4, 99), (4, 100), (4, 101), (4, 102), (0, 0), (4, 103), (4, 104), (4, 105), (4, 106), (4, 107), (4, 108), (4, 109), (0, 0), (4, 110), (0, 0), (0, 0), (0, 0), (0, 0), (4, 111), (4, 154), (0, 0), (4, 155), (4, 156), (4, 157), (4, 166), (4, 170), (4, 179), (4, 188), (4, 189), (4, 190), (4, 195), (4, 200), (4, 205), (4, 210), (4, 211), (4, 216), (4, 221), (4, 222), (0, 0), (4, 223), (4, 224), (4, 225), (5, 0), (5, 0), (5, 0), (5, 0), (0, 0), (0, 0), (0, 0), (5, 0), (5, 0), (0, 0), (5, 0), (5, 0), (5, 0), (0, 0)] : List (Nat × Nat)).set 65 (4, 226)))
def nS_267 : List bz_Sh := nS_266 ++ [.inl (0, 8, 0)]
def nS_268 : List bz_Sh := nS_267.set 81 (.inr (12, ([(0, 0), (4, 82), (0, 0), (4, 83), (4, 84), (4, 85), (4, 86), (4, 87), (4, 88), (4, 89), (4, 90), (4, 91), (0, 0), (0, 0), (4, 92), (4, 93), (4, 94), (4, 95), (4, 96), (0, 0), (0, 0), (4, 97), (4, 98), (4, 99), (4, 100), (4, 101), (4, 102), (0, 0), (4, 103), (4, 104), (4, 105), (4, 106), (4, 107), (4, 108), (4, 109), (0, 0), (4, 110), (0, 0), (0, 0), (0, 0), (0, 0), (4, 111), (4, 154), (0, 0), (4, 155), (4, 156), (4, 157), (4, 166), (4, 170), (4, 179), (4, 188), (4, 189), (4, 190), (4, 195), (4, 200), (4, 205), (4, 210), (4, 211), (4, 216), (4, 221), (4, 222), (0, 0), (4, 223), (4, 224), (4, 225), (4, 226), (5, 0), (5, 0), (5, 0), (0, 0), (0, 0), (0, 0), (5, 0), (5, 0), (0, 0), (5, 0), (5, 0), (5, 0), (0, 0)] : List (Nat × Nat)).set 66 (4, 227)))
def nS_269 : List bz_Sh := nS_268 ++ [.inl (0, 8, 0)]
def nS_270 : List bz_Sh := nS_269.set 81 (.inr (12, ([(0, 0), (4, 82), (0, 0), (4, 83), (4, 84), (4, 85), (4, 86), (4, 87), (4, 88), (4, 89), (4, 90), (4, 91), (0, 0), (0, 0), (4, 92), (4, 93), (4, 94), (4, 95), (4, 96), (0, 0), (0, 0), (4, 97), (4, 98), (4, 99), (4, 100), (4, 101), (4, 102), (0, 0), (4, 103), (4, 104), (4, 105), (4, 106), (4, 107), (4, 108), (4, 109), (0, 0), (4, 110), (0, 0), (0, 0), (0, 0), (0, 0), (4, 111), (4, 154), (0, 0), (4, 155), (4, 156), (4, 157), (4, 166), (4, 170), (4, 179), (4, 188), (4, 189), (4, 190), (4, 195), (4, 200), (4, 205), (4, 210), (4, 211), (4, 216), (4, 221), (4, 222), (0, 0), (4, 223), (4, 224), (4, 225), (4, 226), (4, 227), (5, 0), (5, 0), (0, 0), (0, 0), (0, 0), (5, 0), (5, 0), (0, 0), (5, 0), (5, 0), (5, 0), (0, 0)] : List (Nat × Nat)).set 67 (4, 228)))
def nS_271 : List bz_Sh := nS_270 ++ [.inl (0, 8, 0)]
def nS_272 : List bz_Sh := nS_271.set 81 (.inr (12, ([(0, 0), (4, 82), (0, 0), (4, 83), (4, 84), (4, 85), (4, 86), (4, 87), (4, 88), (4, 89), (4, 90), (4, 91), (0, 0), (0, 0), (4, 92), (4, 93), (4, 94), (4, 95), (4, 96), (0, 0), (0, 0), (4, 97), (4, 98), (4, 99), (4, 100), (4, 101), (4, 102), (0, 0), (4, 103), (4, 104), (4, 105), (4, 106), (4, 107), (4, 108), (4, 109), (0, 0), (4, 110), (0, 0), (0, 0), (0, 0), (0, 0), (4, 111), (4, 154), (0, 0), (4, 155), (4, 156), (4, 157), (4, 166), (4, 170), (4, 179), (4, 188), (4, 189), (4, 190), (4, 195), (4, 200), (4, 205), (4, 210), (4, 211), (4, 216), (4, 221), (4, 222), (0, 0), (4, 223), (4, 224), (4, 225), (4, 226), (4, 227), (4, 228), (5, 0), (0, 0), (0, 0), (0, 0), (5, 0), (5, 0), (0, 0), (5, 0), (5, 0), (5, 0), (0, 0)] : List (Nat × Nat)).set 68 (4, 229)))
def nS_273 : List bz_Sh := nS_272 ++ [.inl (1, 22, 0)]
def nS_274 : List bz_Sh := nS_273.set 81 (.inr (12, ([(0, 0), (4, 82), (0, 0), (4, 83), (4, 84), (4, 85), (4, 86), (4, 87), (4, 88), (4, 89), (4, 90), (4, 91), (0, 0), (0, 0), (4, 92), (4, 93), (4, 94), (4, 95), (4, 96), (0, 0), (0, 0), (4, 97), (4, 98), (4, 99), (4, 100), (4, 101), (4, 102), (0, 0), (4, 103), (4, 104), (4, 105), (4, 106), (4, 107), (4, 108), (4, 109), (0, 0), (4, 110), (0, 0), (0, 0), (0, 0), (0, 0), (4, 111), (4, 154), (0, 0), (4, 155), (4, 156), (4, 157), (4, 166), (4, 170), (4, 179), (4, 188), (4, 189), (4, 190), (4, 195), (4, 200), (4, 205), (4, 210), (4, 211), (4, 216), (4, 221), (4, 222), (0, 0), (4, 223), (4, 224), (4, 225), (4, 226), (4, 227), (4, 228), (4, 229), (0, 0), (0, 0), (0, 0), (5, 0), (5, 0), (0, 0), (5, 0), (5, 0), (5, 0), (0, 0)] : List (Nat × Nat)).set 72 (4, 230)))
def nS_275 : List bz_Sh := nS_274 ++ [.inl (0, 10, 0)]
def nS_276 : List bz_Sh := nS_275.set 81 (.inr (12, ([(0, 0), (4, 82), (0, 0), (4, 83), (4, 84), (4, 85), (4, 86), (4, 87), (4, 88), (4, 89), (4, 90), (4, 91), (0, 0), (0, 0), (4, 92), (4, 93), (4, 94), (4, 95), (4, 96), (0, 0), (0, 0), (4, 97), (4, 98), (4, 99), (4, 100), (4, 101), (4, 102), (0, 0), (4, 103), (4, 104), (4, 105), (4, 106), (4, 107), (4, 108), (4, 109), (0, 0), (4, 110), (0, 0), (0, 0), (0, 0), (0, 0), (4, 111), (4, 154), (0, 0), (4, 155), (4, 156), (4, 157), (4, 166), (4, 170), (4, 179), (4, 188), (4, 189), (4, 190), (4, 195), (4, 200), (4, 205), (4, 210), (4, 211), (4, 216), (4, 221), (4, 222), (0, 0), (4, 223), (4, 224), (4, 225), (4, 226), (4, 227), (4, 228), (4, 229), (0, 0), (0, 0), (0, 0), (4, 230), (5, 0), (0, 0), (5, 0), (5, 0), (5, 0), (0, 0)] : List (Nat × Nat)).set 73 (4, 231)))
def nS_277 : List bz_Sh := nS_276 ++ [.inl (0, 1024, 0)]
def nS_278 : List bz_Sh := nS_277.set 81 (.inr (12, ([(0, 0), (4, 82), (0, 0), (4, 83), (4, 84), (4, 85), (4, 86), (4, 87), (4, 88), (4, 89), (4, 90), (4, 91), (0, 0), (0, 0), (4, 92), (4, 93), (4, 94), (4, 95), (4, 96), (0, 0), (0, 0), (4, 97), (4, 98), (4, 99), (4, 100), (4, 101), (4, 102), (0, 0), (4, 103), (4, 104), (4, 105), (4, 106), (4, 107), (4, 108), (4, 109), (0, 0), (4, 110), (0, 0), (0, 0), (0, 0), (0, 0), (4, 111), (4, 154), (0, 0), (4, 155), (4, 156), (4, 157), (4, 166), (4, 170), (4, 179), (4, 188), (4, 189), (4, 190), (4, 195), (4, 200), (4, 205), (4, 210), (4, 211), (4, 216), (4, 221), (4, 222), (0, 0), (4, 223), (4, 224), (4, 225), (4, 226), (4, 227), (4, 228), (4, 229), (0, 0), (0, 0), (0, 0), (4, 230), (4, 231), (0, 0), (5, 0), (5, 0), (5, 0), (0, 0)] : List (Nat × Nat)).set 75 (4, 232)))
def nS_279 : List bz_Sh := nS_278 ++ [.inl (1, 1024, 0)]
def nS_280 : List bz_Sh := nS_279.set 81 (.inr (12, ([(0, 0), (4, 82), (0, 0), (4, 83), (4, 84), (4, 85), (4, 86), (4, 87), (4, 88), (4, 89), (4, 90), (4, 91), (0, 0), (0, 0), (4, 92), (4, 93), (4, 94), (4, 95), (4, 96), (0, 0), (0, 0), (4, 97), (4, 98), (4, 99), (4, 100), (4, 101), (4, 102), (0, 0), (4, 103), (4, 104), (4, 105), (4, 106), (4, 107), (4, 108), (4, 109), (0, 0), (4, 110), (0, 0), (0, 0), (0, 0), (0, 0), (4, 111), (4, 154), (0, 0), (4, 155), (4, 156), (4, 157), (4, 166), (4, 170), (4, 179), (4, 188), (4, 189), (4, 190), (4, 195), (4, 200), (4, 205), (4, 210), (4, 211), (4, 216), (4, 221), (4, 222), (0, 0), (4, 223), (4, 224), (4, 225), (4, 226), (4, 227), (4, 228), (4, 229), (0, 0), (0, 0), (0, 0), (4, 230), (4, 231), (0, 0), (4, 232), (5, 0), (5, 0), (0, 0)] : List (Nat × Nat)).set 76 (4, 233)))
def nS_281 : List bz_Sh := nS_280 ++ [.inl (0, 10, 0)]
def nS_282 : List bz_Sh := nS_281.set 81 (.inr (12, ([(0, 0), (4, 82), (0, 0), (4, 83), (4, 84), (4, 85), (4, 86), (4, 87), (4, 88), (4, 89), (4, 90), (4, 91), (0, 0), (0, 0), (4, 92), (4, 93), (4, 94), (4, 95), (4, 96), (0, 0), (0, 0), (4, 97), (4, 98), (4, 99), (4, 100), (4, 101), (4, 102), (0, 0), (4, 103), (4, 104), (4, 105), (4, 106), (4, 107), (4, 108), (4, 109), (0, 0), (4, 110), (0, 0), (0, 0), (0, 0), (0, 0), (4, 111), (4, 154), (0, 0), (4, 155), (4, 156), (4, 157), (4, 166), (4, 170), (4, 179), (4, 188), (4, 189), (4, 190), (4, 195), (4, 200), (4, 205), (4, 210), (4, 211), (4, 216), (4, 221), (4, 222), (0, 0), (4, 223), (4, 224), (4, 225), (4, 226), (4, 227), (4, 228), (4, 229), (0, 0), (0, 0), (0, 0), (4, 230), (4, 231), (0, 0), (4, 232), (4, 233), (5, 0), (0, 0)] : List (Nat × Nat)).set 77 (4, 234)))
theorem bn_hi {x : Nat} (h : 154 ≤ x) : bn_pos x = x := by unfold bn_pos; rw [if_neg (by omega), if_neg (by omega)]
theorem bn_hi2 {x : Nat} (h : 154 ≤ x) : bn_id x = x := by unfold bn_id; rw [if_neg (by omega)]
theorem bn_ge (x : Nat) (h : 111 ≤ x) : 111 ≤ bn_id x := by unfold bn_id; split <;> (try split) <;> omega
theorem bn_ne (x : Nat) (h : x < 154) : bn_id x < 154 := by unfold bn_id; split <;> (try split) <;> omega
theorem mz_0 (i : Nat) (h1 : i ≠ 3) (h2 : i ≠ 5) (h3 : i ≠ 53) (h4 : i ≠ 155) (j : Nat) : mM_0 i j = 0 := rfl
theorem mz_1 (i : Nat) (h1 : i ≠ 3) (h2 : i ≠ 5) (h3 : i ≠ 53) (h4 : i ≠ 155) (j : Nat) : mM_1 i j = 0 := by
  have e : mM_1 i = mM_0 i := if_neg h1
  rw [e]; exact mz_0 i h1 h2 h3 h4 j
theorem mz_2 (i : Nat) (h1 : i ≠ 3) (h2 : i ≠ 5) (h3 : i ≠ 53) (h4 : i ≠ 155) (j : Nat) : mM_2 i j = 0 := by
  have e : mM_2 i = mM_1 i := if_neg h2
  rw [e]; exact mz_1 i h1 h2 h3 h4 j
theorem mz_3 (i : Nat) (h1 : i ≠ 3) (h2 : i ≠ 5) (h3 : i ≠ 53) (h4 : i ≠ 155) (j : Nat) : mM_3 i j = 0 := by
  have e : mM_3 i = mM_2 i := if_neg h3
  rw [e]; exact mz_2 i h1 h2 h3 h4 j
theorem mz_4 (i : Nat) (h1 : i ≠ 3) (h2 : i ≠ 5) (h3 : i ≠ 53) (h4 : i ≠ 155) (j : Nat) : mM_4 i j = 0 := by
  have e : mM_4 i = mM_3 i := if_neg h4
  rw [e]; exact mz_3 i h1 h2 h3 h4 j
theorem mz_5 (i : Nat) (h1 : i ≠ 3) (h2 : i ≠ 5) (h3 : i ≠ 53) (h4 : i ≠ 155) (j : Nat) : mM_5 i j = 0 := by
  have e : mM_5 i = mM_4 i := if_neg h4
  rw [e]; exact mz_4 i h1 h2 h3 h4 j
theorem mz_6 (i : Nat) (h1 : i ≠ 3) (h2 : i ≠ 5) (h3 : i ≠ 53) (h4 : i ≠ 155) (j : Nat) : mM_6 i j = 0 := by
  have e : mM_6 i = mM_5 i := if_neg h4
  rw [e]; exact mz_5 i h1 h2 h3 h4 j
theorem mz_7 (i : Nat) (h1 : i ≠ 3) (h2 : i ≠ 5) (h3 : i ≠ 53) (h4 : i ≠ 155) (j : Nat) : mM_7 i j = 0 := by
  have e : mM_7 i = mM_6 i := if_neg h4
  rw [e]; exact mz_6 i h1 h2 h3 h4 j
theorem mz_8 (i : Nat) (h1 : i ≠ 3) (h2 : i ≠ 5) (h3 : i ≠ 53) (h4 : i ≠ 155) (j : Nat) : mM_8 i j = 0 := by
  have e : mM_8 i = mM_7 i := if_neg h4
  rw [e]; exact mz_7 i h1 h2 h3 h4 j
theorem mz_9 (i : Nat) (h1 : i ≠ 3) (h2 : i ≠ 5) (h3 : i ≠ 53) (h4 : i ≠ 155) (j : Nat) : mM_9 i j = 0 := by
  have e : mM_9 i = mM_8 i := if_neg h4
  rw [e]; exact mz_8 i h1 h2 h3 h4 j
theorem mz_10 (i : Nat) (h1 : i ≠ 3) (h2 : i ≠ 5) (h3 : i ≠ 53) (h4 : i ≠ 155) (j : Nat) : mM_10 i j = 0 := by
  have e : mM_10 i = mM_9 i := if_neg h4
  rw [e]; exact mz_9 i h1 h2 h3 h4 j
theorem mz_11 (i : Nat) (h1 : i ≠ 3) (h2 : i ≠ 5) (h3 : i ≠ 53) (h4 : i ≠ 155) (j : Nat) : mM_11 i j = 0 := by
  have e : mM_11 i = mM_10 i := if_neg h4
  rw [e]; exact mz_10 i h1 h2 h3 h4 j
theorem mz_12 (i : Nat) (h1 : i ≠ 3) (h2 : i ≠ 5) (h3 : i ≠ 53) (h4 : i ≠ 155) (j : Nat) : mM_12 i j = 0 := by
  have e : mM_12 i = mM_11 i := if_neg h4
  rw [e]; exact mz_11 i h1 h2 h3 h4 j
theorem mz_13 (i : Nat) (h1 : i ≠ 3) (h2 : i ≠ 5) (h3 : i ≠ 53) (h4 : i ≠ 155) (j : Nat) : mM_13 i j = 0 := by
  have e : mM_13 i = mM_12 i := if_neg h4
  rw [e]; exact mz_12 i h1 h2 h3 h4 j
theorem mz_14 (i : Nat) (h1 : i ≠ 3) (h2 : i ≠ 5) (h3 : i ≠ 53) (h4 : i ≠ 155) (j : Nat) : mM_14 i j = 0 := by
  have e : mM_14 i = mM_13 i := if_neg h4
  rw [e]; exact mz_13 i h1 h2 h3 h4 j
theorem mz_15 (i : Nat) (h1 : i ≠ 3) (h2 : i ≠ 5) (h3 : i ≠ 53) (h4 : i ≠ 155) (j : Nat) : mM_15 i j = 0 := by
  have e : mM_15 i = mM_14 i := if_neg h4
  rw [e]; exact mz_14 i h1 h2 h3 h4 j
set_option maxRecDepth 20000 in
theorem kM_init_81 (E : bz_E) (b0 : Nat) (hAd : ∀ i, i < 235 → E.2.1 i = b0 + bn_pos i) : bn_Ct E b0 yM_init (.code yM_init prog_14_method_1_code 1 none) 1 20 153 19599 [.ref (b0 + 81)] nS_162 mM_3 nS_282 mM_15 := by
  refine bn_met (by decide +kernel) rfl (Nat.le_of_ble_eq_true rfl) (fun K X Y => ?_)
  have X : bn_X K E b0 prog_14_method_1_code 1 "UnitsWrongModel" 1 20 153 19599 := X
  show bn_J K b0 1 0 0 0 [(0, .ref (b0 + 81))] [] nS_162 mM_3
  refine n_aload_n X dM_init_0 rfl 0 rfl ?_
  refine n_obj X wk_1153 wk_28 wk_29 dM_init_1 (by decide) (by decide) (Nat.le_of_ble_eq_true rfl) ?_
  refine n_aload_n X dM_init_4 rfl 0 rfl ?_
  refine n_sipush X dM_init_5 rfl ?_
  refine n_newZ X (n := 260) (L := 82) (by decide +kernel) (by decide) (by decide) (fun _ => rfl) (by decide) (by decide) dM_init_8 ?_
  show bn_J K b0 1 10 1 260 [(0, .ref (b0 + 81))] [.ref (b0 + 82), .ref (b0 + 81)] nS_163 mM_3
  refine n_puta X Y (kf := 1) ri_12 ry_12 rk_12 rn_12 rfl (by decide +kernel : nS_163[81]? = some (.inr (12, [(0, 0), (5, 0), (0, 0), (5, 0), (5, 0), (5, 0), (5, 0), (5, 0), (5, 0), (5, 0), (5, 0), (5, 0), (0, 0), (0, 0), (5, 0), (5, 0), (5, 0), (5, 0), (5, 0), (0, 0), (0, 0), (5, 0), (5, 0), (5, 0), (5, 0), (5, 0), (5, 0), (0, 0), (5, 0), (5, 0), (5, 0), (5, 0), (5, 0), (5, 0), (5, 0), (0, 0), (5, 0), (0, 0), (0, 0), (0, 0), (0, 0), (5, 0), (5, 0), (0, 0), (5, 0), (5, 0), (5, 0), (5, 0), (5, 0), (5, 0), (5, 0), (5, 0), (5, 0), (5, 0), (5, 0), (5, 0), (5, 0), (5, 0), (5, 0), (5, 0), (5, 0), (0, 0), (5, 0), (5, 0), (5, 0), (5, 0), (5, 0), (5, 0), (5, 0), (0, 0), (0, 0), (0, 0), (5, 0), (5, 0), (0, 0), (5, 0), (5, 0), (5, 0), (0, 0)]))) (by decide) wk_1166 (t := 82) rfl rfl rfl (hAd 82 (by decide)) rfl rfl dM_init_10 ?_
  show bn_J K b0 1 13 1 260 [(0, .ref (b0 + 81))] [] nS_164 mM_3
  refine n_aload_n X dM_init_13 rfl 0 rfl ?_
  refine n_sipush X dM_init_14 rfl ?_
  refine n_newI X (n := 407) (L := 83) (by decide +kernel) (by decide) (by decide) (fun _ => rfl) (by decide) (by decide) dM_init_17 ?_
  show bn_J K b0 1 19 2 667 [(0, .ref (b0 + 81))] [.ref (b0 + 83), .ref (b0 + 81)] nS_165 mM_3
  refine n_puta X Y (kf := 3) ri_12 ry_12 rk_12 rn_12 rfl (by decide +kernel : nS_165[81]? = some (.inr (12, [(0, 0), (4, 82), (0, 0), (5, 0), (5, 0), (5, 0), (5, 0), (5, 0), (5, 0), (5, 0), (5, 0), (5, 0), (0, 0), (0, 0), (5, 0), (5, 0), (5, 0), (5, 0), (5, 0), (0, 0), (0, 0), (5, 0), (5, 0), (5, 0), (5, 0), (5, 0), (5, 0), (0, 0), (5, 0), (5, 0), (5, 0), (5, 0), (5, 0), (5, 0), (5, 0), (0, 0), (5, 0), (0, 0), (0, 0), (0, 0), (0, 0), (5, 0), (5, 0), (0, 0), (5, 0), (5, 0), (5, 0), (5, 0), (5, 0), (5, 0), (5, 0), (5, 0), (5, 0), (5, 0), (5, 0), (5, 0), (5, 0), (5, 0), (5, 0), (5, 0), (5, 0), (0, 0), (5, 0), (5, 0), (5, 0), (5, 0), (5, 0), (5, 0), (5, 0), (0, 0), (0, 0), (0, 0), (5, 0), (5, 0), (0, 0), (5, 0), (5, 0), (5, 0), (0, 0)]))) (by decide) wk_1168 (t := 83) rfl rfl rfl (hAd 83 (by decide)) rfl rfl dM_init_19 ?_
  show bn_J K b0 1 22 2 667 [(0, .ref (b0 + 81))] [] nS_166 mM_3
  refine n_aload_n X dM_init_22 rfl 0 rfl ?_
  refine n_sipush X dM_init_23 rfl ?_
  refine n_newI X (n := 407) (L := 84) (by decide +kernel) (by decide) (by decide) (fun _ => rfl) (by decide) (by decide) dM_init_26 ?_
  show bn_J K b0 1 28 3 1074 [(0, .ref (b0 + 81))] [.ref (b0 + 84), .ref (b0 + 81)] nS_167 mM_3
  refine n_puta X Y (kf := 4) ri_12 ry_12 rk_12 rn_12 rfl (by decide +kernel : nS_167[81]? = some (.inr (12, [(0, 0), (4, 82), (0, 0), (4, 83), (5, 0), (5, 0), (5, 0), (5, 0), (5, 0), (5, 0), (5, 0), (5, 0), (0, 0), (0, 0), (5, 0), (5, 0), (5, 0), (5, 0), (5, 0), (0, 0), (0, 0), (5, 0), (5, 0), (5, 0), (5, 0), (5, 0), (5, 0), (0, 0), (5, 0), (5, 0), (5, 0), (5, 0), (5, 0), (5, 0), (5, 0), (0, 0), (5, 0), (0, 0), (0, 0), (0, 0), (0, 0), (5, 0), (5, 0), (0, 0), (5, 0), (5, 0), (5, 0), (5, 0), (5, 0), (5, 0), (5, 0), (5, 0), (5, 0), (5, 0), (5, 0), (5, 0), (5, 0), (5, 0), (5, 0), (5, 0), (5, 0), (0, 0), (5, 0), (5, 0), (5, 0), (5, 0), (5, 0), (5, 0), (5, 0), (0, 0), (0, 0), (0, 0), (5, 0), (5, 0), (0, 0), (5, 0), (5, 0), (5, 0), (0, 0)]))) (by decide) wk_1169 (t := 84) rfl rfl rfl (hAd 84 (by decide)) rfl rfl dM_init_28 ?_
  show bn_J K b0 1 31 3 1074 [(0, .ref (b0 + 81))] [] nS_168 mM_3
  refine n_aload_n X dM_init_31 rfl 0 rfl ?_
  refine n_sipush X dM_init_32 rfl ?_
  refine n_newI X (n := 407) (L := 85) (by decide +kernel) (by decide) (by decide) (fun _ => rfl) (by decide) (by decide) dM_init_35 ?_
  show bn_J K b0 1 37 4 1481 [(0, .ref (b0 + 81))] [.ref (b0 + 85), .ref (b0 + 81)] nS_169 mM_3
  refine n_puta X Y (kf := 5) ri_12 ry_12 rk_12 rn_12 rfl (by decide +kernel : nS_169[81]? = some (.inr (12, [(0, 0), (4, 82), (0, 0), (4, 83), (4, 84), (5, 0), (5, 0), (5, 0), (5, 0), (5, 0), (5, 0), (5, 0), (0, 0), (0, 0), (5, 0), (5, 0), (5, 0), (5, 0), (5, 0), (0, 0), (0, 0), (5, 0), (5, 0), (5, 0), (5, 0), (5, 0), (5, 0), (0, 0), (5, 0), (5, 0), (5, 0), (5, 0), (5, 0), (5, 0), (5, 0), (0, 0), (5, 0), (0, 0), (0, 0), (0, 0), (0, 0), (5, 0), (5, 0), (0, 0), (5, 0), (5, 0), (5, 0), (5, 0), (5, 0), (5, 0), (5, 0), (5, 0), (5, 0), (5, 0), (5, 0), (5, 0), (5, 0), (5, 0), (5, 0), (5, 0), (5, 0), (0, 0), (5, 0), (5, 0), (5, 0), (5, 0), (5, 0), (5, 0), (5, 0), (0, 0), (0, 0), (0, 0), (5, 0), (5, 0), (0, 0), (5, 0), (5, 0), (5, 0), (0, 0)]))) (by decide) wk_1170 (t := 85) rfl rfl rfl (hAd 85 (by decide)) rfl rfl dM_init_37 ?_
  show bn_J K b0 1 40 4 1481 [(0, .ref (b0 + 81))] [] nS_170 mM_3
  refine n_aload_n X dM_init_40 rfl 0 rfl ?_
  refine n_sipush X dM_init_41 rfl ?_
  refine n_newI X (n := 407) (L := 86) (by decide +kernel) (by decide) (by decide) (fun _ => rfl) (by decide) (by decide) dM_init_44 ?_
  show bn_J K b0 1 46 5 1888 [(0, .ref (b0 + 81))] [.ref (b0 + 86), .ref (b0 + 81)] nS_171 mM_3
  refine n_puta X Y (kf := 6) ri_12 ry_12 rk_12 rn_12 rfl (by decide +kernel : nS_171[81]? = some (.inr (12, [(0, 0), (4, 82), (0, 0), (4, 83), (4, 84), (4, 85), (5, 0), (5, 0), (5, 0), (5, 0), (5, 0), (5, 0), (0, 0), (0, 0), (5, 0), (5, 0), (5, 0), (5, 0), (5, 0), (0, 0), (0, 0), (5, 0), (5, 0), (5, 0), (5, 0), (5, 0), (5, 0), (0, 0), (5, 0), (5, 0), (5, 0), (5, 0), (5, 0), (5, 0), (5, 0), (0, 0), (5, 0), (0, 0), (0, 0), (0, 0), (0, 0), (5, 0), (5, 0), (0, 0), (5, 0), (5, 0), (5, 0), (5, 0), (5, 0), (5, 0), (5, 0), (5, 0), (5, 0), (5, 0), (5, 0), (5, 0), (5, 0), (5, 0), (5, 0), (5, 0), (5, 0), (0, 0), (5, 0), (5, 0), (5, 0), (5, 0), (5, 0), (5, 0), (5, 0), (0, 0), (0, 0), (0, 0), (5, 0), (5, 0), (0, 0), (5, 0), (5, 0), (5, 0), (0, 0)]))) (by decide) wk_1171 (t := 86) rfl rfl rfl (hAd 86 (by decide)) rfl rfl dM_init_46 ?_
  show bn_J K b0 1 49 5 1888 [(0, .ref (b0 + 81))] [] nS_172 mM_3
  refine n_aload_n X dM_init_49 rfl 0 rfl ?_
  refine n_sipush X dM_init_50 rfl ?_
  refine n_newI X (n := 407) (L := 87) (by decide +kernel) (by decide) (by decide) (fun _ => rfl) (by decide) (by decide) dM_init_53 ?_
  show bn_J K b0 1 55 6 2295 [(0, .ref (b0 + 81))] [.ref (b0 + 87), .ref (b0 + 81)] nS_173 mM_3
  refine n_puta X Y (kf := 7) ri_12 ry_12 rk_12 rn_12 rfl (by decide +kernel : nS_173[81]? = some (.inr (12, [(0, 0), (4, 82), (0, 0), (4, 83), (4, 84), (4, 85), (4, 86), (5, 0), (5, 0), (5, 0), (5, 0), (5, 0), (0, 0), (0, 0), (5, 0), (5, 0), (5, 0), (5, 0), (5, 0), (0, 0), (0, 0), (5, 0), (5, 0), (5, 0), (5, 0), (5, 0), (5, 0), (0, 0), (5, 0), (5, 0), (5, 0), (5, 0), (5, 0), (5, 0), (5, 0), (0, 0), (5, 0), (0, 0), (0, 0), (0, 0), (0, 0), (5, 0), (5, 0), (0, 0), (5, 0), (5, 0), (5, 0), (5, 0), (5, 0), (5, 0), (5, 0), (5, 0), (5, 0), (5, 0), (5, 0), (5, 0), (5, 0), (5, 0), (5, 0), (5, 0), (5, 0), (0, 0), (5, 0), (5, 0), (5, 0), (5, 0), (5, 0), (5, 0), (5, 0), (0, 0), (0, 0), (0, 0), (5, 0), (5, 0), (0, 0), (5, 0), (5, 0), (5, 0), (0, 0)]))) (by decide) wk_1172 (t := 87) rfl rfl rfl (hAd 87 (by decide)) rfl rfl dM_init_55 ?_
  show bn_J K b0 1 58 6 2295 [(0, .ref (b0 + 81))] [] nS_174 mM_3
  refine n_aload_n X dM_init_58 rfl 0 rfl ?_
  refine n_bipush X dM_init_59 rfl ?_
  refine n_newI X (n := 7) (L := 88) (by decide +kernel) (by decide) (by decide) (fun _ => rfl) (by decide) (by decide) dM_init_61 ?_
  show bn_J K b0 1 63 7 2302 [(0, .ref (b0 + 81))] [.ref (b0 + 88), .ref (b0 + 81)] nS_175 mM_3
  refine n_puta X Y (kf := 8) ri_12 ry_12 rk_12 rn_12 rfl (by decide +kernel : nS_175[81]? = some (.inr (12, [(0, 0), (4, 82), (0, 0), (4, 83), (4, 84), (4, 85), (4, 86), (4, 87), (5, 0), (5, 0), (5, 0), (5, 0), (0, 0), (0, 0), (5, 0), (5, 0), (5, 0), (5, 0), (5, 0), (0, 0), (0, 0), (5, 0), (5, 0), (5, 0), (5, 0), (5, 0), (5, 0), (0, 0), (5, 0), (5, 0), (5, 0), (5, 0), (5, 0), (5, 0), (5, 0), (0, 0), (5, 0), (0, 0), (0, 0), (0, 0), (0, 0), (5, 0), (5, 0), (0, 0), (5, 0), (5, 0), (5, 0), (5, 0), (5, 0), (5, 0), (5, 0), (5, 0), (5, 0), (5, 0), (5, 0), (5, 0), (5, 0), (5, 0), (5, 0), (5, 0), (5, 0), (0, 0), (5, 0), (5, 0), (5, 0), (5, 0), (5, 0), (5, 0), (5, 0), (0, 0), (0, 0), (0, 0), (5, 0), (5, 0), (0, 0), (5, 0), (5, 0), (5, 0), (0, 0)]))) (by decide) wk_1173 (t := 88) rfl rfl rfl (hAd 88 (by decide)) rfl rfl dM_init_63 ?_
  show bn_J K b0 1 66 7 2302 [(0, .ref (b0 + 81))] [] nS_176 mM_3
  refine n_aload_n X dM_init_66 rfl 0 rfl ?_
  refine n_bipush X dM_init_67 rfl ?_
  refine n_newI X (n := 7) (L := 89) (by decide +kernel) (by decide) (by decide) (fun _ => rfl) (by decide) (by decide) dM_init_69 ?_
  show bn_J K b0 1 71 8 2309 [(0, .ref (b0 + 81))] [.ref (b0 + 89), .ref (b0 + 81)] nS_177 mM_3
  refine n_puta X Y (kf := 9) ri_12 ry_12 rk_12 rn_12 rfl (by decide +kernel : nS_177[81]? = some (.inr (12, [(0, 0), (4, 82), (0, 0), (4, 83), (4, 84), (4, 85), (4, 86), (4, 87), (4, 88), (5, 0), (5, 0), (5, 0), (0, 0), (0, 0), (5, 0), (5, 0), (5, 0), (5, 0), (5, 0), (0, 0), (0, 0), (5, 0), (5, 0), (5, 0), (5, 0), (5, 0), (5, 0), (0, 0), (5, 0), (5, 0), (5, 0), (5, 0), (5, 0), (5, 0), (5, 0), (0, 0), (5, 0), (0, 0), (0, 0), (0, 0), (0, 0), (5, 0), (5, 0), (0, 0), (5, 0), (5, 0), (5, 0), (5, 0), (5, 0), (5, 0), (5, 0), (5, 0), (5, 0), (5, 0), (5, 0), (5, 0), (5, 0), (5, 0), (5, 0), (5, 0), (5, 0), (0, 0), (5, 0), (5, 0), (5, 0), (5, 0), (5, 0), (5, 0), (5, 0), (0, 0), (0, 0), (0, 0), (5, 0), (5, 0), (0, 0), (5, 0), (5, 0), (5, 0), (0, 0)]))) (by decide) wk_1174 (t := 89) rfl rfl rfl (hAd 89 (by decide)) rfl rfl dM_init_71 ?_
  show bn_J K b0 1 74 8 2309 [(0, .ref (b0 + 81))] [] nS_178 mM_3
  refine n_aload_n X dM_init_74 rfl 0 rfl ?_
  refine n_bipush X dM_init_75 rfl ?_
  refine n_newI X (n := 7) (L := 90) (by decide +kernel) (by decide) (by decide) (fun _ => rfl) (by decide) (by decide) dM_init_77 ?_
  show bn_J K b0 1 79 9 2316 [(0, .ref (b0 + 81))] [.ref (b0 + 90), .ref (b0 + 81)] nS_179 mM_3
  refine n_puta X Y (kf := 10) ri_12 ry_12 rk_12 rn_12 rfl (by decide +kernel : nS_179[81]? = some (.inr (12, [(0, 0), (4, 82), (0, 0), (4, 83), (4, 84), (4, 85), (4, 86), (4, 87), (4, 88), (4, 89), (5, 0), (5, 0), (0, 0), (0, 0), (5, 0), (5, 0), (5, 0), (5, 0), (5, 0), (0, 0), (0, 0), (5, 0), (5, 0), (5, 0), (5, 0), (5, 0), (5, 0), (0, 0), (5, 0), (5, 0), (5, 0), (5, 0), (5, 0), (5, 0), (5, 0), (0, 0), (5, 0), (0, 0), (0, 0), (0, 0), (0, 0), (5, 0), (5, 0), (0, 0), (5, 0), (5, 0), (5, 0), (5, 0), (5, 0), (5, 0), (5, 0), (5, 0), (5, 0), (5, 0), (5, 0), (5, 0), (5, 0), (5, 0), (5, 0), (5, 0), (5, 0), (0, 0), (5, 0), (5, 0), (5, 0), (5, 0), (5, 0), (5, 0), (5, 0), (0, 0), (0, 0), (0, 0), (5, 0), (5, 0), (0, 0), (5, 0), (5, 0), (5, 0), (0, 0)]))) (by decide) wk_1175 (t := 90) rfl rfl rfl (hAd 90 (by decide)) rfl rfl dM_init_79 ?_
  show bn_J K b0 1 82 9 2316 [(0, .ref (b0 + 81))] [] nS_180 mM_3
  refine n_aload_n X dM_init_82 rfl 0 rfl ?_
  refine n_bipush X dM_init_83 rfl ?_
  refine n_newI X (n := 7) (L := 91) (by decide +kernel) (by decide) (by decide) (fun _ => rfl) (by decide) (by decide) dM_init_85 ?_
  show bn_J K b0 1 87 10 2323 [(0, .ref (b0 + 81))] [.ref (b0 + 91), .ref (b0 + 81)] nS_181 mM_3
  refine n_puta X Y (kf := 11) ri_12 ry_12 rk_12 rn_12 rfl (by decide +kernel : nS_181[81]? = some (.inr (12, [(0, 0), (4, 82), (0, 0), (4, 83), (4, 84), (4, 85), (4, 86), (4, 87), (4, 88), (4, 89), (4, 90), (5, 0), (0, 0), (0, 0), (5, 0), (5, 0), (5, 0), (5, 0), (5, 0), (0, 0), (0, 0), (5, 0), (5, 0), (5, 0), (5, 0), (5, 0), (5, 0), (0, 0), (5, 0), (5, 0), (5, 0), (5, 0), (5, 0), (5, 0), (5, 0), (0, 0), (5, 0), (0, 0), (0, 0), (0, 0), (0, 0), (5, 0), (5, 0), (0, 0), (5, 0), (5, 0), (5, 0), (5, 0), (5, 0), (5, 0), (5, 0), (5, 0), (5, 0), (5, 0), (5, 0), (5, 0), (5, 0), (5, 0), (5, 0), (5, 0), (5, 0), (0, 0), (5, 0), (5, 0), (5, 0), (5, 0), (5, 0), (5, 0), (5, 0), (0, 0), (0, 0), (0, 0), (5, 0), (5, 0), (0, 0), (5, 0), (5, 0), (5, 0), (0, 0)]))) (by decide) wk_1176 (t := 91) rfl rfl rfl (hAd 91 (by decide)) rfl rfl dM_init_87 ?_
  show bn_J K b0 1 90 10 2323 [(0, .ref (b0 + 81))] [] nS_182 mM_3
  refine n_aload_n X dM_init_90 rfl 0 rfl ?_
  refine n_bipush X dM_init_91 rfl ?_
  refine n_newI X (n := 8) (L := 92) (by decide +kernel) (by decide) (by decide) (fun _ => rfl) (by decide) (by decide) dM_init_93 ?_
  show bn_J K b0 1 95 11 2331 [(0, .ref (b0 + 81))] [.ref (b0 + 92), .ref (b0 + 81)] nS_183 mM_3
  refine n_puta X Y (kf := 14) ri_12 ry_12 rk_12 rn_12 rfl (by decide +kernel : nS_183[81]? = some (.inr (12, [(0, 0), (4, 82), (0, 0), (4, 83), (4, 84), (4, 85), (4, 86), (4, 87), (4, 88), (4, 89), (4, 90), (4, 91), (0, 0), (0, 0), (5, 0), (5, 0), (5, 0), (5, 0), (5, 0), (0, 0), (0, 0), (5, 0), (5, 0), (5, 0), (5, 0), (5, 0), (5, 0), (0, 0), (5, 0), (5, 0), (5, 0), (5, 0), (5, 0), (5, 0), (5, 0), (0, 0), (5, 0), (0, 0), (0, 0), (0, 0), (0, 0), (5, 0), (5, 0), (0, 0), (5, 0), (5, 0), (5, 0), (5, 0), (5, 0), (5, 0), (5, 0), (5, 0), (5, 0), (5, 0), (5, 0), (5, 0), (5, 0), (5, 0), (5, 0), (5, 0), (5, 0), (0, 0), (5, 0), (5, 0), (5, 0), (5, 0), (5, 0), (5, 0), (5, 0), (0, 0), (0, 0), (0, 0), (5, 0), (5, 0), (0, 0), (5, 0), (5, 0), (5, 0), (0, 0)]))) (by decide) wk_1179 (t := 92) rfl rfl rfl (hAd 92 (by decide)) rfl rfl dM_init_95 ?_
  show bn_J K b0 1 98 11 2331 [(0, .ref (b0 + 81))] [] nS_184 mM_3
  refine n_aload_n X dM_init_98 rfl 0 rfl ?_
  refine n_iconst X dM_init_99 ?_
  refine n_newI X (n := 4) (L := 93) (by decide +kernel) (by decide) (by decide) (fun _ => rfl) (by decide) (by decide) dM_init_100 ?_
  show bn_J K b0 1 102 12 2335 [(0, .ref (b0 + 81))] [.ref (b0 + 93), .ref (b0 + 81)] nS_185 mM_3
  refine n_puta X Y (kf := 15) ri_12 ry_12 rk_12 rn_12 rfl (by decide +kernel : nS_185[81]? = some (.inr (12, [(0, 0), (4, 82), (0, 0), (4, 83), (4, 84), (4, 85), (4, 86), (4, 87), (4, 88), (4, 89), (4, 90), (4, 91), (0, 0), (0, 0), (4, 92), (5, 0), (5, 0), (5, 0), (5, 0), (0, 0), (0, 0), (5, 0), (5, 0), (5, 0), (5, 0), (5, 0), (5, 0), (0, 0), (5, 0), (5, 0), (5, 0), (5, 0), (5, 0), (5, 0), (5, 0), (0, 0), (5, 0), (0, 0), (0, 0), (0, 0), (0, 0), (5, 0), (5, 0), (0, 0), (5, 0), (5, 0), (5, 0), (5, 0), (5, 0), (5, 0), (5, 0), (5, 0), (5, 0), (5, 0), (5, 0), (5, 0), (5, 0), (5, 0), (5, 0), (5, 0), (5, 0), (0, 0), (5, 0), (5, 0), (5, 0), (5, 0), (5, 0), (5, 0), (5, 0), (0, 0), (0, 0), (0, 0), (5, 0), (5, 0), (0, 0), (5, 0), (5, 0), (5, 0), (0, 0)]))) (by decide) wk_1180 (t := 93) rfl rfl rfl (hAd 93 (by decide)) rfl rfl dM_init_102 ?_
  show bn_J K b0 1 105 12 2335 [(0, .ref (b0 + 81))] [] nS_186 mM_3
  refine n_aload_n X dM_init_105 rfl 0 rfl ?_
  refine n_bipush X dM_init_106 rfl ?_
  refine n_newI X (n := 16) (L := 94) (by decide +kernel) (by decide) (by decide) (fun _ => rfl) (by decide) (by decide) dM_init_108 ?_
  show bn_J K b0 1 110 13 2351 [(0, .ref (b0 + 81))] [.ref (b0 + 94), .ref (b0 + 81)] nS_187 mM_3
  refine n_puta X Y (kf := 16) ri_12 ry_12 rk_12 rn_12 rfl (by decide +kernel : nS_187[81]? = some (.inr (12, [(0, 0), (4, 82), (0, 0), (4, 83), (4, 84), (4, 85), (4, 86), (4, 87), (4, 88), (4, 89), (4, 90), (4, 91), (0, 0), (0, 0), (4, 92), (4, 93), (5, 0), (5, 0), (5, 0), (0, 0), (0, 0), (5, 0), (5, 0), (5, 0), (5, 0), (5, 0), (5, 0), (0, 0), (5, 0), (5, 0), (5, 0), (5, 0), (5, 0), (5, 0), (5, 0), (0, 0), (5, 0), (0, 0), (0, 0), (0, 0), (0, 0), (5, 0), (5, 0), (0, 0), (5, 0), (5, 0), (5, 0), (5, 0), (5, 0), (5, 0), (5, 0), (5, 0), (5, 0), (5, 0), (5, 0), (5, 0), (5, 0), (5, 0), (5, 0), (5, 0), (5, 0), (0, 0), (5, 0), (5, 0), (5, 0), (5, 0), (5, 0), (5, 0), (5, 0), (0, 0), (0, 0), (0, 0), (5, 0), (5, 0), (0, 0), (5, 0), (5, 0), (5, 0), (0, 0)]))) (by decide) wk_1181 (t := 94) rfl rfl rfl (hAd 94 (by decide)) rfl rfl dM_init_110 ?_
  show bn_J K b0 1 113 13 2351 [(0, .ref (b0 + 81))] [] nS_188 mM_3
  refine n_aload_n X dM_init_113 rfl 0 rfl ?_
  refine n_bipush X dM_init_114 rfl ?_
  refine n_newI X (n := 16) (L := 95) (by decide +kernel) (by decide) (by decide) (fun _ => rfl) (by decide) (by decide) dM_init_116 ?_
  show bn_J K b0 1 118 14 2367 [(0, .ref (b0 + 81))] [.ref (b0 + 95), .ref (b0 + 81)] nS_189 mM_3
  refine n_puta X Y (kf := 17) ri_12 ry_12 rk_12 rn_12 rfl (by decide +kernel : nS_189[81]? = some (.inr (12, [(0, 0), (4, 82), (0, 0), (4, 83), (4, 84), (4, 85), (4, 86), (4, 87), (4, 88), (4, 89), (4, 90), (4, 91), (0, 0), (0, 0), (4, 92), (4, 93), (4, 94), (5, 0), (5, 0), (0, 0), (0, 0), (5, 0), (5, 0), (5, 0), (5, 0), (5, 0), (5, 0), (0, 0), (5, 0), (5, 0), (5, 0), (5, 0), (5, 0), (5, 0), (5, 0), (0, 0), (5, 0), (0, 0), (0, 0), (0, 0), (0, 0), (5, 0), (5, 0), (0, 0), (5, 0), (5, 0), (5, 0), (5, 0), (5, 0), (5, 0), (5, 0), (5, 0), (5, 0), (5, 0), (5, 0), (5, 0), (5, 0), (5, 0), (5, 0), (5, 0), (5, 0), (0, 0), (5, 0), (5, 0), (5, 0), (5, 0), (5, 0), (5, 0), (5, 0), (0, 0), (0, 0), (0, 0), (5, 0), (5, 0), (0, 0), (5, 0), (5, 0), (5, 0), (0, 0)]))) (by decide) wk_1182 (t := 95) rfl rfl rfl (hAd 95 (by decide)) rfl rfl dM_init_118 ?_
  show bn_J K b0 1 121 14 2367 [(0, .ref (b0 + 81))] [] nS_190 mM_3
  refine n_aload_n X dM_init_121 rfl 0 rfl ?_
  refine n_iconst X dM_init_122 ?_
  refine n_newI X (n := 4) (L := 96) (by decide +kernel) (by decide) (by decide) (fun _ => rfl) (by decide) (by decide) dM_init_123 ?_
  show bn_J K b0 1 125 15 2371 [(0, .ref (b0 + 81))] [.ref (b0 + 96), .ref (b0 + 81)] nS_191 mM_3
  refine n_puta X Y (kf := 18) ri_12 ry_12 rk_12 rn_12 rfl (by decide +kernel : nS_191[81]? = some (.inr (12, [(0, 0), (4, 82), (0, 0), (4, 83), (4, 84), (4, 85), (4, 86), (4, 87), (4, 88), (4, 89), (4, 90), (4, 91), (0, 0), (0, 0), (4, 92), (4, 93), (4, 94), (4, 95), (5, 0), (0, 0), (0, 0), (5, 0), (5, 0), (5, 0), (5, 0), (5, 0), (5, 0), (0, 0), (5, 0), (5, 0), (5, 0), (5, 0), (5, 0), (5, 0), (5, 0), (0, 0), (5, 0), (0, 0), (0, 0), (0, 0), (0, 0), (5, 0), (5, 0), (0, 0), (5, 0), (5, 0), (5, 0), (5, 0), (5, 0), (5, 0), (5, 0), (5, 0), (5, 0), (5, 0), (5, 0), (5, 0), (5, 0), (5, 0), (5, 0), (5, 0), (5, 0), (0, 0), (5, 0), (5, 0), (5, 0), (5, 0), (5, 0), (5, 0), (5, 0), (0, 0), (0, 0), (0, 0), (5, 0), (5, 0), (0, 0), (5, 0), (5, 0), (5, 0), (0, 0)]))) (by decide) wk_1183 (t := 96) rfl rfl rfl (hAd 96 (by decide)) rfl rfl dM_init_125 ?_
  show bn_J K b0 1 128 15 2371 [(0, .ref (b0 + 81))] [] nS_192 mM_3
  refine n_aload_n X dM_init_128 rfl 0 rfl ?_
  refine n_bipush X dM_init_129 rfl ?_
  refine n_newI X (n := 120) (L := 97) (by decide +kernel) (by decide) (by decide) (fun _ => rfl) (by decide) (by decide) dM_init_131 ?_
  show bn_J K b0 1 133 16 2491 [(0, .ref (b0 + 81))] [.ref (b0 + 97), .ref (b0 + 81)] nS_193 mM_3
  refine n_puta X Y (kf := 21) ri_12 ry_12 rk_12 rn_12 rfl (by decide +kernel : nS_193[81]? = some (.inr (12, [(0, 0), (4, 82), (0, 0), (4, 83), (4, 84), (4, 85), (4, 86), (4, 87), (4, 88), (4, 89), (4, 90), (4, 91), (0, 0), (0, 0), (4, 92), (4, 93), (4, 94), (4, 95), (4, 96), (0, 0), (0, 0), (5, 0), (5, 0), (5, 0), (5, 0), (5, 0), (5, 0), (0, 0), (5, 0), (5, 0), (5, 0), (5, 0), (5, 0), (5, 0), (5, 0), (0, 0), (5, 0), (0, 0), (0, 0), (0, 0), (0, 0), (5, 0), (5, 0), (0, 0), (5, 0), (5, 0), (5, 0), (5, 0), (5, 0), (5, 0), (5, 0), (5, 0), (5, 0), (5, 0), (5, 0), (5, 0), (5, 0), (5, 0), (5, 0), (5, 0), (5, 0), (0, 0), (5, 0), (5, 0), (5, 0), (5, 0), (5, 0), (5, 0), (5, 0), (0, 0), (0, 0), (0, 0), (5, 0), (5, 0), (0, 0), (5, 0), (5, 0), (5, 0), (0, 0)]))) (by decide) wk_1186 (t := 97) rfl rfl rfl (hAd 97 (by decide)) rfl rfl dM_init_133 ?_
  show bn_J K b0 1 136 16 2491 [(0, .ref (b0 + 81))] [] nS_194 mM_3
  refine n_aload_n X dM_init_136 rfl 0 rfl ?_
  refine n_bipush X dM_init_137 rfl ?_
  refine n_newI X (n := 120) (L := 98) (by decide +kernel) (by decide) (by decide) (fun _ => rfl) (by decide) (by decide) dM_init_139 ?_
  show bn_J K b0 1 141 17 2611 [(0, .ref (b0 + 81))] [.ref (b0 + 98), .ref (b0 + 81)] nS_195 mM_3
  refine n_puta X Y (kf := 22) ri_12 ry_12 rk_12 rn_12 rfl (by decide +kernel : nS_195[81]? = some (.inr (12, [(0, 0), (4, 82), (0, 0), (4, 83), (4, 84), (4, 85), (4, 86), (4, 87), (4, 88), (4, 89), (4, 90), (4, 91), (0, 0), (0, 0), (4, 92), (4, 93), (4, 94), (4, 95), (4, 96), (0, 0), (0, 0), (4, 97), (5, 0), (5, 0), (5, 0), (5, 0), (5, 0), (0, 0), (5, 0), (5, 0), (5, 0), (5, 0), (5, 0), (5, 0), (5, 0), (0, 0), (5, 0), (0, 0), (0, 0), (0, 0), (0, 0), (5, 0), (5, 0), (0, 0), (5, 0), (5, 0), (5, 0), (5, 0), (5, 0), (5, 0), (5, 0), (5, 0), (5, 0), (5, 0), (5, 0), (5, 0), (5, 0), (5, 0), (5, 0), (5, 0), (5, 0), (0, 0), (5, 0), (5, 0), (5, 0), (5, 0), (5, 0), (5, 0), (5, 0), (0, 0), (0, 0), (0, 0), (5, 0), (5, 0), (0, 0), (5, 0), (5, 0), (5, 0), (0, 0)]))) (by decide) wk_1187 (t := 98) rfl rfl rfl (hAd 98 (by decide)) rfl rfl dM_init_141 ?_
  show bn_J K b0 1 144 17 2611 [(0, .ref (b0 + 81))] [] nS_196 mM_3
  refine n_aload_n X dM_init_144 rfl 0 rfl ?_
  refine n_bipush X dM_init_145 rfl ?_
  refine n_newI X (n := 120) (L := 99) (by decide +kernel) (by decide) (by decide) (fun _ => rfl) (by decide) (by decide) dM_init_147 ?_
  show bn_J K b0 1 149 18 2731 [(0, .ref (b0 + 81))] [.ref (b0 + 99), .ref (b0 + 81)] nS_197 mM_3
  refine n_puta X Y (kf := 23) ri_12 ry_12 rk_12 rn_12 rfl (by decide +kernel : nS_197[81]? = some (.inr (12, [(0, 0), (4, 82), (0, 0), (4, 83), (4, 84), (4, 85), (4, 86), (4, 87), (4, 88), (4, 89), (4, 90), (4, 91), (0, 0), (0, 0), (4, 92), (4, 93), (4, 94), (4, 95), (4, 96), (0, 0), (0, 0), (4, 97), (4, 98), (5, 0), (5, 0), (5, 0), (5, 0), (0, 0), (5, 0), (5, 0), (5, 0), (5, 0), (5, 0), (5, 0), (5, 0), (0, 0), (5, 0), (0, 0), (0, 0), (0, 0), (0, 0), (5, 0), (5, 0), (0, 0), (5, 0), (5, 0), (5, 0), (5, 0), (5, 0), (5, 0), (5, 0), (5, 0), (5, 0), (5, 0), (5, 0), (5, 0), (5, 0), (5, 0), (5, 0), (5, 0), (5, 0), (0, 0), (5, 0), (5, 0), (5, 0), (5, 0), (5, 0), (5, 0), (5, 0), (0, 0), (0, 0), (0, 0), (5, 0), (5, 0), (0, 0), (5, 0), (5, 0), (5, 0), (0, 0)]))) (by decide) wk_1188 (t := 99) rfl rfl rfl (hAd 99 (by decide)) rfl rfl dM_init_149 ?_
  show bn_J K b0 1 152 18 2731 [(0, .ref (b0 + 81))] [] nS_198 mM_3
  refine n_aload_n X dM_init_152 rfl 0 rfl ?_
  refine n_bipush X dM_init_153 rfl ?_
  refine n_newI X (n := 120) (L := 100) (by decide +kernel) (by decide) (by decide) (fun _ => rfl) (by decide) (by decide) dM_init_155 ?_
  show bn_J K b0 1 157 19 2851 [(0, .ref (b0 + 81))] [.ref (b0 + 100), .ref (b0 + 81)] nS_199 mM_3
  refine n_puta X Y (kf := 24) ri_12 ry_12 rk_12 rn_12 rfl (by decide +kernel : nS_199[81]? = some (.inr (12, [(0, 0), (4, 82), (0, 0), (4, 83), (4, 84), (4, 85), (4, 86), (4, 87), (4, 88), (4, 89), (4, 90), (4, 91), (0, 0), (0, 0), (4, 92), (4, 93), (4, 94), (4, 95), (4, 96), (0, 0), (0, 0), (4, 97), (4, 98), (4, 99), (5, 0), (5, 0), (5, 0), (0, 0), (5, 0), (5, 0), (5, 0), (5, 0), (5, 0), (5, 0), (5, 0), (0, 0), (5, 0), (0, 0), (0, 0), (0, 0), (0, 0), (5, 0), (5, 0), (0, 0), (5, 0), (5, 0), (5, 0), (5, 0), (5, 0), (5, 0), (5, 0), (5, 0), (5, 0), (5, 0), (5, 0), (5, 0), (5, 0), (5, 0), (5, 0), (5, 0), (5, 0), (0, 0), (5, 0), (5, 0), (5, 0), (5, 0), (5, 0), (5, 0), (5, 0), (0, 0), (0, 0), (0, 0), (5, 0), (5, 0), (0, 0), (5, 0), (5, 0), (5, 0), (0, 0)]))) (by decide) wk_1189 (t := 100) rfl rfl rfl (hAd 100 (by decide)) rfl rfl dM_init_157 ?_
  show bn_J K b0 1 160 19 2851 [(0, .ref (b0 + 81))] [] nS_200 mM_3
  refine n_aload_n X dM_init_160 rfl 0 rfl ?_
  refine n_bipush X dM_init_161 rfl ?_
  refine n_newI X (n := 120) (L := 101) (by decide +kernel) (by decide) (by decide) (fun _ => rfl) (by decide) (by decide) dM_init_163 ?_
  show bn_J K b0 1 165 20 2971 [(0, .ref (b0 + 81))] [.ref (b0 + 101), .ref (b0 + 81)] nS_201 mM_3
  refine n_puta X Y (kf := 25) ri_12 ry_12 rk_12 rn_12 rfl (by decide +kernel : nS_201[81]? = some (.inr (12, [(0, 0), (4, 82), (0, 0), (4, 83), (4, 84), (4, 85), (4, 86), (4, 87), (4, 88), (4, 89), (4, 90), (4, 91), (0, 0), (0, 0), (4, 92), (4, 93), (4, 94), (4, 95), (4, 96), (0, 0), (0, 0), (4, 97), (4, 98), (4, 99), (4, 100), (5, 0), (5, 0), (0, 0), (5, 0), (5, 0), (5, 0), (5, 0), (5, 0), (5, 0), (5, 0), (0, 0), (5, 0), (0, 0), (0, 0), (0, 0), (0, 0), (5, 0), (5, 0), (0, 0), (5, 0), (5, 0), (5, 0), (5, 0), (5, 0), (5, 0), (5, 0), (5, 0), (5, 0), (5, 0), (5, 0), (5, 0), (5, 0), (5, 0), (5, 0), (5, 0), (5, 0), (0, 0), (5, 0), (5, 0), (5, 0), (5, 0), (5, 0), (5, 0), (5, 0), (0, 0), (0, 0), (0, 0), (5, 0), (5, 0), (0, 0), (5, 0), (5, 0), (5, 0), (0, 0)]))) (by decide) wk_1190 (t := 101) rfl rfl rfl (hAd 101 (by decide)) rfl rfl dM_init_165 ?_
  show bn_J K b0 1 168 20 2971 [(0, .ref (b0 + 81))] [] nS_202 mM_3
  refine n_aload_n X dM_init_168 rfl 0 rfl ?_
  refine n_bipush X dM_init_169 rfl ?_
  refine n_newI X (n := 120) (L := 102) (by decide +kernel) (by decide) (by decide) (fun _ => rfl) (by decide) (by decide) dM_init_171 ?_
  show bn_J K b0 1 173 21 3091 [(0, .ref (b0 + 81))] [.ref (b0 + 102), .ref (b0 + 81)] nS_203 mM_3
  refine n_puta X Y (kf := 26) ri_12 ry_12 rk_12 rn_12 rfl (by decide +kernel : nS_203[81]? = some (.inr (12, [(0, 0), (4, 82), (0, 0), (4, 83), (4, 84), (4, 85), (4, 86), (4, 87), (4, 88), (4, 89), (4, 90), (4, 91), (0, 0), (0, 0), (4, 92), (4, 93), (4, 94), (4, 95), (4, 96), (0, 0), (0, 0), (4, 97), (4, 98), (4, 99), (4, 100), (4, 101), (5, 0), (0, 0), (5, 0), (5, 0), (5, 0), (5, 0), (5, 0), (5, 0), (5, 0), (0, 0), (5, 0), (0, 0), (0, 0), (0, 0), (0, 0), (5, 0), (5, 0), (0, 0), (5, 0), (5, 0), (5, 0), (5, 0), (5, 0), (5, 0), (5, 0), (5, 0), (5, 0), (5, 0), (5, 0), (5, 0), (5, 0), (5, 0), (5, 0), (5, 0), (5, 0), (0, 0), (5, 0), (5, 0), (5, 0), (5, 0), (5, 0), (5, 0), (5, 0), (0, 0), (0, 0), (0, 0), (5, 0), (5, 0), (0, 0), (5, 0), (5, 0), (5, 0), (0, 0)]))) (by decide) wk_1191 (t := 102) rfl rfl rfl (hAd 102 (by decide)) rfl rfl dM_init_173 ?_
  show bn_J K b0 1 176 21 3091 [(0, .ref (b0 + 81))] [] nS_204 mM_3
  refine n_aload_n X dM_init_176 rfl 0 rfl ?_
  refine n_sipush X dM_init_177 rfl ?_
  refine n_newI X (n := 200) (L := 103) (by decide +kernel) (by decide) (by decide) (fun _ => rfl) (by decide) (by decide) dM_init_180 ?_
  show bn_J K b0 1 182 22 3291 [(0, .ref (b0 + 81))] [.ref (b0 + 103), .ref (b0 + 81)] nS_205 mM_3
  refine n_puta X Y (kf := 28) ri_12 ry_12 rk_12 rn_12 rfl (by decide +kernel : nS_205[81]? = some (.inr (12, [(0, 0), (4, 82), (0, 0), (4, 83), (4, 84), (4, 85), (4, 86), (4, 87), (4, 88), (4, 89), (4, 90), (4, 91), (0, 0), (0, 0), (4, 92), (4, 93), (4, 94), (4, 95), (4, 96), (0, 0), (0, 0), (4, 97), (4, 98), (4, 99), (4, 100), (4, 101), (4, 102), (0, 0), (5, 0), (5, 0), (5, 0), (5, 0), (5, 0), (5, 0), (5, 0), (0, 0), (5, 0), (0, 0), (0, 0), (0, 0), (0, 0), (5, 0), (5, 0), (0, 0), (5, 0), (5, 0), (5, 0), (5, 0), (5, 0), (5, 0), (5, 0), (5, 0), (5, 0), (5, 0), (5, 0), (5, 0), (5, 0), (5, 0), (5, 0), (5, 0), (5, 0), (0, 0), (5, 0), (5, 0), (5, 0), (5, 0), (5, 0), (5, 0), (5, 0), (0, 0), (0, 0), (0, 0), (5, 0), (5, 0), (0, 0), (5, 0), (5, 0), (5, 0), (0, 0)]))) (by decide) wk_1193 (t := 103) rfl rfl rfl (hAd 103 (by decide)) rfl rfl dM_init_182 ?_
  show bn_J K b0 1 185 22 3291 [(0, .ref (b0 + 81))] [] nS_206 mM_3
  refine n_aload_n X dM_init_185 rfl 0 rfl ?_
  refine n_sipush X dM_init_186 rfl ?_
  refine n_newI X (n := 200) (L := 104) (by decide +kernel) (by decide) (by decide) (fun _ => rfl) (by decide) (by decide) dM_init_189 ?_
  show bn_J K b0 1 191 23 3491 [(0, .ref (b0 + 81))] [.ref (b0 + 104), .ref (b0 + 81)] nS_207 mM_3
  refine n_puta X Y (kf := 29) ri_12 ry_12 rk_12 rn_12 rfl (by decide +kernel : nS_207[81]? = some (.inr (12, [(0, 0), (4, 82), (0, 0), (4, 83), (4, 84), (4, 85), (4, 86), (4, 87), (4, 88), (4, 89), (4, 90), (4, 91), (0, 0), (0, 0), (4, 92), (4, 93), (4, 94), (4, 95), (4, 96), (0, 0), (0, 0), (4, 97), (4, 98), (4, 99), (4, 100), (4, 101), (4, 102), (0, 0), (4, 103), (5, 0), (5, 0), (5, 0), (5, 0), (5, 0), (5, 0), (0, 0), (5, 0), (0, 0), (0, 0), (0, 0), (0, 0), (5, 0), (5, 0), (0, 0), (5, 0), (5, 0), (5, 0), (5, 0), (5, 0), (5, 0), (5, 0), (5, 0), (5, 0), (5, 0), (5, 0), (5, 0), (5, 0), (5, 0), (5, 0), (5, 0), (5, 0), (0, 0), (5, 0), (5, 0), (5, 0), (5, 0), (5, 0), (5, 0), (5, 0), (0, 0), (0, 0), (0, 0), (5, 0), (5, 0), (0, 0), (5, 0), (5, 0), (5, 0), (0, 0)]))) (by decide) wk_1194 (t := 104) rfl rfl rfl (hAd 104 (by decide)) rfl rfl dM_init_191 ?_
  show bn_J K b0 1 194 23 3491 [(0, .ref (b0 + 81))] [] nS_208 mM_3
  refine n_aload_n X dM_init_194 rfl 0 rfl ?_
  refine n_sipush X dM_init_195 rfl ?_
  refine n_newI X (n := 200) (L := 105) (by decide +kernel) (by decide) (by decide) (fun _ => rfl) (by decide) (by decide) dM_init_198 ?_
  show bn_J K b0 1 200 24 3691 [(0, .ref (b0 + 81))] [.ref (b0 + 105), .ref (b0 + 81)] nS_209 mM_3
  refine n_puta X Y (kf := 30) ri_12 ry_12 rk_12 rn_12 rfl (by decide +kernel : nS_209[81]? = some (.inr (12, [(0, 0), (4, 82), (0, 0), (4, 83), (4, 84), (4, 85), (4, 86), (4, 87), (4, 88), (4, 89), (4, 90), (4, 91), (0, 0), (0, 0), (4, 92), (4, 93), (4, 94), (4, 95), (4, 96), (0, 0), (0, 0), (4, 97), (4, 98), (4, 99), (4, 100), (4, 101), (4, 102), (0, 0), (4, 103), (4, 104), (5, 0), (5, 0), (5, 0), (5, 0), (5, 0), (0, 0), (5, 0), (0, 0), (0, 0), (0, 0), (0, 0), (5, 0), (5, 0), (0, 0), (5, 0), (5, 0), (5, 0), (5, 0), (5, 0), (5, 0), (5, 0), (5, 0), (5, 0), (5, 0), (5, 0), (5, 0), (5, 0), (5, 0), (5, 0), (5, 0), (5, 0), (0, 0), (5, 0), (5, 0), (5, 0), (5, 0), (5, 0), (5, 0), (5, 0), (0, 0), (0, 0), (0, 0), (5, 0), (5, 0), (0, 0), (5, 0), (5, 0), (5, 0), (0, 0)]))) (by decide) wk_1195 (t := 105) rfl rfl rfl (hAd 105 (by decide)) rfl rfl dM_init_200 ?_
  show bn_J K b0 1 203 24 3691 [(0, .ref (b0 + 81))] [] nS_210 mM_3
  refine n_aload_n X dM_init_203 rfl 0 rfl ?_
  refine n_sipush X dM_init_204 rfl ?_
  refine n_newI X (n := 200) (L := 106) (by decide +kernel) (by decide) (by decide) (fun _ => rfl) (by decide) (by decide) dM_init_207 ?_
  show bn_J K b0 1 209 25 3891 [(0, .ref (b0 + 81))] [.ref (b0 + 106), .ref (b0 + 81)] nS_211 mM_3
  refine n_puta X Y (kf := 31) ri_12 ry_12 rk_12 rn_12 rfl (by decide +kernel : nS_211[81]? = some (.inr (12, [(0, 0), (4, 82), (0, 0), (4, 83), (4, 84), (4, 85), (4, 86), (4, 87), (4, 88), (4, 89), (4, 90), (4, 91), (0, 0), (0, 0), (4, 92), (4, 93), (4, 94), (4, 95), (4, 96), (0, 0), (0, 0), (4, 97), (4, 98), (4, 99), (4, 100), (4, 101), (4, 102), (0, 0), (4, 103), (4, 104), (4, 105), (5, 0), (5, 0), (5, 0), (5, 0), (0, 0), (5, 0), (0, 0), (0, 0), (0, 0), (0, 0), (5, 0), (5, 0), (0, 0), (5, 0), (5, 0), (5, 0), (5, 0), (5, 0), (5, 0), (5, 0), (5, 0), (5, 0), (5, 0), (5, 0), (5, 0), (5, 0), (5, 0), (5, 0), (5, 0), (5, 0), (0, 0), (5, 0), (5, 0), (5, 0), (5, 0), (5, 0), (5, 0), (5, 0), (0, 0), (0, 0), (0, 0), (5, 0), (5, 0), (0, 0), (5, 0), (5, 0), (5, 0), (0, 0)]))) (by decide) wk_1196 (t := 106) rfl rfl rfl (hAd 106 (by decide)) rfl rfl dM_init_209 ?_
  show bn_J K b0 1 212 25 3891 [(0, .ref (b0 + 81))] [] nS_212 mM_3
  refine n_aload_n X dM_init_212 rfl 0 rfl ?_
  refine n_sipush X dM_init_213 rfl ?_
  refine n_newI X (n := 200) (L := 107) (by decide +kernel) (by decide) (by decide) (fun _ => rfl) (by decide) (by decide) dM_init_216 ?_
  show bn_J K b0 1 218 26 4091 [(0, .ref (b0 + 81))] [.ref (b0 + 107), .ref (b0 + 81)] nS_213 mM_3
  refine n_puta X Y (kf := 32) ri_12 ry_12 rk_12 rn_12 rfl (by decide +kernel : nS_213[81]? = some (.inr (12, [(0, 0), (4, 82), (0, 0), (4, 83), (4, 84), (4, 85), (4, 86), (4, 87), (4, 88), (4, 89), (4, 90), (4, 91), (0, 0), (0, 0), (4, 92), (4, 93), (4, 94), (4, 95), (4, 96), (0, 0), (0, 0), (4, 97), (4, 98), (4, 99), (4, 100), (4, 101), (4, 102), (0, 0), (4, 103), (4, 104), (4, 105), (4, 106), (5, 0), (5, 0), (5, 0), (0, 0), (5, 0), (0, 0), (0, 0), (0, 0), (0, 0), (5, 0), (5, 0), (0, 0), (5, 0), (5, 0), (5, 0), (5, 0), (5, 0), (5, 0), (5, 0), (5, 0), (5, 0), (5, 0), (5, 0), (5, 0), (5, 0), (5, 0), (5, 0), (5, 0), (5, 0), (0, 0), (5, 0), (5, 0), (5, 0), (5, 0), (5, 0), (5, 0), (5, 0), (0, 0), (0, 0), (0, 0), (5, 0), (5, 0), (0, 0), (5, 0), (5, 0), (5, 0), (0, 0)]))) (by decide) wk_1197 (t := 107) rfl rfl rfl (hAd 107 (by decide)) rfl rfl dM_init_218 ?_
  show bn_J K b0 1 221 26 4091 [(0, .ref (b0 + 81))] [] nS_214 mM_3
  refine n_aload_n X dM_init_221 rfl 0 rfl ?_
  refine n_sipush X dM_init_222 rfl ?_
  refine n_newZ X (n := 200) (L := 108) (by decide +kernel) (by decide) (by decide) (fun _ => rfl) (by decide) (by decide) dM_init_225 ?_
  show bn_J K b0 1 227 27 4291 [(0, .ref (b0 + 81))] [.ref (b0 + 108), .ref (b0 + 81)] nS_215 mM_3
  refine n_puta X Y (kf := 33) ri_12 ry_12 rk_12 rn_12 rfl (by decide +kernel : nS_215[81]? = some (.inr (12, [(0, 0), (4, 82), (0, 0), (4, 83), (4, 84), (4, 85), (4, 86), (4, 87), (4, 88), (4, 89), (4, 90), (4, 91), (0, 0), (0, 0), (4, 92), (4, 93), (4, 94), (4, 95), (4, 96), (0, 0), (0, 0), (4, 97), (4, 98), (4, 99), (4, 100), (4, 101), (4, 102), (0, 0), (4, 103), (4, 104), (4, 105), (4, 106), (4, 107), (5, 0), (5, 0), (0, 0), (5, 0), (0, 0), (0, 0), (0, 0), (0, 0), (5, 0), (5, 0), (0, 0), (5, 0), (5, 0), (5, 0), (5, 0), (5, 0), (5, 0), (5, 0), (5, 0), (5, 0), (5, 0), (5, 0), (5, 0), (5, 0), (5, 0), (5, 0), (5, 0), (5, 0), (0, 0), (5, 0), (5, 0), (5, 0), (5, 0), (5, 0), (5, 0), (5, 0), (0, 0), (0, 0), (0, 0), (5, 0), (5, 0), (0, 0), (5, 0), (5, 0), (5, 0), (0, 0)]))) (by decide) wk_1198 (t := 108) rfl rfl rfl (hAd 108 (by decide)) rfl rfl dM_init_227 ?_
  show bn_J K b0 1 230 27 4291 [(0, .ref (b0 + 81))] [] nS_216 mM_3
  refine n_aload_n X dM_init_230 rfl 0 rfl ?_
  refine n_sipush X dM_init_231 rfl ?_
  refine n_newJ X (n := 200) (L := 109) (by decide +kernel) (by decide) (by decide) (fun _ => rfl) (by decide) (by decide) dM_init_234 ?_
  show bn_J K b0 1 236 28 4491 [(0, .ref (b0 + 81))] [.ref (b0 + 109), .ref (b0 + 81)] nS_217 mM_3
  refine n_puta X Y (kf := 34) ri_12 ry_12 rk_12 rn_12 rfl (by decide +kernel : nS_217[81]? = some (.inr (12, [(0, 0), (4, 82), (0, 0), (4, 83), (4, 84), (4, 85), (4, 86), (4, 87), (4, 88), (4, 89), (4, 90), (4, 91), (0, 0), (0, 0), (4, 92), (4, 93), (4, 94), (4, 95), (4, 96), (0, 0), (0, 0), (4, 97), (4, 98), (4, 99), (4, 100), (4, 101), (4, 102), (0, 0), (4, 103), (4, 104), (4, 105), (4, 106), (4, 107), (4, 108), (5, 0), (0, 0), (5, 0), (0, 0), (0, 0), (0, 0), (0, 0), (5, 0), (5, 0), (0, 0), (5, 0), (5, 0), (5, 0), (5, 0), (5, 0), (5, 0), (5, 0), (5, 0), (5, 0), (5, 0), (5, 0), (5, 0), (5, 0), (5, 0), (5, 0), (5, 0), (5, 0), (0, 0), (5, 0), (5, 0), (5, 0), (5, 0), (5, 0), (5, 0), (5, 0), (0, 0), (0, 0), (0, 0), (5, 0), (5, 0), (0, 0), (5, 0), (5, 0), (5, 0), (0, 0)]))) (by decide) wk_1199 (t := 109) rfl rfl rfl (hAd 109 (by decide)) rfl rfl dM_init_236 ?_
  show bn_J K b0 1 239 28 4491 [(0, .ref (b0 + 81))] [] nS_218 mM_3
  refine n_aload_n X dM_init_239 rfl 0 rfl ?_
  refine n_sipush X dM_init_240 rfl ?_
  refine n_newB X (n := 600) (L := 110) (by decide +kernel) (by decide) (by decide) (fun _ => rfl) (by decide) (by decide) dM_init_243 ?_
  show bn_J K b0 1 245 29 5091 [(0, .ref (b0 + 81))] [.ref (b0 + 110), .ref (b0 + 81)] nS_219 mM_3
  refine n_puta X Y (kf := 36) ri_12 ry_12 rk_12 rn_12 rfl (by decide +kernel : nS_219[81]? = some (.inr (12, [(0, 0), (4, 82), (0, 0), (4, 83), (4, 84), (4, 85), (4, 86), (4, 87), (4, 88), (4, 89), (4, 90), (4, 91), (0, 0), (0, 0), (4, 92), (4, 93), (4, 94), (4, 95), (4, 96), (0, 0), (0, 0), (4, 97), (4, 98), (4, 99), (4, 100), (4, 101), (4, 102), (0, 0), (4, 103), (4, 104), (4, 105), (4, 106), (4, 107), (4, 108), (4, 109), (0, 0), (5, 0), (0, 0), (0, 0), (0, 0), (0, 0), (5, 0), (5, 0), (0, 0), (5, 0), (5, 0), (5, 0), (5, 0), (5, 0), (5, 0), (5, 0), (5, 0), (5, 0), (5, 0), (5, 0), (5, 0), (5, 0), (5, 0), (5, 0), (5, 0), (5, 0), (0, 0), (5, 0), (5, 0), (5, 0), (5, 0), (5, 0), (5, 0), (5, 0), (0, 0), (0, 0), (0, 0), (5, 0), (5, 0), (0, 0), (5, 0), (5, 0), (5, 0), (0, 0)]))) (by decide) wk_1201 (t := 110) rfl rfl rfl (hAd 110 (by decide)) rfl rfl dM_init_245 ?_
  show bn_J K b0 1 248 29 5091 [(0, .ref (b0 + 81))] [] nS_220 mM_3
  refine n_aload_n X dM_init_248 rfl 0 rfl ?_
  refine n_bipush X dM_init_249 rfl ?_
  refine n_iconst X dM_init_251 ?_
  refine n_bipush X dM_init_252 rfl ?_
  refine n_m3 X (by decide +kernel) hAd (fun i hi j => by have h9 := bn_ge (111 + i) (by omega); exact mz_3 _ (by omega) (by omega) (by omega) (by have h8 := bn_ne (111 + i) (by omega); omega) j) (by decide) (by decide) (by decide) (by decide) (by decide) wk_1154 dM_init_254 ?_
  show bn_J K b0 1 258 72 5553 [(0, .ref (b0 + 81))] [.ref (b0 + 111), .ref (b0 + 81)] nS_221 mM_3
  refine n_puta X Y (kf := 41) ri_12 ry_12 rk_12 rn_12 rfl (by decide +kernel : nS_221[81]? = some (.inr (12, [(0, 0), (4, 82), (0, 0), (4, 83), (4, 84), (4, 85), (4, 86), (4, 87), (4, 88), (4, 89), (4, 90), (4, 91), (0, 0), (0, 0), (4, 92), (4, 93), (4, 94), (4, 95), (4, 96), (0, 0), (0, 0), (4, 97), (4, 98), (4, 99), (4, 100), (4, 101), (4, 102), (0, 0), (4, 103), (4, 104), (4, 105), (4, 106), (4, 107), (4, 108), (4, 109), (0, 0), (4, 110), (0, 0), (0, 0), (0, 0), (0, 0), (5, 0), (5, 0), (0, 0), (5, 0), (5, 0), (5, 0), (5, 0), (5, 0), (5, 0), (5, 0), (5, 0), (5, 0), (5, 0), (5, 0), (5, 0), (5, 0), (5, 0), (5, 0), (5, 0), (5, 0), (0, 0), (5, 0), (5, 0), (5, 0), (5, 0), (5, 0), (5, 0), (5, 0), (0, 0), (0, 0), (0, 0), (5, 0), (5, 0), (0, 0), (5, 0), (5, 0), (5, 0), (0, 0)]))) (by decide) wk_1206 (t := 111) rfl rfl rfl (hAd 111 (by decide)) rfl rfl dM_init_258 ?_
  show bn_J K b0 1 261 72 5553 [(0, .ref (b0 + 81))] [] nS_222 mM_3
  refine n_aload_n X dM_init_261 rfl 0 rfl ?_
  refine n_bipush X dM_init_262 rfl ?_
  refine n_newI X (n := 6) (L := 154) (by decide +kernel) (by decide) (by decide) (fun _ => rfl) (by decide) (by decide) dM_init_264 ?_
  show bn_J K b0 1 266 73 5559 [(0, .ref (b0 + 81))] [.ref (b0 + 154), .ref (b0 + 81)] nS_223 mM_3
  refine n_puta X Y (kf := 42) ri_12 ry_12 rk_12 rn_12 rfl (by decide +kernel : nS_223[81]? = some (.inr (12, [(0, 0), (4, 82), (0, 0), (4, 83), (4, 84), (4, 85), (4, 86), (4, 87), (4, 88), (4, 89), (4, 90), (4, 91), (0, 0), (0, 0), (4, 92), (4, 93), (4, 94), (4, 95), (4, 96), (0, 0), (0, 0), (4, 97), (4, 98), (4, 99), (4, 100), (4, 101), (4, 102), (0, 0), (4, 103), (4, 104), (4, 105), (4, 106), (4, 107), (4, 108), (4, 109), (0, 0), (4, 110), (0, 0), (0, 0), (0, 0), (0, 0), (4, 111), (5, 0), (0, 0), (5, 0), (5, 0), (5, 0), (5, 0), (5, 0), (5, 0), (5, 0), (5, 0), (5, 0), (5, 0), (5, 0), (5, 0), (5, 0), (5, 0), (5, 0), (5, 0), (5, 0), (0, 0), (5, 0), (5, 0), (5, 0), (5, 0), (5, 0), (5, 0), (5, 0), (0, 0), (0, 0), (0, 0), (5, 0), (5, 0), (0, 0), (5, 0), (5, 0), (5, 0), (0, 0)]))) (by decide) wk_1207 (t := 154) rfl rfl rfl (hAd 154 (by decide)) rfl rfl dM_init_266 ?_
  show bn_J K b0 1 269 73 5559 [(0, .ref (b0 + 81))] [] nS_224 mM_3
  refine n_aload_n X dM_init_269 rfl 0 rfl ?_
  refine n_bipush X dM_init_270 rfl ?_
  refine n_newI X (n := 12) (L := 155) (by decide +kernel) (by decide) (by decide) (fun _ => rfl) (by decide) (by decide) dM_init_272 ?_
  show bn_J K b0 1 274 74 5571 [(0, .ref (b0 + 81))] [.ref (b0 + 155), .ref (b0 + 81)] nS_225 mM_3
  refine n_dup X dM_init_274 rfl ?_
  refine n_iconst X dM_init_275 ?_
  refine n_iconst X dM_init_276 ?_
  refine n_iast X (b := 0) (a := 155) (n := 12) (by decide +kernel) (by decide +kernel) (by decide) dM_init_277 ?_
  show bn_J K b0 1 278 74 5571 [(0, .ref (b0 + 81))] [.ref (b0 + 155), .ref (b0 + 81)] nS_225 mM_4
  refine n_dup X dM_init_278 rfl ?_
  refine n_iconst X dM_init_279 ?_
  refine n_iconst X dM_init_280 ?_
  refine n_iast X (b := 0) (a := 155) (n := 12) (by decide +kernel) (by decide +kernel) (by decide) dM_init_281 ?_
  show bn_J K b0 1 282 74 5571 [(0, .ref (b0 + 81))] [.ref (b0 + 155), .ref (b0 + 81)] nS_225 mM_5
  refine n_dup X dM_init_282 rfl ?_
  refine n_iconst X dM_init_283 ?_
  refine n_sipush X dM_init_284 rfl ?_
  refine n_iast X (b := 0) (a := 155) (n := 12) (by decide +kernel) (by decide +kernel) (by decide) dM_init_287 ?_
  show bn_J K b0 1 288 74 5571 [(0, .ref (b0 + 81))] [.ref (b0 + 155), .ref (b0 + 81)] nS_225 mM_6
  refine n_dup X dM_init_288 rfl ?_
  refine n_iconst X dM_init_289 ?_
  refine n_bipush X dM_init_290 rfl ?_
  refine n_iast X (b := 0) (a := 155) (n := 12) (by decide +kernel) (by decide +kernel) (by decide) dM_init_292 ?_
  show bn_J K b0 1 293 74 5571 [(0, .ref (b0 + 81))] [.ref (b0 + 155), .ref (b0 + 81)] nS_225 mM_7
  refine n_dup X dM_init_293 rfl ?_
  refine n_iconst X dM_init_294 ?_
  refine n_iconst X dM_init_295 ?_
  refine n_iast X (b := 0) (a := 155) (n := 12) (by decide +kernel) (by decide +kernel) (by decide) dM_init_296 ?_
  show bn_J K b0 1 297 74 5571 [(0, .ref (b0 + 81))] [.ref (b0 + 155), .ref (b0 + 81)] nS_225 mM_8
  refine n_dup X dM_init_297 rfl ?_
  refine n_iconst X dM_init_298 ?_
  refine n_iconst X dM_init_299 ?_
  refine n_iast X (b := 0) (a := 155) (n := 12) (by decide +kernel) (by decide +kernel) (by decide) dM_init_300 ?_
  show bn_J K b0 1 301 74 5571 [(0, .ref (b0 + 81))] [.ref (b0 + 155), .ref (b0 + 81)] nS_225 mM_9
  refine n_dup X dM_init_301 rfl ?_
  refine n_bipush X dM_init_302 rfl ?_
  refine n_iconst X dM_init_304 ?_
  refine n_iast X (b := 0) (a := 155) (n := 12) (by decide +kernel) (by decide +kernel) (by decide) dM_init_305 ?_
  show bn_J K b0 1 306 74 5571 [(0, .ref (b0 + 81))] [.ref (b0 + 155), .ref (b0 + 81)] nS_225 mM_10
  refine n_dup X dM_init_306 rfl ?_
  refine n_bipush X dM_init_307 rfl ?_
  refine n_iconst X dM_init_309 ?_
  refine n_iast X (b := 0) (a := 155) (n := 12) (by decide +kernel) (by decide +kernel) (by decide) dM_init_310 ?_
  show bn_J K b0 1 311 74 5571 [(0, .ref (b0 + 81))] [.ref (b0 + 155), .ref (b0 + 81)] nS_225 mM_11
  refine n_dup X dM_init_311 rfl ?_
  refine n_bipush X dM_init_312 rfl ?_
  refine n_sipush X dM_init_314 rfl ?_
  refine n_iast X (b := 0) (a := 155) (n := 12) (by decide +kernel) (by decide +kernel) (by decide) dM_init_317 ?_
  show bn_J K b0 1 318 74 5571 [(0, .ref (b0 + 81))] [.ref (b0 + 155), .ref (b0 + 81)] nS_225 mM_12
  refine n_dup X dM_init_318 rfl ?_
  refine n_bipush X dM_init_319 rfl ?_
  refine n_iconst X dM_init_321 ?_
  refine n_iast X (b := 0) (a := 155) (n := 12) (by decide +kernel) (by decide +kernel) (by decide) dM_init_322 ?_
  show bn_J K b0 1 323 74 5571 [(0, .ref (b0 + 81))] [.ref (b0 + 155), .ref (b0 + 81)] nS_225 mM_13
  refine n_dup X dM_init_323 rfl ?_
  refine n_bipush X dM_init_324 rfl ?_
  refine n_iconst X dM_init_326 ?_
  refine n_iast X (b := 0) (a := 155) (n := 12) (by decide +kernel) (by decide +kernel) (by decide) dM_init_327 ?_
  show bn_J K b0 1 328 74 5571 [(0, .ref (b0 + 81))] [.ref (b0 + 155), .ref (b0 + 81)] nS_225 mM_14
  refine n_dup X dM_init_328 rfl ?_
  refine n_bipush X dM_init_329 rfl ?_
  refine n_iconst X dM_init_331 ?_
  refine n_iast X (b := 0) (a := 155) (n := 12) (by decide +kernel) (by decide +kernel) (by decide) dM_init_332 ?_
  show bn_J K b0 1 333 74 5571 [(0, .ref (b0 + 81))] [.ref (b0 + 155), .ref (b0 + 81)] nS_225 mM_15
  refine n_puta X Y (kf := 44) ri_12 ry_12 rk_12 rn_12 rfl (by decide +kernel : nS_225[81]? = some (.inr (12, [(0, 0), (4, 82), (0, 0), (4, 83), (4, 84), (4, 85), (4, 86), (4, 87), (4, 88), (4, 89), (4, 90), (4, 91), (0, 0), (0, 0), (4, 92), (4, 93), (4, 94), (4, 95), (4, 96), (0, 0), (0, 0), (4, 97), (4, 98), (4, 99), (4, 100), (4, 101), (4, 102), (0, 0), (4, 103), (4, 104), (4, 105), (4, 106), (4, 107), (4, 108), (4, 109), (0, 0), (4, 110), (0, 0), (0, 0), (0, 0), (0, 0), (4, 111), (4, 154), (0, 0), (5, 0), (5, 0), (5, 0), (5, 0), (5, 0), (5, 0), (5, 0), (5, 0), (5, 0), (5, 0), (5, 0), (5, 0), (5, 0), (5, 0), (5, 0), (5, 0), (5, 0), (0, 0), (5, 0), (5, 0), (5, 0), (5, 0), (5, 0), (5, 0), (5, 0), (0, 0), (0, 0), (0, 0), (5, 0), (5, 0), (0, 0), (5, 0), (5, 0), (5, 0), (0, 0)]))) (by decide) wk_1209 (t := 155) rfl rfl rfl (hAd 155 (by decide)) rfl rfl dM_init_333 ?_
  show bn_J K b0 1 336 74 5571 [(0, .ref (b0 + 81))] [] nS_226 mM_15
  refine n_aload_n X dM_init_336 rfl 0 rfl ?_
  refine n_iconst X dM_init_337 ?_
  refine n_party X (L := 156) (by decide +kernel) (by decide) (by decide) (by decide) wk_1157 (by decide +kernel) (by decide +kernel) (by decide +kernel) dM_init_338 dM_init_341 dM_init_342 dM_init_343 dM_init_345 dM_init_346 dM_init_347 dM_init_348 dM_init_350 dM_init_351 dM_init_352 dM_init_353 dM_init_355 ?_
  show bn_J K b0 1 356 75 5574 [(0, .ref (b0 + 81))] [.ref (b0 + 156), .ref (b0 + 81)] nS_227 mM_15
  refine n_puta X Y (kf := 45) ri_12 ry_12 rk_12 rn_12 rfl (by decide +kernel : nS_227[81]? = some (.inr (12, [(0, 0), (4, 82), (0, 0), (4, 83), (4, 84), (4, 85), (4, 86), (4, 87), (4, 88), (4, 89), (4, 90), (4, 91), (0, 0), (0, 0), (4, 92), (4, 93), (4, 94), (4, 95), (4, 96), (0, 0), (0, 0), (4, 97), (4, 98), (4, 99), (4, 100), (4, 101), (4, 102), (0, 0), (4, 103), (4, 104), (4, 105), (4, 106), (4, 107), (4, 108), (4, 109), (0, 0), (4, 110), (0, 0), (0, 0), (0, 0), (0, 0), (4, 111), (4, 154), (0, 0), (4, 155), (5, 0), (5, 0), (5, 0), (5, 0), (5, 0), (5, 0), (5, 0), (5, 0), (5, 0), (5, 0), (5, 0), (5, 0), (5, 0), (5, 0), (5, 0), (5, 0), (0, 0), (5, 0), (5, 0), (5, 0), (5, 0), (5, 0), (5, 0), (5, 0), (0, 0), (0, 0), (0, 0), (5, 0), (5, 0), (0, 0), (5, 0), (5, 0), (5, 0), (0, 0)]))) (by decide) wk_1210 (t := 156) rfl rfl rfl (hAd 156 (by decide)) rfl rfl dM_init_356 ?_
  show bn_J K b0 1 359 75 5574 [(0, .ref (b0 + 81))] [] nS_228 mM_15
  refine n_aload_n X dM_init_359 rfl 0 rfl ?_
  refine n_bipush X dM_init_360 rfl ?_
  refine n_sipush X dM_init_362 rfl ?_
  refine n_m2I X (N1 := 8) (N2 := 260) (L := 157) (base := 158) (by decide +kernel) (by decide) (by decide) (by decide) (by decide) (fun i hi => by rw [hAd _ (by omega), bn_hi (by omega)]) (fun i hi j => by rw [bn_hi2 (by omega)]; exact mz_15 _ (by omega) (by omega) (by omega) (by omega) j) (by decide) (by decide) wk_1162 dM_init_365 ?_
  show bn_J K b0 1 369 84 7662 [(0, .ref (b0 + 81))] [.ref (b0 + 157), .ref (b0 + 81)] nS_229 mM_15
  refine n_puta X Y (kf := 46) ri_12 ry_12 rk_12 rn_12 rfl (by decide +kernel : nS_229[81]? = some (.inr (12, [(0, 0), (4, 82), (0, 0), (4, 83), (4, 84), (4, 85), (4, 86), (4, 87), (4, 88), (4, 89), (4, 90), (4, 91), (0, 0), (0, 0), (4, 92), (4, 93), (4, 94), (4, 95), (4, 96), (0, 0), (0, 0), (4, 97), (4, 98), (4, 99), (4, 100), (4, 101), (4, 102), (0, 0), (4, 103), (4, 104), (4, 105), (4, 106), (4, 107), (4, 108), (4, 109), (0, 0), (4, 110), (0, 0), (0, 0), (0, 0), (0, 0), (4, 111), (4, 154), (0, 0), (4, 155), (4, 156), (5, 0), (5, 0), (5, 0), (5, 0), (5, 0), (5, 0), (5, 0), (5, 0), (5, 0), (5, 0), (5, 0), (5, 0), (5, 0), (5, 0), (5, 0), (0, 0), (5, 0), (5, 0), (5, 0), (5, 0), (5, 0), (5, 0), (5, 0), (0, 0), (0, 0), (0, 0), (5, 0), (5, 0), (0, 0), (5, 0), (5, 0), (5, 0), (0, 0)]))) (by decide) wk_1211 (t := 157) rfl rfl rfl (hAd 157 (by decide)) rfl rfl dM_init_369 ?_
  show bn_J K b0 1 372 84 7662 [(0, .ref (b0 + 81))] [] nS_230 mM_15
  refine n_aload_n X dM_init_372 rfl 0 rfl ?_
  refine n_iconst X dM_init_373 ?_
  refine n_sipush X dM_init_374 rfl ?_
  refine n_m2I X (N1 := 3) (N2 := 260) (L := 166) (base := 167) (by decide +kernel) (by decide) (by decide) (by decide) (by decide) (fun i hi => by rw [hAd _ (by omega), bn_hi (by omega)]) (fun i hi j => by rw [bn_hi2 (by omega)]; exact mz_15 _ (by omega) (by omega) (by omega) (by omega) j) (by decide) (by decide) wk_1162 dM_init_377 ?_
  show bn_J K b0 1 381 88 8445 [(0, .ref (b0 + 81))] [.ref (b0 + 166), .ref (b0 + 81)] nS_231 mM_15
  refine n_puta X Y (kf := 47) ri_12 ry_12 rk_12 rn_12 rfl (by decide +kernel : nS_231[81]? = some (.inr (12, [(0, 0), (4, 82), (0, 0), (4, 83), (4, 84), (4, 85), (4, 86), (4, 87), (4, 88), (4, 89), (4, 90), (4, 91), (0, 0), (0, 0), (4, 92), (4, 93), (4, 94), (4, 95), (4, 96), (0, 0), (0, 0), (4, 97), (4, 98), (4, 99), (4, 100), (4, 101), (4, 102), (0, 0), (4, 103), (4, 104), (4, 105), (4, 106), (4, 107), (4, 108), (4, 109), (0, 0), (4, 110), (0, 0), (0, 0), (0, 0), (0, 0), (4, 111), (4, 154), (0, 0), (4, 155), (4, 156), (4, 157), (5, 0), (5, 0), (5, 0), (5, 0), (5, 0), (5, 0), (5, 0), (5, 0), (5, 0), (5, 0), (5, 0), (5, 0), (5, 0), (5, 0), (0, 0), (5, 0), (5, 0), (5, 0), (5, 0), (5, 0), (5, 0), (5, 0), (0, 0), (0, 0), (0, 0), (5, 0), (5, 0), (0, 0), (5, 0), (5, 0), (5, 0), (0, 0)]))) (by decide) wk_1212 (t := 166) rfl rfl rfl (hAd 166 (by decide)) rfl rfl dM_init_381 ?_
  show bn_J K b0 1 384 88 8445 [(0, .ref (b0 + 81))] [] nS_232 mM_15
  refine n_aload_n X dM_init_384 rfl 0 rfl ?_
  refine n_bipush X dM_init_385 rfl ?_
  refine n_sipush X dM_init_387 rfl ?_
  refine n_m2I X (N1 := 8) (N2 := 260) (L := 170) (base := 171) (by decide +kernel) (by decide) (by decide) (by decide) (by decide) (fun i hi => by rw [hAd _ (by omega), bn_hi (by omega)]) (fun i hi j => by rw [bn_hi2 (by omega)]; exact mz_15 _ (by omega) (by omega) (by omega) (by omega) j) (by decide) (by decide) wk_1162 dM_init_390 ?_
  show bn_J K b0 1 394 97 10533 [(0, .ref (b0 + 81))] [.ref (b0 + 170), .ref (b0 + 81)] nS_233 mM_15
  refine n_puta X Y (kf := 48) ri_12 ry_12 rk_12 rn_12 rfl (by decide +kernel : nS_233[81]? = some (.inr (12, [(0, 0), (4, 82), (0, 0), (4, 83), (4, 84), (4, 85), (4, 86), (4, 87), (4, 88), (4, 89), (4, 90), (4, 91), (0, 0), (0, 0), (4, 92), (4, 93), (4, 94), (4, 95), (4, 96), (0, 0), (0, 0), (4, 97), (4, 98), (4, 99), (4, 100), (4, 101), (4, 102), (0, 0), (4, 103), (4, 104), (4, 105), (4, 106), (4, 107), (4, 108), (4, 109), (0, 0), (4, 110), (0, 0), (0, 0), (0, 0), (0, 0), (4, 111), (4, 154), (0, 0), (4, 155), (4, 156), (4, 157), (4, 166), (5, 0), (5, 0), (5, 0), (5, 0), (5, 0), (5, 0), (5, 0), (5, 0), (5, 0), (5, 0), (5, 0), (5, 0), (5, 0), (0, 0), (5, 0), (5, 0), (5, 0), (5, 0), (5, 0), (5, 0), (5, 0), (0, 0), (0, 0), (0, 0), (5, 0), (5, 0), (0, 0), (5, 0), (5, 0), (5, 0), (0, 0)]))) (by decide) wk_1213 (t := 170) rfl rfl rfl (hAd 170 (by decide)) rfl rfl dM_init_394 ?_
  show bn_J K b0 1 397 97 10533 [(0, .ref (b0 + 81))] [] nS_234 mM_15
  refine n_aload_n X dM_init_397 rfl 0 rfl ?_
  refine n_bipush X dM_init_398 rfl ?_
  refine n_sipush X dM_init_400 rfl ?_
  refine n_m2I X (N1 := 8) (N2 := 260) (L := 179) (base := 180) (by decide +kernel) (by decide) (by decide) (by decide) (by decide) (fun i hi => by rw [hAd _ (by omega), bn_hi (by omega)]) (fun i hi j => by rw [bn_hi2 (by omega)]; exact mz_15 _ (by omega) (by omega) (by omega) (by omega) j) (by decide) (by decide) wk_1162 dM_init_403 ?_
  show bn_J K b0 1 407 106 12621 [(0, .ref (b0 + 81))] [.ref (b0 + 179), .ref (b0 + 81)] nS_235 mM_15
  refine n_puta X Y (kf := 49) ri_12 ry_12 rk_12 rn_12 rfl (by decide +kernel : nS_235[81]? = some (.inr (12, [(0, 0), (4, 82), (0, 0), (4, 83), (4, 84), (4, 85), (4, 86), (4, 87), (4, 88), (4, 89), (4, 90), (4, 91), (0, 0), (0, 0), (4, 92), (4, 93), (4, 94), (4, 95), (4, 96), (0, 0), (0, 0), (4, 97), (4, 98), (4, 99), (4, 100), (4, 101), (4, 102), (0, 0), (4, 103), (4, 104), (4, 105), (4, 106), (4, 107), (4, 108), (4, 109), (0, 0), (4, 110), (0, 0), (0, 0), (0, 0), (0, 0), (4, 111), (4, 154), (0, 0), (4, 155), (4, 156), (4, 157), (4, 166), (4, 170), (5, 0), (5, 0), (5, 0), (5, 0), (5, 0), (5, 0), (5, 0), (5, 0), (5, 0), (5, 0), (5, 0), (5, 0), (0, 0), (5, 0), (5, 0), (5, 0), (5, 0), (5, 0), (5, 0), (5, 0), (0, 0), (0, 0), (0, 0), (5, 0), (5, 0), (0, 0), (5, 0), (5, 0), (5, 0), (0, 0)]))) (by decide) wk_1214 (t := 179) rfl rfl rfl (hAd 179 (by decide)) rfl rfl dM_init_407 ?_
  show bn_J K b0 1 410 106 12621 [(0, .ref (b0 + 81))] [] nS_236 mM_15
  refine n_aload_n X dM_init_410 rfl 0 rfl ?_
  refine n_iconst X dM_init_411 ?_
  refine n_newJ X (n := 4) (L := 188) (by decide +kernel) (by decide) (by decide) (fun _ => rfl) (by decide) (by decide) dM_init_412 ?_
  show bn_J K b0 1 414 107 12625 [(0, .ref (b0 + 81))] [.ref (b0 + 188), .ref (b0 + 81)] nS_237 mM_15
  refine n_puta X Y (kf := 50) ri_12 ry_12 rk_12 rn_12 rfl (by decide +kernel : nS_237[81]? = some (.inr (12, [(0, 0), (4, 82), (0, 0), (4, 83), (4, 84), (4, 85), (4, 86), (4, 87), (4, 88), (4, 89), (4, 90), (4, 91), (0, 0), (0, 0), (4, 92), (4, 93), (4, 94), (4, 95), (4, 96), (0, 0), (0, 0), (4, 97), (4, 98), (4, 99), (4, 100), (4, 101), (4, 102), (0, 0), (4, 103), (4, 104), (4, 105), (4, 106), (4, 107), (4, 108), (4, 109), (0, 0), (4, 110), (0, 0), (0, 0), (0, 0), (0, 0), (4, 111), (4, 154), (0, 0), (4, 155), (4, 156), (4, 157), (4, 166), (4, 170), (4, 179), (5, 0), (5, 0), (5, 0), (5, 0), (5, 0), (5, 0), (5, 0), (5, 0), (5, 0), (5, 0), (5, 0), (0, 0), (5, 0), (5, 0), (5, 0), (5, 0), (5, 0), (5, 0), (5, 0), (0, 0), (0, 0), (0, 0), (5, 0), (5, 0), (0, 0), (5, 0), (5, 0), (5, 0), (0, 0)]))) (by decide) wk_1215 (t := 188) rfl rfl rfl (hAd 188 (by decide)) rfl rfl dM_init_414 ?_
  show bn_J K b0 1 417 107 12625 [(0, .ref (b0 + 81))] [] nS_238 mM_15
  refine n_aload_n X dM_init_417 rfl 0 rfl ?_
  refine n_sipush X dM_init_418 rfl ?_
  refine n_newJ X (n := 200) (L := 189) (by decide +kernel) (by decide) (by decide) (fun _ => rfl) (by decide) (by decide) dM_init_421 ?_
  show bn_J K b0 1 423 108 12825 [(0, .ref (b0 + 81))] [.ref (b0 + 189), .ref (b0 + 81)] nS_239 mM_15
  refine n_puta X Y (kf := 51) ri_12 ry_12 rk_12 rn_12 rfl (by decide +kernel : nS_239[81]? = some (.inr (12, [(0, 0), (4, 82), (0, 0), (4, 83), (4, 84), (4, 85), (4, 86), (4, 87), (4, 88), (4, 89), (4, 90), (4, 91), (0, 0), (0, 0), (4, 92), (4, 93), (4, 94), (4, 95), (4, 96), (0, 0), (0, 0), (4, 97), (4, 98), (4, 99), (4, 100), (4, 101), (4, 102), (0, 0), (4, 103), (4, 104), (4, 105), (4, 106), (4, 107), (4, 108), (4, 109), (0, 0), (4, 110), (0, 0), (0, 0), (0, 0), (0, 0), (4, 111), (4, 154), (0, 0), (4, 155), (4, 156), (4, 157), (4, 166), (4, 170), (4, 179), (4, 188), (5, 0), (5, 0), (5, 0), (5, 0), (5, 0), (5, 0), (5, 0), (5, 0), (5, 0), (5, 0), (0, 0), (5, 0), (5, 0), (5, 0), (5, 0), (5, 0), (5, 0), (5, 0), (0, 0), (0, 0), (0, 0), (5, 0), (5, 0), (0, 0), (5, 0), (5, 0), (5, 0), (0, 0)]))) (by decide) wk_1216 (t := 189) rfl rfl rfl (hAd 189 (by decide)) rfl rfl dM_init_423 ?_
  show bn_J K b0 1 426 108 12825 [(0, .ref (b0 + 81))] [] nS_240 mM_15
  refine n_aload_n X dM_init_426 rfl 0 rfl ?_
  refine n_iconst X dM_init_427 ?_
  refine n_bipush X dM_init_428 rfl ?_
  refine n_m2J X (N1 := 4) (N2 := 8) (L := 190) (base := 191) (by decide +kernel) (by decide) (by decide) (by decide) (by decide) (fun i hi => by rw [hAd _ (by omega), bn_hi (by omega)]) (fun i hi j => by rw [bn_hi2 (by omega)]; exact mz_15 _ (by omega) (by omega) (by omega) (by omega) j) (by decide) (by decide) wk_1163 dM_init_430 ?_
  show bn_J K b0 1 434 113 12861 [(0, .ref (b0 + 81))] [.ref (b0 + 190), .ref (b0 + 81)] nS_241 mM_15
  refine n_puta X Y (kf := 52) ri_12 ry_12 rk_12 rn_12 rfl (by decide +kernel : nS_241[81]? = some (.inr (12, [(0, 0), (4, 82), (0, 0), (4, 83), (4, 84), (4, 85), (4, 86), (4, 87), (4, 88), (4, 89), (4, 90), (4, 91), (0, 0), (0, 0), (4, 92), (4, 93), (4, 94), (4, 95), (4, 96), (0, 0), (0, 0), (4, 97), (4, 98), (4, 99), (4, 100), (4, 101), (4, 102), (0, 0), (4, 103), (4, 104), (4, 105), (4, 106), (4, 107), (4, 108), (4, 109), (0, 0), (4, 110), (0, 0), (0, 0), (0, 0), (0, 0), (4, 111), (4, 154), (0, 0), (4, 155), (4, 156), (4, 157), (4, 166), (4, 170), (4, 179), (4, 188), (4, 189), (5, 0), (5, 0), (5, 0), (5, 0), (5, 0), (5, 0), (5, 0), (5, 0), (5, 0), (0, 0), (5, 0), (5, 0), (5, 0), (5, 0), (5, 0), (5, 0), (5, 0), (0, 0), (0, 0), (0, 0), (5, 0), (5, 0), (0, 0), (5, 0), (5, 0), (5, 0), (0, 0)]))) (by decide) wk_1217 (t := 190) rfl rfl rfl (hAd 190 (by decide)) rfl rfl dM_init_434 ?_
  show bn_J K b0 1 437 113 12861 [(0, .ref (b0 + 81))] [] nS_242 mM_15
  refine n_aload_n X dM_init_437 rfl 0 rfl ?_
  refine n_iconst X dM_init_438 ?_
  refine n_sipush X dM_init_439 rfl ?_
  refine n_m2J X (N1 := 4) (N2 := 260) (L := 195) (base := 196) (by decide +kernel) (by decide) (by decide) (by decide) (by decide) (fun i hi => by rw [hAd _ (by omega), bn_hi (by omega)]) (fun i hi j => by rw [bn_hi2 (by omega)]; exact mz_15 _ (by omega) (by omega) (by omega) (by omega) j) (by decide) (by decide) wk_1163 dM_init_442 ?_
  show bn_J K b0 1 446 118 13905 [(0, .ref (b0 + 81))] [.ref (b0 + 195), .ref (b0 + 81)] nS_243 mM_15
  refine n_puta X Y (kf := 53) ri_12 ry_12 rk_12 rn_12 rfl (by decide +kernel : nS_243[81]? = some (.inr (12, [(0, 0), (4, 82), (0, 0), (4, 83), (4, 84), (4, 85), (4, 86), (4, 87), (4, 88), (4, 89), (4, 90), (4, 91), (0, 0), (0, 0), (4, 92), (4, 93), (4, 94), (4, 95), (4, 96), (0, 0), (0, 0), (4, 97), (4, 98), (4, 99), (4, 100), (4, 101), (4, 102), (0, 0), (4, 103), (4, 104), (4, 105), (4, 106), (4, 107), (4, 108), (4, 109), (0, 0), (4, 110), (0, 0), (0, 0), (0, 0), (0, 0), (4, 111), (4, 154), (0, 0), (4, 155), (4, 156), (4, 157), (4, 166), (4, 170), (4, 179), (4, 188), (4, 189), (4, 190), (5, 0), (5, 0), (5, 0), (5, 0), (5, 0), (5, 0), (5, 0), (5, 0), (0, 0), (5, 0), (5, 0), (5, 0), (5, 0), (5, 0), (5, 0), (5, 0), (0, 0), (0, 0), (0, 0), (5, 0), (5, 0), (0, 0), (5, 0), (5, 0), (5, 0), (0, 0)]))) (by decide) wk_1218 (t := 195) rfl rfl rfl (hAd 195 (by decide)) rfl rfl dM_init_446 ?_
  show bn_J K b0 1 449 118 13905 [(0, .ref (b0 + 81))] [] nS_244 mM_15
  refine n_aload_n X dM_init_449 rfl 0 rfl ?_
  refine n_iconst X dM_init_450 ?_
  refine n_sipush X dM_init_451 rfl ?_
  refine n_m2J X (N1 := 4) (N2 := 260) (L := 200) (base := 201) (by decide +kernel) (by decide) (by decide) (by decide) (by decide) (fun i hi => by rw [hAd _ (by omega), bn_hi (by omega)]) (fun i hi j => by rw [bn_hi2 (by omega)]; exact mz_15 _ (by omega) (by omega) (by omega) (by omega) j) (by decide) (by decide) wk_1163 dM_init_454 ?_
  show bn_J K b0 1 458 123 14949 [(0, .ref (b0 + 81))] [.ref (b0 + 200), .ref (b0 + 81)] nS_245 mM_15
  refine n_puta X Y (kf := 54) ri_12 ry_12 rk_12 rn_12 rfl (by decide +kernel : nS_245[81]? = some (.inr (12, [(0, 0), (4, 82), (0, 0), (4, 83), (4, 84), (4, 85), (4, 86), (4, 87), (4, 88), (4, 89), (4, 90), (4, 91), (0, 0), (0, 0), (4, 92), (4, 93), (4, 94), (4, 95), (4, 96), (0, 0), (0, 0), (4, 97), (4, 98), (4, 99), (4, 100), (4, 101), (4, 102), (0, 0), (4, 103), (4, 104), (4, 105), (4, 106), (4, 107), (4, 108), (4, 109), (0, 0), (4, 110), (0, 0), (0, 0), (0, 0), (0, 0), (4, 111), (4, 154), (0, 0), (4, 155), (4, 156), (4, 157), (4, 166), (4, 170), (4, 179), (4, 188), (4, 189), (4, 190), (4, 195), (5, 0), (5, 0), (5, 0), (5, 0), (5, 0), (5, 0), (5, 0), (0, 0), (5, 0), (5, 0), (5, 0), (5, 0), (5, 0), (5, 0), (5, 0), (0, 0), (0, 0), (0, 0), (5, 0), (5, 0), (0, 0), (5, 0), (5, 0), (5, 0), (0, 0)]))) (by decide) wk_1219 (t := 200) rfl rfl rfl (hAd 200 (by decide)) rfl rfl dM_init_458 ?_
  show bn_J K b0 1 461 123 14949 [(0, .ref (b0 + 81))] [] nS_246 mM_15
  refine n_aload_n X dM_init_461 rfl 0 rfl ?_
  refine n_iconst X dM_init_462 ?_
  refine n_bipush X dM_init_463 rfl ?_
  refine n_m2J X (N1 := 4) (N2 := 20) (L := 205) (base := 206) (by decide +kernel) (by decide) (by decide) (by decide) (by decide) (fun i hi => by rw [hAd _ (by omega), bn_hi (by omega)]) (fun i hi j => by rw [bn_hi2 (by omega)]; exact mz_15 _ (by omega) (by omega) (by omega) (by omega) j) (by decide) (by decide) wk_1163 dM_init_465 ?_
  show bn_J K b0 1 469 128 15033 [(0, .ref (b0 + 81))] [.ref (b0 + 205), .ref (b0 + 81)] nS_247 mM_15
  refine n_puta X Y (kf := 55) ri_12 ry_12 rk_12 rn_12 rfl (by decide +kernel : nS_247[81]? = some (.inr (12, [(0, 0), (4, 82), (0, 0), (4, 83), (4, 84), (4, 85), (4, 86), (4, 87), (4, 88), (4, 89), (4, 90), (4, 91), (0, 0), (0, 0), (4, 92), (4, 93), (4, 94), (4, 95), (4, 96), (0, 0), (0, 0), (4, 97), (4, 98), (4, 99), (4, 100), (4, 101), (4, 102), (0, 0), (4, 103), (4, 104), (4, 105), (4, 106), (4, 107), (4, 108), (4, 109), (0, 0), (4, 110), (0, 0), (0, 0), (0, 0), (0, 0), (4, 111), (4, 154), (0, 0), (4, 155), (4, 156), (4, 157), (4, 166), (4, 170), (4, 179), (4, 188), (4, 189), (4, 190), (4, 195), (4, 200), (5, 0), (5, 0), (5, 0), (5, 0), (5, 0), (5, 0), (0, 0), (5, 0), (5, 0), (5, 0), (5, 0), (5, 0), (5, 0), (5, 0), (0, 0), (0, 0), (0, 0), (5, 0), (5, 0), (0, 0), (5, 0), (5, 0), (5, 0), (0, 0)]))) (by decide) wk_1220 (t := 205) rfl rfl rfl (hAd 205 (by decide)) rfl rfl dM_init_469 ?_
  show bn_J K b0 1 472 128 15033 [(0, .ref (b0 + 81))] [] nS_248 mM_15
  refine n_aload_n X dM_init_472 rfl 0 rfl ?_
  refine n_iconst X dM_init_473 ?_
  refine n_newJ X (n := 4) (L := 210) (by decide +kernel) (by decide) (by decide) (fun _ => rfl) (by decide) (by decide) dM_init_474 ?_
  show bn_J K b0 1 476 129 15037 [(0, .ref (b0 + 81))] [.ref (b0 + 210), .ref (b0 + 81)] nS_249 mM_15
  refine n_puta X Y (kf := 56) ri_12 ry_12 rk_12 rn_12 rfl (by decide +kernel : nS_249[81]? = some (.inr (12, [(0, 0), (4, 82), (0, 0), (4, 83), (4, 84), (4, 85), (4, 86), (4, 87), (4, 88), (4, 89), (4, 90), (4, 91), (0, 0), (0, 0), (4, 92), (4, 93), (4, 94), (4, 95), (4, 96), (0, 0), (0, 0), (4, 97), (4, 98), (4, 99), (4, 100), (4, 101), (4, 102), (0, 0), (4, 103), (4, 104), (4, 105), (4, 106), (4, 107), (4, 108), (4, 109), (0, 0), (4, 110), (0, 0), (0, 0), (0, 0), (0, 0), (4, 111), (4, 154), (0, 0), (4, 155), (4, 156), (4, 157), (4, 166), (4, 170), (4, 179), (4, 188), (4, 189), (4, 190), (4, 195), (4, 200), (4, 205), (5, 0), (5, 0), (5, 0), (5, 0), (5, 0), (0, 0), (5, 0), (5, 0), (5, 0), (5, 0), (5, 0), (5, 0), (5, 0), (0, 0), (0, 0), (0, 0), (5, 0), (5, 0), (0, 0), (5, 0), (5, 0), (5, 0), (0, 0)]))) (by decide) wk_1221 (t := 210) rfl rfl rfl (hAd 210 (by decide)) rfl rfl dM_init_476 ?_
  show bn_J K b0 1 479 129 15037 [(0, .ref (b0 + 81))] [] nS_250 mM_15
  refine n_aload_n X dM_init_479 rfl 0 rfl ?_
  refine n_iconst X dM_init_480 ?_
  refine n_sipush X dM_init_481 rfl ?_
  refine n_m2J X (N1 := 4) (N2 := 260) (L := 211) (base := 212) (by decide +kernel) (by decide) (by decide) (by decide) (by decide) (fun i hi => by rw [hAd _ (by omega), bn_hi (by omega)]) (fun i hi j => by rw [bn_hi2 (by omega)]; exact mz_15 _ (by omega) (by omega) (by omega) (by omega) j) (by decide) (by decide) wk_1163 dM_init_484 ?_
  show bn_J K b0 1 488 134 16081 [(0, .ref (b0 + 81))] [.ref (b0 + 211), .ref (b0 + 81)] nS_251 mM_15
  refine n_puta X Y (kf := 57) ri_12 ry_12 rk_12 rn_12 rfl (by decide +kernel : nS_251[81]? = some (.inr (12, [(0, 0), (4, 82), (0, 0), (4, 83), (4, 84), (4, 85), (4, 86), (4, 87), (4, 88), (4, 89), (4, 90), (4, 91), (0, 0), (0, 0), (4, 92), (4, 93), (4, 94), (4, 95), (4, 96), (0, 0), (0, 0), (4, 97), (4, 98), (4, 99), (4, 100), (4, 101), (4, 102), (0, 0), (4, 103), (4, 104), (4, 105), (4, 106), (4, 107), (4, 108), (4, 109), (0, 0), (4, 110), (0, 0), (0, 0), (0, 0), (0, 0), (4, 111), (4, 154), (0, 0), (4, 155), (4, 156), (4, 157), (4, 166), (4, 170), (4, 179), (4, 188), (4, 189), (4, 190), (4, 195), (4, 200), (4, 205), (4, 210), (5, 0), (5, 0), (5, 0), (5, 0), (0, 0), (5, 0), (5, 0), (5, 0), (5, 0), (5, 0), (5, 0), (5, 0), (0, 0), (0, 0), (0, 0), (5, 0), (5, 0), (0, 0), (5, 0), (5, 0), (5, 0), (0, 0)]))) (by decide) wk_1222 (t := 211) rfl rfl rfl (hAd 211 (by decide)) rfl rfl dM_init_488 ?_
  show bn_J K b0 1 491 134 16081 [(0, .ref (b0 + 81))] [] nS_252 mM_15
  refine n_aload_n X dM_init_491 rfl 0 rfl ?_
  refine n_iconst X dM_init_492 ?_
  refine n_sipush X dM_init_493 rfl ?_
  refine n_m2J X (N1 := 4) (N2 := 260) (L := 216) (base := 217) (by decide +kernel) (by decide) (by decide) (by decide) (by decide) (fun i hi => by rw [hAd _ (by omega), bn_hi (by omega)]) (fun i hi j => by rw [bn_hi2 (by omega)]; exact mz_15 _ (by omega) (by omega) (by omega) (by omega) j) (by decide) (by decide) wk_1163 dM_init_496 ?_
  show bn_J K b0 1 500 139 17125 [(0, .ref (b0 + 81))] [.ref (b0 + 216), .ref (b0 + 81)] nS_253 mM_15
  refine n_puta X Y (kf := 58) ri_12 ry_12 rk_12 rn_12 rfl (by decide +kernel : nS_253[81]? = some (.inr (12, [(0, 0), (4, 82), (0, 0), (4, 83), (4, 84), (4, 85), (4, 86), (4, 87), (4, 88), (4, 89), (4, 90), (4, 91), (0, 0), (0, 0), (4, 92), (4, 93), (4, 94), (4, 95), (4, 96), (0, 0), (0, 0), (4, 97), (4, 98), (4, 99), (4, 100), (4, 101), (4, 102), (0, 0), (4, 103), (4, 104), (4, 105), (4, 106), (4, 107), (4, 108), (4, 109), (0, 0), (4, 110), (0, 0), (0, 0), (0, 0), (0, 0), (4, 111), (4, 154), (0, 0), (4, 155), (4, 156), (4, 157), (4, 166), (4, 170), (4, 179), (4, 188), (4, 189), (4, 190), (4, 195), (4, 200), (4, 205), (4, 210), (4, 211), (5, 0), (5, 0), (5, 0), (0, 0), (5, 0), (5, 0), (5, 0), (5, 0), (5, 0), (5, 0), (5, 0), (0, 0), (0, 0), (0, 0), (5, 0), (5, 0), (0, 0), (5, 0), (5, 0), (5, 0), (0, 0)]))) (by decide) wk_1223 (t := 216) rfl rfl rfl (hAd 216 (by decide)) rfl rfl dM_init_500 ?_
  show bn_J K b0 1 503 139 17125 [(0, .ref (b0 + 81))] [] nS_254 mM_15
  refine n_aload_n X dM_init_503 rfl 0 rfl ?_
  refine n_sipush X dM_init_504 rfl ?_
  refine n_newZ X (n := 260) (L := 221) (by decide +kernel) (by decide) (by decide) (fun _ => rfl) (by decide) (by decide) dM_init_507 ?_
  show bn_J K b0 1 509 140 17385 [(0, .ref (b0 + 81))] [.ref (b0 + 221), .ref (b0 + 81)] nS_255 mM_15
  refine n_puta X Y (kf := 59) ri_12 ry_12 rk_12 rn_12 rfl (by decide +kernel : nS_255[81]? = some (.inr (12, [(0, 0), (4, 82), (0, 0), (4, 83), (4, 84), (4, 85), (4, 86), (4, 87), (4, 88), (4, 89), (4, 90), (4, 91), (0, 0), (0, 0), (4, 92), (4, 93), (4, 94), (4, 95), (4, 96), (0, 0), (0, 0), (4, 97), (4, 98), (4, 99), (4, 100), (4, 101), (4, 102), (0, 0), (4, 103), (4, 104), (4, 105), (4, 106), (4, 107), (4, 108), (4, 109), (0, 0), (4, 110), (0, 0), (0, 0), (0, 0), (0, 0), (4, 111), (4, 154), (0, 0), (4, 155), (4, 156), (4, 157), (4, 166), (4, 170), (4, 179), (4, 188), (4, 189), (4, 190), (4, 195), (4, 200), (4, 205), (4, 210), (4, 211), (4, 216), (5, 0), (5, 0), (0, 0), (5, 0), (5, 0), (5, 0), (5, 0), (5, 0), (5, 0), (5, 0), (0, 0), (0, 0), (0, 0), (5, 0), (5, 0), (0, 0), (5, 0), (5, 0), (5, 0), (0, 0)]))) (by decide) wk_1224 (t := 221) rfl rfl rfl (hAd 221 (by decide)) rfl rfl dM_init_509 ?_
  show bn_J K b0 1 512 140 17385 [(0, .ref (b0 + 81))] [] nS_256 mM_15
  refine n_aload_n X dM_init_512 rfl 0 rfl ?_
  refine n_bipush X dM_init_513 rfl ?_
  refine n_newJ X (n := 20) (L := 222) (by decide +kernel) (by decide) (by decide) (fun _ => rfl) (by decide) (by decide) dM_init_515 ?_
  show bn_J K b0 1 517 141 17405 [(0, .ref (b0 + 81))] [.ref (b0 + 222), .ref (b0 + 81)] nS_257 mM_15
  refine n_puta X Y (kf := 60) ri_12 ry_12 rk_12 rn_12 rfl (by decide +kernel : nS_257[81]? = some (.inr (12, [(0, 0), (4, 82), (0, 0), (4, 83), (4, 84), (4, 85), (4, 86), (4, 87), (4, 88), (4, 89), (4, 90), (4, 91), (0, 0), (0, 0), (4, 92), (4, 93), (4, 94), (4, 95), (4, 96), (0, 0), (0, 0), (4, 97), (4, 98), (4, 99), (4, 100), (4, 101), (4, 102), (0, 0), (4, 103), (4, 104), (4, 105), (4, 106), (4, 107), (4, 108), (4, 109), (0, 0), (4, 110), (0, 0), (0, 0), (0, 0), (0, 0), (4, 111), (4, 154), (0, 0), (4, 155), (4, 156), (4, 157), (4, 166), (4, 170), (4, 179), (4, 188), (4, 189), (4, 190), (4, 195), (4, 200), (4, 205), (4, 210), (4, 211), (4, 216), (4, 221), (5, 0), (0, 0), (5, 0), (5, 0), (5, 0), (5, 0), (5, 0), (5, 0), (5, 0), (0, 0), (0, 0), (0, 0), (5, 0), (5, 0), (0, 0), (5, 0), (5, 0), (5, 0), (0, 0)]))) (by decide) wk_1225 (t := 222) rfl rfl rfl (hAd 222 (by decide)) rfl rfl dM_init_517 ?_
  show bn_J K b0 1 520 141 17405 [(0, .ref (b0 + 81))] [] nS_258 mM_15
  refine n_aload_n X dM_init_520 rfl 0 rfl ?_
  refine n_bipush X dM_init_521 rfl ?_
  refine n_newJ X (n := 20) (L := 223) (by decide +kernel) (by decide) (by decide) (fun _ => rfl) (by decide) (by decide) dM_init_523 ?_
  show bn_J K b0 1 525 142 17425 [(0, .ref (b0 + 81))] [.ref (b0 + 223), .ref (b0 + 81)] nS_259 mM_15
  refine n_puta X Y (kf := 62) ri_12 ry_12 rk_12 rn_12 rfl (by decide +kernel : nS_259[81]? = some (.inr (12, [(0, 0), (4, 82), (0, 0), (4, 83), (4, 84), (4, 85), (4, 86), (4, 87), (4, 88), (4, 89), (4, 90), (4, 91), (0, 0), (0, 0), (4, 92), (4, 93), (4, 94), (4, 95), (4, 96), (0, 0), (0, 0), (4, 97), (4, 98), (4, 99), (4, 100), (4, 101), (4, 102), (0, 0), (4, 103), (4, 104), (4, 105), (4, 106), (4, 107), (4, 108), (4, 109), (0, 0), (4, 110), (0, 0), (0, 0), (0, 0), (0, 0), (4, 111), (4, 154), (0, 0), (4, 155), (4, 156), (4, 157), (4, 166), (4, 170), (4, 179), (4, 188), (4, 189), (4, 190), (4, 195), (4, 200), (4, 205), (4, 210), (4, 211), (4, 216), (4, 221), (4, 222), (0, 0), (5, 0), (5, 0), (5, 0), (5, 0), (5, 0), (5, 0), (5, 0), (0, 0), (0, 0), (0, 0), (5, 0), (5, 0), (0, 0), (5, 0), (5, 0), (5, 0), (0, 0)]))) (by decide) wk_1227 (t := 223) rfl rfl rfl (hAd 223 (by decide)) rfl rfl dM_init_525 ?_
  show bn_J K b0 1 528 142 17425 [(0, .ref (b0 + 81))] [] nS_260 mM_15
  refine n_aload_n X dM_init_528 rfl 0 rfl ?_
  refine n_bipush X dM_init_529 rfl ?_
  refine n_newJ X (n := 20) (L := 224) (by decide +kernel) (by decide) (by decide) (fun _ => rfl) (by decide) (by decide) dM_init_531 ?_
  show bn_J K b0 1 533 143 17445 [(0, .ref (b0 + 81))] [.ref (b0 + 224), .ref (b0 + 81)] nS_261 mM_15
  refine n_puta X Y (kf := 63) ri_12 ry_12 rk_12 rn_12 rfl (by decide +kernel : nS_261[81]? = some (.inr (12, [(0, 0), (4, 82), (0, 0), (4, 83), (4, 84), (4, 85), (4, 86), (4, 87), (4, 88), (4, 89), (4, 90), (4, 91), (0, 0), (0, 0), (4, 92), (4, 93), (4, 94), (4, 95), (4, 96), (0, 0), (0, 0), (4, 97), (4, 98), (4, 99), (4, 100), (4, 101), (4, 102), (0, 0), (4, 103), (4, 104), (4, 105), (4, 106), (4, 107), (4, 108), (4, 109), (0, 0), (4, 110), (0, 0), (0, 0), (0, 0), (0, 0), (4, 111), (4, 154), (0, 0), (4, 155), (4, 156), (4, 157), (4, 166), (4, 170), (4, 179), (4, 188), (4, 189), (4, 190), (4, 195), (4, 200), (4, 205), (4, 210), (4, 211), (4, 216), (4, 221), (4, 222), (0, 0), (4, 223), (5, 0), (5, 0), (5, 0), (5, 0), (5, 0), (5, 0), (0, 0), (0, 0), (0, 0), (5, 0), (5, 0), (0, 0), (5, 0), (5, 0), (5, 0), (0, 0)]))) (by decide) wk_1228 (t := 224) rfl rfl rfl (hAd 224 (by decide)) rfl rfl dM_init_533 ?_
  show bn_J K b0 1 536 143 17445 [(0, .ref (b0 + 81))] [] nS_262 mM_15
  refine n_aload_n X dM_init_536 rfl 0 rfl ?_
  refine n_bipush X dM_init_537 rfl ?_
  refine n_newJ X (n := 20) (L := 225) (by decide +kernel) (by decide) (by decide) (fun _ => rfl) (by decide) (by decide) dM_init_539 ?_
  show bn_J K b0 1 541 144 17465 [(0, .ref (b0 + 81))] [.ref (b0 + 225), .ref (b0 + 81)] nS_263 mM_15
  refine n_puta X Y (kf := 64) ri_12 ry_12 rk_12 rn_12 rfl (by decide +kernel : nS_263[81]? = some (.inr (12, [(0, 0), (4, 82), (0, 0), (4, 83), (4, 84), (4, 85), (4, 86), (4, 87), (4, 88), (4, 89), (4, 90), (4, 91), (0, 0), (0, 0), (4, 92), (4, 93), (4, 94), (4, 95), (4, 96), (0, 0), (0, 0), (4, 97), (4, 98), (4, 99), (4, 100), (4, 101), (4, 102), (0, 0), (4, 103), (4, 104), (4, 105), (4, 106), (4, 107), (4, 108), (4, 109), (0, 0), (4, 110), (0, 0), (0, 0), (0, 0), (0, 0), (4, 111), (4, 154), (0, 0), (4, 155), (4, 156), (4, 157), (4, 166), (4, 170), (4, 179), (4, 188), (4, 189), (4, 190), (4, 195), (4, 200), (4, 205), (4, 210), (4, 211), (4, 216), (4, 221), (4, 222), (0, 0), (4, 223), (4, 224), (5, 0), (5, 0), (5, 0), (5, 0), (5, 0), (0, 0), (0, 0), (0, 0), (5, 0), (5, 0), (0, 0), (5, 0), (5, 0), (5, 0), (0, 0)]))) (by decide) wk_1229 (t := 225) rfl rfl rfl (hAd 225 (by decide)) rfl rfl dM_init_541 ?_
  show bn_J K b0 1 544 144 17465 [(0, .ref (b0 + 81))] [] nS_264 mM_15
  refine n_aload_n X dM_init_544 rfl 0 rfl ?_
  refine n_bipush X dM_init_545 rfl ?_
  refine n_newI X (n := 20) (L := 226) (by decide +kernel) (by decide) (by decide) (fun _ => rfl) (by decide) (by decide) dM_init_547 ?_
  show bn_J K b0 1 549 145 17485 [(0, .ref (b0 + 81))] [.ref (b0 + 226), .ref (b0 + 81)] nS_265 mM_15
  refine n_puta X Y (kf := 65) ri_12 ry_12 rk_12 rn_12 rfl (by decide +kernel : nS_265[81]? = some (.inr (12, [(0, 0), (4, 82), (0, 0), (4, 83), (4, 84), (4, 85), (4, 86), (4, 87), (4, 88), (4, 89), (4, 90), (4, 91), (0, 0), (0, 0), (4, 92), (4, 93), (4, 94), (4, 95), (4, 96), (0, 0), (0, 0), (4, 97), (4, 98), (4, 99), (4, 100), (4, 101), (4, 102), (0, 0), (4, 103), (4, 104), (4, 105), (4, 106), (4, 107), (4, 108), (4, 109), (0, 0), (4, 110), (0, 0), (0, 0), (0, 0), (0, 0), (4, 111), (4, 154), (0, 0), (4, 155), (4, 156), (4, 157), (4, 166), (4, 170), (4, 179), (4, 188), (4, 189), (4, 190), (4, 195), (4, 200), (4, 205), (4, 210), (4, 211), (4, 216), (4, 221), (4, 222), (0, 0), (4, 223), (4, 224), (4, 225), (5, 0), (5, 0), (5, 0), (5, 0), (0, 0), (0, 0), (0, 0), (5, 0), (5, 0), (0, 0), (5, 0), (5, 0), (5, 0), (0, 0)]))) (by decide) wk_1230 (t := 226) rfl rfl rfl (hAd 226 (by decide)) rfl rfl dM_init_549 ?_
  show bn_J K b0 1 552 145 17485 [(0, .ref (b0 + 81))] [] nS_266 mM_15
  refine n_aload_n X dM_init_552 rfl 0 rfl ?_
  refine n_bipush X dM_init_553 rfl ?_
  refine n_newI X (n := 8) (L := 227) (by decide +kernel) (by decide) (by decide) (fun _ => rfl) (by decide) (by decide) dM_init_555 ?_
  show bn_J K b0 1 557 146 17493 [(0, .ref (b0 + 81))] [.ref (b0 + 227), .ref (b0 + 81)] nS_267 mM_15
  refine n_puta X Y (kf := 66) ri_12 ry_12 rk_12 rn_12 rfl (by decide +kernel : nS_267[81]? = some (.inr (12, [(0, 0), (4, 82), (0, 0), (4, 83), (4, 84), (4, 85), (4, 86), (4, 87), (4, 88), (4, 89), (4, 90), (4, 91), (0, 0), (0, 0), (4, 92), (4, 93), (4, 94), (4, 95), (4, 96), (0, 0), (0, 0), (4, 97), (4, 98), (4, 99), (4, 100), (4, 101), (4, 102), (0, 0), (4, 103), (4, 104), (4, 105), (4, 106), (4, 107), (4, 108), (4, 109), (0, 0), (4, 110), (0, 0), (0, 0), (0, 0), (0, 0), (4, 111), (4, 154), (0, 0), (4, 155), (4, 156), (4, 157), (4, 166), (4, 170), (4, 179), (4, 188), (4, 189), (4, 190), (4, 195), (4, 200), (4, 205), (4, 210), (4, 211), (4, 216), (4, 221), (4, 222), (0, 0), (4, 223), (4, 224), (4, 225), (4, 226), (5, 0), (5, 0), (5, 0), (0, 0), (0, 0), (0, 0), (5, 0), (5, 0), (0, 0), (5, 0), (5, 0), (5, 0), (0, 0)]))) (by decide) wk_1231 (t := 227) rfl rfl rfl (hAd 227 (by decide)) rfl rfl dM_init_557 ?_
  show bn_J K b0 1 560 146 17493 [(0, .ref (b0 + 81))] [] nS_268 mM_15
  refine n_aload_n X dM_init_560 rfl 0 rfl ?_
  refine n_bipush X dM_init_561 rfl ?_
  refine n_newI X (n := 8) (L := 228) (by decide +kernel) (by decide) (by decide) (fun _ => rfl) (by decide) (by decide) dM_init_563 ?_
  show bn_J K b0 1 565 147 17501 [(0, .ref (b0 + 81))] [.ref (b0 + 228), .ref (b0 + 81)] nS_269 mM_15
  refine n_puta X Y (kf := 67) ri_12 ry_12 rk_12 rn_12 rfl (by decide +kernel : nS_269[81]? = some (.inr (12, [(0, 0), (4, 82), (0, 0), (4, 83), (4, 84), (4, 85), (4, 86), (4, 87), (4, 88), (4, 89), (4, 90), (4, 91), (0, 0), (0, 0), (4, 92), (4, 93), (4, 94), (4, 95), (4, 96), (0, 0), (0, 0), (4, 97), (4, 98), (4, 99), (4, 100), (4, 101), (4, 102), (0, 0), (4, 103), (4, 104), (4, 105), (4, 106), (4, 107), (4, 108), (4, 109), (0, 0), (4, 110), (0, 0), (0, 0), (0, 0), (0, 0), (4, 111), (4, 154), (0, 0), (4, 155), (4, 156), (4, 157), (4, 166), (4, 170), (4, 179), (4, 188), (4, 189), (4, 190), (4, 195), (4, 200), (4, 205), (4, 210), (4, 211), (4, 216), (4, 221), (4, 222), (0, 0), (4, 223), (4, 224), (4, 225), (4, 226), (4, 227), (5, 0), (5, 0), (0, 0), (0, 0), (0, 0), (5, 0), (5, 0), (0, 0), (5, 0), (5, 0), (5, 0), (0, 0)]))) (by decide) wk_1232 (t := 228) rfl rfl rfl (hAd 228 (by decide)) rfl rfl dM_init_565 ?_
  show bn_J K b0 1 568 147 17501 [(0, .ref (b0 + 81))] [] nS_270 mM_15
  refine n_aload_n X dM_init_568 rfl 0 rfl ?_
  refine n_bipush X dM_init_569 rfl ?_
  refine n_newI X (n := 8) (L := 229) (by decide +kernel) (by decide) (by decide) (fun _ => rfl) (by decide) (by decide) dM_init_571 ?_
  show bn_J K b0 1 573 148 17509 [(0, .ref (b0 + 81))] [.ref (b0 + 229), .ref (b0 + 81)] nS_271 mM_15
  refine n_puta X Y (kf := 68) ri_12 ry_12 rk_12 rn_12 rfl (by decide +kernel : nS_271[81]? = some (.inr (12, [(0, 0), (4, 82), (0, 0), (4, 83), (4, 84), (4, 85), (4, 86), (4, 87), (4, 88), (4, 89), (4, 90), (4, 91), (0, 0), (0, 0), (4, 92), (4, 93), (4, 94), (4, 95), (4, 96), (0, 0), (0, 0), (4, 97), (4, 98), (4, 99), (4, 100), (4, 101), (4, 102), (0, 0), (4, 103), (4, 104), (4, 105), (4, 106), (4, 107), (4, 108), (4, 109), (0, 0), (4, 110), (0, 0), (0, 0), (0, 0), (0, 0), (4, 111), (4, 154), (0, 0), (4, 155), (4, 156), (4, 157), (4, 166), (4, 170), (4, 179), (4, 188), (4, 189), (4, 190), (4, 195), (4, 200), (4, 205), (4, 210), (4, 211), (4, 216), (4, 221), (4, 222), (0, 0), (4, 223), (4, 224), (4, 225), (4, 226), (4, 227), (4, 228), (5, 0), (0, 0), (0, 0), (0, 0), (5, 0), (5, 0), (0, 0), (5, 0), (5, 0), (5, 0), (0, 0)]))) (by decide) wk_1233 (t := 229) rfl rfl rfl (hAd 229 (by decide)) rfl rfl dM_init_573 ?_
  show bn_J K b0 1 576 148 17509 [(0, .ref (b0 + 81))] [] nS_272 mM_15
  refine n_aload_n X dM_init_576 rfl 0 rfl ?_
  refine n_bipush X dM_init_577 rfl ?_
  refine n_newJ X (n := 22) (L := 230) (by decide +kernel) (by decide) (by decide) (fun _ => rfl) (by decide) (by decide) dM_init_579 ?_
  show bn_J K b0 1 581 149 17531 [(0, .ref (b0 + 81))] [.ref (b0 + 230), .ref (b0 + 81)] nS_273 mM_15
  refine n_puta X Y (kf := 72) ri_12 ry_12 rk_12 rn_12 rfl (by decide +kernel : nS_273[81]? = some (.inr (12, [(0, 0), (4, 82), (0, 0), (4, 83), (4, 84), (4, 85), (4, 86), (4, 87), (4, 88), (4, 89), (4, 90), (4, 91), (0, 0), (0, 0), (4, 92), (4, 93), (4, 94), (4, 95), (4, 96), (0, 0), (0, 0), (4, 97), (4, 98), (4, 99), (4, 100), (4, 101), (4, 102), (0, 0), (4, 103), (4, 104), (4, 105), (4, 106), (4, 107), (4, 108), (4, 109), (0, 0), (4, 110), (0, 0), (0, 0), (0, 0), (0, 0), (4, 111), (4, 154), (0, 0), (4, 155), (4, 156), (4, 157), (4, 166), (4, 170), (4, 179), (4, 188), (4, 189), (4, 190), (4, 195), (4, 200), (4, 205), (4, 210), (4, 211), (4, 216), (4, 221), (4, 222), (0, 0), (4, 223), (4, 224), (4, 225), (4, 226), (4, 227), (4, 228), (4, 229), (0, 0), (0, 0), (0, 0), (5, 0), (5, 0), (0, 0), (5, 0), (5, 0), (5, 0), (0, 0)]))) (by decide) wk_1237 (t := 230) rfl rfl rfl (hAd 230 (by decide)) rfl rfl dM_init_581 ?_
  show bn_J K b0 1 584 149 17531 [(0, .ref (b0 + 81))] [] nS_274 mM_15
  refine n_aload_n X dM_init_584 rfl 0 rfl ?_
  refine n_bipush X dM_init_585 rfl ?_
  refine n_newI X (n := 10) (L := 231) (by decide +kernel) (by decide) (by decide) (fun _ => rfl) (by decide) (by decide) dM_init_587 ?_
  show bn_J K b0 1 589 150 17541 [(0, .ref (b0 + 81))] [.ref (b0 + 231), .ref (b0 + 81)] nS_275 mM_15
  refine n_puta X Y (kf := 73) ri_12 ry_12 rk_12 rn_12 rfl (by decide +kernel : nS_275[81]? = some (.inr (12, [(0, 0), (4, 82), (0, 0), (4, 83), (4, 84), (4, 85), (4, 86), (4, 87), (4, 88), (4, 89), (4, 90), (4, 91), (0, 0), (0, 0), (4, 92), (4, 93), (4, 94), (4, 95), (4, 96), (0, 0), (0, 0), (4, 97), (4, 98), (4, 99), (4, 100), (4, 101), (4, 102), (0, 0), (4, 103), (4, 104), (4, 105), (4, 106), (4, 107), (4, 108), (4, 109), (0, 0), (4, 110), (0, 0), (0, 0), (0, 0), (0, 0), (4, 111), (4, 154), (0, 0), (4, 155), (4, 156), (4, 157), (4, 166), (4, 170), (4, 179), (4, 188), (4, 189), (4, 190), (4, 195), (4, 200), (4, 205), (4, 210), (4, 211), (4, 216), (4, 221), (4, 222), (0, 0), (4, 223), (4, 224), (4, 225), (4, 226), (4, 227), (4, 228), (4, 229), (0, 0), (0, 0), (0, 0), (4, 230), (5, 0), (0, 0), (5, 0), (5, 0), (5, 0), (0, 0)]))) (by decide) wk_1238 (t := 231) rfl rfl rfl (hAd 231 (by decide)) rfl rfl dM_init_589 ?_
  show bn_J K b0 1 592 150 17541 [(0, .ref (b0 + 81))] [] nS_276 mM_15
  refine n_aload_n X dM_init_592 rfl 0 rfl ?_
  refine n_sipush X dM_init_593 rfl ?_
  refine n_newI X (n := 1024) (L := 232) (by decide +kernel) (by decide) (by decide) (fun _ => rfl) (by decide) (by decide) dM_init_596 ?_
  show bn_J K b0 1 598 151 18565 [(0, .ref (b0 + 81))] [.ref (b0 + 232), .ref (b0 + 81)] nS_277 mM_15
  refine n_puta X Y (kf := 75) ri_12 ry_12 rk_12 rn_12 rfl (by decide +kernel : nS_277[81]? = some (.inr (12, [(0, 0), (4, 82), (0, 0), (4, 83), (4, 84), (4, 85), (4, 86), (4, 87), (4, 88), (4, 89), (4, 90), (4, 91), (0, 0), (0, 0), (4, 92), (4, 93), (4, 94), (4, 95), (4, 96), (0, 0), (0, 0), (4, 97), (4, 98), (4, 99), (4, 100), (4, 101), (4, 102), (0, 0), (4, 103), (4, 104), (4, 105), (4, 106), (4, 107), (4, 108), (4, 109), (0, 0), (4, 110), (0, 0), (0, 0), (0, 0), (0, 0), (4, 111), (4, 154), (0, 0), (4, 155), (4, 156), (4, 157), (4, 166), (4, 170), (4, 179), (4, 188), (4, 189), (4, 190), (4, 195), (4, 200), (4, 205), (4, 210), (4, 211), (4, 216), (4, 221), (4, 222), (0, 0), (4, 223), (4, 224), (4, 225), (4, 226), (4, 227), (4, 228), (4, 229), (0, 0), (0, 0), (0, 0), (4, 230), (4, 231), (0, 0), (5, 0), (5, 0), (5, 0), (0, 0)]))) (by decide) wk_1240 (t := 232) rfl rfl rfl (hAd 232 (by decide)) rfl rfl dM_init_598 ?_
  show bn_J K b0 1 601 151 18565 [(0, .ref (b0 + 81))] [] nS_278 mM_15
  refine n_aload_n X dM_init_601 rfl 0 rfl ?_
  refine n_sipush X dM_init_602 rfl ?_
  refine n_newJ X (n := 1024) (L := 233) (by decide +kernel) (by decide) (by decide) (fun _ => rfl) (by decide) (by decide) dM_init_605 ?_
  show bn_J K b0 1 607 152 19589 [(0, .ref (b0 + 81))] [.ref (b0 + 233), .ref (b0 + 81)] nS_279 mM_15
  refine n_puta X Y (kf := 76) ri_12 ry_12 rk_12 rn_12 rfl (by decide +kernel : nS_279[81]? = some (.inr (12, [(0, 0), (4, 82), (0, 0), (4, 83), (4, 84), (4, 85), (4, 86), (4, 87), (4, 88), (4, 89), (4, 90), (4, 91), (0, 0), (0, 0), (4, 92), (4, 93), (4, 94), (4, 95), (4, 96), (0, 0), (0, 0), (4, 97), (4, 98), (4, 99), (4, 100), (4, 101), (4, 102), (0, 0), (4, 103), (4, 104), (4, 105), (4, 106), (4, 107), (4, 108), (4, 109), (0, 0), (4, 110), (0, 0), (0, 0), (0, 0), (0, 0), (4, 111), (4, 154), (0, 0), (4, 155), (4, 156), (4, 157), (4, 166), (4, 170), (4, 179), (4, 188), (4, 189), (4, 190), (4, 195), (4, 200), (4, 205), (4, 210), (4, 211), (4, 216), (4, 221), (4, 222), (0, 0), (4, 223), (4, 224), (4, 225), (4, 226), (4, 227), (4, 228), (4, 229), (0, 0), (0, 0), (0, 0), (4, 230), (4, 231), (0, 0), (4, 232), (5, 0), (5, 0), (0, 0)]))) (by decide) wk_1241 (t := 233) rfl rfl rfl (hAd 233 (by decide)) rfl rfl dM_init_607 ?_
  show bn_J K b0 1 610 152 19589 [(0, .ref (b0 + 81))] [] nS_280 mM_15
  refine n_aload_n X dM_init_610 rfl 0 rfl ?_
  refine n_bipush X dM_init_611 rfl ?_
  refine n_newI X (n := 10) (L := 234) (by decide +kernel) (by decide) (by decide) (fun _ => rfl) (by decide) (by decide) dM_init_613 ?_
  show bn_J K b0 1 615 153 19599 [(0, .ref (b0 + 81))] [.ref (b0 + 234), .ref (b0 + 81)] nS_281 mM_15
  refine n_puta X Y (kf := 77) ri_12 ry_12 rk_12 rn_12 rfl (by decide +kernel : nS_281[81]? = some (.inr (12, [(0, 0), (4, 82), (0, 0), (4, 83), (4, 84), (4, 85), (4, 86), (4, 87), (4, 88), (4, 89), (4, 90), (4, 91), (0, 0), (0, 0), (4, 92), (4, 93), (4, 94), (4, 95), (4, 96), (0, 0), (0, 0), (4, 97), (4, 98), (4, 99), (4, 100), (4, 101), (4, 102), (0, 0), (4, 103), (4, 104), (4, 105), (4, 106), (4, 107), (4, 108), (4, 109), (0, 0), (4, 110), (0, 0), (0, 0), (0, 0), (0, 0), (4, 111), (4, 154), (0, 0), (4, 155), (4, 156), (4, 157), (4, 166), (4, 170), (4, 179), (4, 188), (4, 189), (4, 190), (4, 195), (4, 200), (4, 205), (4, 210), (4, 211), (4, 216), (4, 221), (4, 222), (0, 0), (4, 223), (4, 224), (4, 225), (4, 226), (4, 227), (4, 228), (4, 229), (0, 0), (0, 0), (0, 0), (4, 230), (4, 231), (0, 0), (4, 232), (4, 233), (5, 0), (0, 0)]))) (by decide) wk_1242 (t := 234) rfl rfl rfl (hAd 234 (by decide)) rfl rfl dM_init_615 ?_
  show bn_J K b0 1 618 153 19599 [(0, .ref (b0 + 81))] [] nS_282 mM_15
  exact n_ret X Y rfl rfl dM_init_618
