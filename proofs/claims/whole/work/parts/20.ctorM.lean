theorem dX11_init_0 : decode cX11_init 0 = .ok (.aload_n 0, 1) := by decide +kernel
theorem dX11_init_1 : decode cX11_init 1 = .ok (.invokespecial 1, 3) := by decide +kernel
theorem dX11_init_4 : decode cX11_init 4 = .ok (.aload_n 0, 1) := by decide +kernel
theorem dX11_init_5 : decode cX11_init 5 = .ok (.sipush 700, 3) := by decide +kernel
theorem dX11_init_8 : decode cX11_init 8 = .ok (.newarray .int, 2) := by decide +kernel
theorem dX11_init_10 : decode cX11_init 10 = .ok (.putfield 7, 3) := by decide +kernel
theorem dX11_init_13 : decode cX11_init 13 = .ok (.aload_n 0, 1) := by decide +kernel
theorem dX11_init_14 : decode cX11_init 14 = .ok (.bipush 18, 2) := by decide +kernel
theorem dX11_init_16 : decode cX11_init 16 = .ok (.newarray .int, 2) := by decide +kernel
theorem dX11_init_18 : decode cX11_init 18 = .ok (.dup, 1) := by decide +kernel
theorem dX11_init_19 : decode cX11_init 19 = .ok (.iconst 0, 1) := by decide +kernel
theorem dX11_init_20 : decode cX11_init 20 = .ok (.iconst 0, 1) := by decide +kernel
theorem dX11_init_21 : decode cX11_init 21 = .ok (.iastore, 1) := by decide +kernel
theorem dX11_init_22 : decode cX11_init 22 = .ok (.dup, 1) := by decide +kernel
theorem dX11_init_23 : decode cX11_init 23 = .ok (.iconst 1, 1) := by decide +kernel
theorem dX11_init_24 : decode cX11_init 24 = .ok (.iconst 0, 1) := by decide +kernel
theorem dX11_init_25 : decode cX11_init 25 = .ok (.iastore, 1) := by decide +kernel
theorem dX11_init_26 : decode cX11_init 26 = .ok (.dup, 1) := by decide +kernel
theorem dX11_init_27 : decode cX11_init 27 = .ok (.iconst 2, 1) := by decide +kernel
theorem dX11_init_28 : decode cX11_init 28 = .ok (.iconst 0, 1) := by decide +kernel
theorem dX11_init_29 : decode cX11_init 29 = .ok (.iastore, 1) := by decide +kernel
theorem dX11_init_30 : decode cX11_init 30 = .ok (.dup, 1) := by decide +kernel
theorem dX11_init_31 : decode cX11_init 31 = .ok (.iconst 3, 1) := by decide +kernel
theorem dX11_init_32 : decode cX11_init 32 = .ok (.iconst 0, 1) := by decide +kernel
theorem dX11_init_33 : decode cX11_init 33 = .ok (.iastore, 1) := by decide +kernel
theorem dX11_init_34 : decode cX11_init 34 = .ok (.dup, 1) := by decide +kernel
theorem dX11_init_35 : decode cX11_init 35 = .ok (.iconst 4, 1) := by decide +kernel
theorem dX11_init_36 : decode cX11_init 36 = .ok (.iconst 0, 1) := by decide +kernel
theorem dX11_init_37 : decode cX11_init 37 = .ok (.iastore, 1) := by decide +kernel
theorem dX11_init_38 : decode cX11_init 38 = .ok (.dup, 1) := by decide +kernel
theorem dX11_init_39 : decode cX11_init 39 = .ok (.iconst 5, 1) := by decide +kernel
theorem dX11_init_40 : decode cX11_init 40 = .ok (.bipush 9, 2) := by decide +kernel
theorem dX11_init_42 : decode cX11_init 42 = .ok (.iastore, 1) := by decide +kernel
theorem dX11_init_43 : decode cX11_init 43 = .ok (.dup, 1) := by decide +kernel
theorem dX11_init_44 : decode cX11_init 44 = .ok (.bipush 6, 2) := by decide +kernel
theorem dX11_init_46 : decode cX11_init 46 = .ok (.iconst 0, 1) := by decide +kernel
theorem dX11_init_47 : decode cX11_init 47 = .ok (.iastore, 1) := by decide +kernel
theorem dX11_init_48 : decode cX11_init 48 = .ok (.dup, 1) := by decide +kernel
theorem dX11_init_49 : decode cX11_init 49 = .ok (.bipush 7, 2) := by decide +kernel
theorem dX11_init_51 : decode cX11_init 51 = .ok (.iconst 0, 1) := by decide +kernel
theorem dX11_init_52 : decode cX11_init 52 = .ok (.iastore, 1) := by decide +kernel
theorem dX11_init_53 : decode cX11_init 53 = .ok (.dup, 1) := by decide +kernel
theorem dX11_init_54 : decode cX11_init 54 = .ok (.bipush 8, 2) := by decide +kernel
theorem dX11_init_56 : decode cX11_init 56 = .ok (.iconst 0, 1) := by decide +kernel
theorem dX11_init_57 : decode cX11_init 57 = .ok (.iastore, 1) := by decide +kernel
theorem dX11_init_58 : decode cX11_init 58 = .ok (.dup, 1) := by decide +kernel
theorem dX11_init_59 : decode cX11_init 59 = .ok (.bipush 9, 2) := by decide +kernel
theorem dX11_init_61 : decode cX11_init 61 = .ok (.iconst 0, 1) := by decide +kernel
theorem dX11_init_62 : decode cX11_init 62 = .ok (.iastore, 1) := by decide +kernel
theorem dX11_init_63 : decode cX11_init 63 = .ok (.dup, 1) := by decide +kernel
theorem dX11_init_64 : decode cX11_init 64 = .ok (.bipush 10, 2) := by decide +kernel
theorem dX11_init_66 : decode cX11_init 66 = .ok (.iconst 0, 1) := by decide +kernel
theorem dX11_init_67 : decode cX11_init 67 = .ok (.iastore, 1) := by decide +kernel
theorem dX11_init_68 : decode cX11_init 68 = .ok (.dup, 1) := by decide +kernel
theorem dX11_init_69 : decode cX11_init 69 = .ok (.bipush 11, 2) := by decide +kernel
theorem dX11_init_71 : decode cX11_init 71 = .ok (.iconst 0, 1) := by decide +kernel
theorem dX11_init_72 : decode cX11_init 72 = .ok (.iastore, 1) := by decide +kernel
theorem dX11_init_73 : decode cX11_init 73 = .ok (.dup, 1) := by decide +kernel
theorem dX11_init_74 : decode cX11_init 74 = .ok (.bipush 12, 2) := by decide +kernel
theorem dX11_init_76 : decode cX11_init 76 = .ok (.iconst 0, 1) := by decide +kernel
theorem dX11_init_77 : decode cX11_init 77 = .ok (.iastore, 1) := by decide +kernel
theorem dX11_init_78 : decode cX11_init 78 = .ok (.dup, 1) := by decide +kernel
theorem dX11_init_79 : decode cX11_init 79 = .ok (.bipush 13, 2) := by decide +kernel
theorem dX11_init_81 : decode cX11_init 81 = .ok (.iconst 0, 1) := by decide +kernel
theorem dX11_init_82 : decode cX11_init 82 = .ok (.iastore, 1) := by decide +kernel
theorem dX11_init_83 : decode cX11_init 83 = .ok (.dup, 1) := by decide +kernel
theorem dX11_init_84 : decode cX11_init 84 = .ok (.bipush 14, 2) := by decide +kernel
theorem dX11_init_86 : decode cX11_init 86 = .ok (.bipush 9, 2) := by decide +kernel
theorem dX11_init_88 : decode cX11_init 88 = .ok (.iastore, 1) := by decide +kernel
theorem dX11_init_89 : decode cX11_init 89 = .ok (.dup, 1) := by decide +kernel
theorem dX11_init_90 : decode cX11_init 90 = .ok (.bipush 15, 2) := by decide +kernel
theorem dX11_init_92 : decode cX11_init 92 = .ok (.iconst 0, 1) := by decide +kernel
theorem dX11_init_93 : decode cX11_init 93 = .ok (.iastore, 1) := by decide +kernel
theorem dX11_init_94 : decode cX11_init 94 = .ok (.dup, 1) := by decide +kernel
theorem dX11_init_95 : decode cX11_init 95 = .ok (.bipush 16, 2) := by decide +kernel
theorem dX11_init_97 : decode cX11_init 97 = .ok (.iconst 0, 1) := by decide +kernel
theorem dX11_init_98 : decode cX11_init 98 = .ok (.iastore, 1) := by decide +kernel
theorem dX11_init_99 : decode cX11_init 99 = .ok (.dup, 1) := by decide +kernel
theorem dX11_init_100 : decode cX11_init 100 = .ok (.bipush 17, 2) := by decide +kernel
theorem dX11_init_102 : decode cX11_init 102 = .ok (.iconst 0, 1) := by decide +kernel
theorem dX11_init_103 : decode cX11_init 103 = .ok (.iastore, 1) := by decide +kernel
theorem dX11_init_104 : decode cX11_init 104 = .ok (.putfield 13, 3) := by decide +kernel
theorem dX11_init_107 : decode cX11_init 107 = .ok (.aload_n 0, 1) := by decide +kernel
theorem dX11_init_108 : decode cX11_init 108 = .ok (.bipush 10, 2) := by decide +kernel
theorem dX11_init_110 : decode cX11_init 110 = .ok (.newarray .int, 2) := by decide +kernel
theorem dX11_init_112 : decode cX11_init 112 = .ok (.putfield 16, 3) := by decide +kernel
theorem dX11_init_115 : decode cX11_init 115 = .ok (.aload_n 0, 1) := by decide +kernel
theorem dX11_init_116 : decode cX11_init 116 = .ok (.bipush 10, 2) := by decide +kernel
theorem dX11_init_118 : decode cX11_init 118 = .ok (.newarray .int, 2) := by decide +kernel
theorem dX11_init_120 : decode cX11_init 120 = .ok (.putfield 19, 3) := by decide +kernel
theorem dX11_init_123 : decode cX11_init 123 = .ok (.aload_n 0, 1) := by decide +kernel
theorem dX11_init_124 : decode cX11_init 124 = .ok (.bipush 10, 2) := by decide +kernel
theorem dX11_init_126 : decode cX11_init 126 = .ok (.newarray .int, 2) := by decide +kernel
theorem dX11_init_128 : decode cX11_init 128 = .ok (.putfield 22, 3) := by decide +kernel
theorem dX11_init_131 : decode cX11_init 131 = .ok (.aload_n 0, 1) := by decide +kernel
theorem dX11_init_132 : decode cX11_init 132 = .ok (.bipush 10, 2) := by decide +kernel
theorem dX11_init_134 : decode cX11_init 134 = .ok (.newarray .int, 2) := by decide +kernel
theorem dX11_init_136 : decode cX11_init 136 = .ok (.putfield 25, 3) := by decide +kernel
theorem dX11_init_139 : decode cX11_init 139 = .ok (.aload_n 0, 1) := by decide +kernel
theorem dX11_init_140 : decode cX11_init 140 = .ok (.bipush 10, 2) := by decide +kernel
theorem dX11_init_142 : decode cX11_init 142 = .ok (.newarray .int, 2) := by decide +kernel
theorem dX11_init_144 : decode cX11_init 144 = .ok (.putfield 28, 3) := by decide +kernel
theorem dX11_init_147 : decode cX11_init 147 = .ok (.aload_n 0, 1) := by decide +kernel
theorem dX11_init_148 : decode cX11_init 148 = .ok (.bipush 10, 2) := by decide +kernel
theorem dX11_init_150 : decode cX11_init 150 = .ok (.newarray .int, 2) := by decide +kernel
theorem dX11_init_152 : decode cX11_init 152 = .ok (.putfield 31, 3) := by decide +kernel
theorem dX11_init_155 : decode cX11_init 155 = .ok (.aload_n 0, 1) := by decide +kernel
theorem dX11_init_156 : decode cX11_init 156 = .ok (.bipush 10, 2) := by decide +kernel
theorem dX11_init_158 : decode cX11_init 158 = .ok (.newarray .int, 2) := by decide +kernel
theorem dX11_init_160 : decode cX11_init 160 = .ok (.putfield 34, 3) := by decide +kernel
theorem dX11_init_163 : decode cX11_init 163 = .ok (.aload_n 0, 1) := by decide +kernel
theorem dX11_init_164 : decode cX11_init 164 = .ok (.bipush 24, 2) := by decide +kernel
theorem dX11_init_166 : decode cX11_init 166 = .ok (.newarray .int, 2) := by decide +kernel
theorem dX11_init_168 : decode cX11_init 168 = .ok (.putfield 37, 3) := by decide +kernel
theorem dX11_init_171 : decode cX11_init 171 = .ok (.aload_n 0, 1) := by decide +kernel
theorem dX11_init_172 : decode cX11_init 172 = .ok (.bipush 24, 2) := by decide +kernel
theorem dX11_init_174 : decode cX11_init 174 = .ok (.newarray .int, 2) := by decide +kernel
theorem dX11_init_176 : decode cX11_init 176 = .ok (.putfield 40, 3) := by decide +kernel
theorem dX11_init_179 : decode cX11_init 179 = .ok (.aload_n 0, 1) := by decide +kernel
theorem dX11_init_180 : decode cX11_init 180 = .ok (.bipush 24, 2) := by decide +kernel
theorem dX11_init_182 : decode cX11_init 182 = .ok (.newarray .int, 2) := by decide +kernel
theorem dX11_init_184 : decode cX11_init 184 = .ok (.putfield 43, 3) := by decide +kernel
theorem dX11_init_187 : decode cX11_init 187 = .ok (.aload_n 0, 1) := by decide +kernel
theorem dX11_init_188 : decode cX11_init 188 = .ok (.bipush 16, 2) := by decide +kernel
theorem dX11_init_190 : decode cX11_init 190 = .ok (.newarray .int, 2) := by decide +kernel
theorem dX11_init_192 : decode cX11_init 192 = .ok (.putfield 46, 3) := by decide +kernel
theorem dX11_init_195 : decode cX11_init 195 = .ok (.aload_n 0, 1) := by decide +kernel
theorem dX11_init_196 : decode cX11_init 196 = .ok (.bipush 16, 2) := by decide +kernel
theorem dX11_init_198 : decode cX11_init 198 = .ok (.newarray .int, 2) := by decide +kernel
theorem dX11_init_200 : decode cX11_init 200 = .ok (.putfield 49, 3) := by decide +kernel
theorem dX11_init_203 : decode cX11_init 203 = .ok (.aload_n 0, 1) := by decide +kernel
theorem dX11_init_204 : decode cX11_init 204 = .ok (.bipush 16, 2) := by decide +kernel
theorem dX11_init_206 : decode cX11_init 206 = .ok (.newarray .int, 2) := by decide +kernel
theorem dX11_init_208 : decode cX11_init 208 = .ok (.putfield 52, 3) := by decide +kernel
theorem dX11_init_211 : decode cX11_init 211 = .ok (.aload_n 0, 1) := by decide +kernel
theorem dX11_init_212 : decode cX11_init 212 = .ok (.bipush 16, 2) := by decide +kernel
theorem dX11_init_214 : decode cX11_init 214 = .ok (.newarray .int, 2) := by decide +kernel
theorem dX11_init_216 : decode cX11_init 216 = .ok (.putfield 55, 3) := by decide +kernel
theorem dX11_init_219 : decode cX11_init 219 = .ok (.aload_n 0, 1) := by decide +kernel
theorem dX11_init_220 : decode cX11_init 220 = .ok (.bipush 16, 2) := by decide +kernel
theorem dX11_init_222 : decode cX11_init 222 = .ok (.newarray .int, 2) := by decide +kernel
theorem dX11_init_224 : decode cX11_init 224 = .ok (.putfield 58, 3) := by decide +kernel
theorem dX11_init_227 : decode cX11_init 227 = .ok (.aload_n 0, 1) := by decide +kernel
theorem dX11_init_228 : decode cX11_init 228 = .ok (.bipush 6, 2) := by decide +kernel
theorem dX11_init_230 : decode cX11_init 230 = .ok (.newarray .int, 2) := by decide +kernel
theorem dX11_init_232 : decode cX11_init 232 = .ok (.putfield 61, 3) := by decide +kernel
theorem dX11_init_235 : decode cX11_init 235 = .ok (.aload_n 0, 1) := by decide +kernel
theorem dX11_init_236 : decode cX11_init 236 = .ok (.bipush 6, 2) := by decide +kernel
theorem dX11_init_238 : decode cX11_init 238 = .ok (.newarray .int, 2) := by decide +kernel
theorem dX11_init_240 : decode cX11_init 240 = .ok (.putfield 64, 3) := by decide +kernel
theorem dX11_init_243 : decode cX11_init 243 = .ok (.aload_n 0, 1) := by decide +kernel
theorem dX11_init_244 : decode cX11_init 244 = .ok (.sipush 128, 3) := by decide +kernel
theorem dX11_init_247 : decode cX11_init 247 = .ok (.newarray .int, 2) := by decide +kernel
theorem dX11_init_249 : decode cX11_init 249 = .ok (.putfield 67, 3) := by decide +kernel
theorem dX11_init_252 : decode cX11_init 252 = .ok (.aload_n 0, 1) := by decide +kernel
theorem dX11_init_253 : decode cX11_init 253 = .ok (.sipush 128, 3) := by decide +kernel
theorem dX11_init_256 : decode cX11_init 256 = .ok (.newarray .int, 2) := by decide +kernel
theorem dX11_init_258 : decode cX11_init 258 = .ok (.putfield 70, 3) := by decide +kernel
theorem dX11_init_261 : decode cX11_init 261 = .ok (.aload_n 0, 1) := by decide +kernel
theorem dX11_init_262 : decode cX11_init 262 = .ok (.iconst (-1), 1) := by decide +kernel
theorem dX11_init_263 : decode cX11_init 263 = .ok (.putfield 73, 3) := by decide +kernel
theorem dX11_init_266 : decode cX11_init 266 = .ok (.aload_n 0, 1) := by decide +kernel
theorem dX11_init_267 : decode cX11_init 267 = .ok (.bipush 7, 2) := by decide +kernel
theorem dX11_init_269 : decode cX11_init 269 = .ok (.newarray .long, 2) := by decide +kernel
theorem dX11_init_271 : decode cX11_init 271 = .ok (.putfield 77, 3) := by decide +kernel
theorem dX11_init_274 : decode cX11_init 274 = .ok (.aload_n 0, 1) := by decide +kernel
theorem dX11_init_275 : decode cX11_init 275 = .ok (.bipush 64, 2) := by decide +kernel
theorem dX11_init_277 : decode cX11_init 277 = .ok (.newarray .long, 2) := by decide +kernel
theorem dX11_init_279 : decode cX11_init 279 = .ok (.putfield 81, 3) := by decide +kernel
theorem dX11_init_282 : decode cX11_init 282 = .ok (.aload_n 0, 1) := by decide +kernel
theorem dX11_init_283 : decode cX11_init 283 = .ok (.bipush 23, 2) := by decide +kernel
theorem dX11_init_285 : decode cX11_init 285 = .ok (.newarray .int, 2) := by decide +kernel
theorem dX11_init_287 : decode cX11_init 287 = .ok (.putfield 84, 3) := by decide +kernel
theorem dX11_init_290 : decode cX11_init 290 = .ok (.aload_n 0, 1) := by decide +kernel
theorem dX11_init_291 : decode cX11_init 291 = .ok (.bipush 23, 2) := by decide +kernel
theorem dX11_init_293 : decode cX11_init 293 = .ok (.newarray .int, 2) := by decide +kernel
theorem dX11_init_295 : decode cX11_init 295 = .ok (.putfield 87, 3) := by decide +kernel
theorem dX11_init_298 : decode cX11_init 298 = .ok (.aload_n 0, 1) := by decide +kernel
theorem dX11_init_299 : decode cX11_init 299 = .ok (.bipush 23, 2) := by decide +kernel
theorem dX11_init_301 : decode cX11_init 301 = .ok (.newarray .int, 2) := by decide +kernel
theorem dX11_init_303 : decode cX11_init 303 = .ok (.putfield 90, 3) := by decide +kernel
theorem dX11_init_306 : decode cX11_init 306 = .ok (.aload_n 0, 1) := by decide +kernel
theorem dX11_init_307 : decode cX11_init 307 = .ok (.bipush 23, 2) := by decide +kernel
theorem dX11_init_309 : decode cX11_init 309 = .ok (.newarray .int, 2) := by decide +kernel
theorem dX11_init_311 : decode cX11_init 311 = .ok (.putfield 93, 3) := by decide +kernel
theorem dX11_init_314 : decode cX11_init 314 = .ok (.aload_n 0, 1) := by decide +kernel
theorem dX11_init_315 : decode cX11_init 315 = .ok (.bipush 115, 2) := by decide +kernel
theorem dX11_init_317 : decode cX11_init 317 = .ok (.newarray .int, 2) := by decide +kernel
theorem dX11_init_319 : decode cX11_init 319 = .ok (.putfield 96, 3) := by decide +kernel
theorem dX11_init_322 : decode cX11_init 322 = .ok (.aload_n 0, 1) := by decide +kernel
theorem dX11_init_323 : decode cX11_init 323 = .ok (.sipush 575, 3) := by decide +kernel
theorem dX11_init_326 : decode cX11_init 326 = .ok (.newarray .int, 2) := by decide +kernel
theorem dX11_init_328 : decode cX11_init 328 = .ok (.putfield 99, 3) := by decide +kernel
theorem dX11_init_331 : decode cX11_init 331 = .ok (.aload_n 0, 1) := by decide +kernel
theorem dX11_init_332 : decode cX11_init 332 = .ok (.sipush 575, 3) := by decide +kernel
theorem dX11_init_335 : decode cX11_init 335 = .ok (.newarray .int, 2) := by decide +kernel
theorem dX11_init_337 : decode cX11_init 337 = .ok (.putfield 102, 3) := by decide +kernel
theorem dX11_init_340 : decode cX11_init 340 = .ok (.aload_n 0, 1) := by decide +kernel
theorem dX11_init_341 : decode cX11_init 341 = .ok (.sipush 184, 3) := by decide +kernel
theorem dX11_init_344 : decode cX11_init 344 = .ok (.newarray .int, 2) := by decide +kernel
theorem dX11_init_346 : decode cX11_init 346 = .ok (.putfield 105, 3) := by decide +kernel
theorem dX11_init_349 : decode cX11_init 349 = .ok (.aload_n 0, 1) := by decide +kernel
theorem dX11_init_350 : decode cX11_init 350 = .ok (.sipush 276, 3) := by decide +kernel
theorem dX11_init_353 : decode cX11_init 353 = .ok (.newarray .int, 2) := by decide +kernel
theorem dX11_init_355 : decode cX11_init 355 = .ok (.putfield 108, 3) := by decide +kernel
theorem dX11_init_358 : decode cX11_init 358 = .ok (.aload_n 0, 1) := by decide +kernel
theorem dX11_init_359 : decode cX11_init 359 = .ok (.sipush 276, 3) := by decide +kernel
theorem dX11_init_362 : decode cX11_init 362 = .ok (.newarray .int, 2) := by decide +kernel
theorem dX11_init_364 : decode cX11_init 364 = .ok (.putfield 111, 3) := by decide +kernel
theorem dX11_init_367 : decode cX11_init 367 = .ok (.aload_n 0, 1) := by decide +kernel
theorem dX11_init_368 : decode cX11_init 368 = .ok (.sipush 276, 3) := by decide +kernel
theorem dX11_init_371 : decode cX11_init 371 = .ok (.newarray .int, 2) := by decide +kernel
theorem dX11_init_373 : decode cX11_init 373 = .ok (.putfield 114, 3) := by decide +kernel
theorem dX11_init_376 : decode cX11_init 376 = .ok (.aload_n 0, 1) := by decide +kernel
theorem dX11_init_377 : decode cX11_init 377 = .ok (.sipush 276, 3) := by decide +kernel
theorem dX11_init_380 : decode cX11_init 380 = .ok (.newarray .int, 2) := by decide +kernel
theorem dX11_init_382 : decode cX11_init 382 = .ok (.putfield 117, 3) := by decide +kernel
theorem dX11_init_385 : decode cX11_init 385 = .ok (.aload_n 0, 1) := by decide +kernel
theorem dX11_init_386 : decode cX11_init 386 = .ok (.iconst (-1), 1) := by decide +kernel
theorem dX11_init_387 : decode cX11_init 387 = .ok (.putfield 120, 3) := by decide +kernel
theorem dX11_init_390 : decode cX11_init 390 = .ok (.aload_n 0, 1) := by decide +kernel
theorem dX11_init_391 : decode cX11_init 391 = .ok (.iconst (-1), 1) := by decide +kernel
theorem dX11_init_392 : decode cX11_init 392 = .ok (.putfield 123, 3) := by decide +kernel
theorem dX11_init_395 : decode cX11_init 395 = .ok (.aload_n 0, 1) := by decide +kernel
theorem dX11_init_396 : decode cX11_init 396 = .ok (.iconst 4, 1) := by decide +kernel
theorem dX11_init_397 : decode cX11_init 397 = .ok (.newarray .int, 2) := by decide +kernel
theorem dX11_init_399 : decode cX11_init 399 = .ok (.putfield 126, 3) := by decide +kernel
theorem dX11_init_402 : decode cX11_init 402 = .ok (.aload_n 0, 1) := by decide +kernel
theorem dX11_init_403 : decode cX11_init 403 = .ok (.iconst 4, 1) := by decide +kernel
theorem dX11_init_404 : decode cX11_init 404 = .ok (.newarray .int, 2) := by decide +kernel
theorem dX11_init_406 : decode cX11_init 406 = .ok (.putfield 129, 3) := by decide +kernel
theorem dX11_init_409 : decode cX11_init 409 = .ok (.aload_n 0, 1) := by decide +kernel
theorem dX11_init_410 : decode cX11_init 410 = .ok (.iconst 4, 1) := by decide +kernel
theorem dX11_init_411 : decode cX11_init 411 = .ok (.newarray .int, 2) := by decide +kernel
theorem dX11_init_413 : decode cX11_init 413 = .ok (.putfield 132, 3) := by decide +kernel
theorem dX11_init_416 : decode cX11_init 416 = .ok (.aload_n 0, 1) := by decide +kernel
theorem dX11_init_417 : decode cX11_init 417 = .ok (.iconst (-1), 1) := by decide +kernel
theorem dX11_init_418 : decode cX11_init 418 = .ok (.putfield 135, 3) := by decide +kernel
theorem dX11_init_421 : decode cX11_init 421 = .ok (.aload_n 0, 1) := by decide +kernel
theorem dX11_init_422 : decode cX11_init 422 = .ok (.bipush 24, 2) := by decide +kernel
theorem dX11_init_424 : decode cX11_init 424 = .ok (.newarray .int, 2) := by decide +kernel
theorem dX11_init_426 : decode cX11_init 426 = .ok (.putfield 138, 3) := by decide +kernel
theorem dX11_init_429 : decode cX11_init 429 = .ok (.aload_n 0, 1) := by decide +kernel
theorem dX11_init_430 : decode cX11_init 430 = .ok (.bipush 24, 2) := by decide +kernel
theorem dX11_init_432 : decode cX11_init 432 = .ok (.newarray .int, 2) := by decide +kernel
theorem dX11_init_434 : decode cX11_init 434 = .ok (.putfield 141, 3) := by decide +kernel
theorem dX11_init_437 : decode cX11_init 437 = .ok (.aload_n 0, 1) := by decide +kernel
theorem dX11_init_438 : decode cX11_init 438 = .ok (.bipush 24, 2) := by decide +kernel
theorem dX11_init_440 : decode cX11_init 440 = .ok (.newarray .boolean, 2) := by decide +kernel
theorem dX11_init_442 : decode cX11_init 442 = .ok (.putfield 144, 3) := by decide +kernel
theorem dX11_init_445 : decode cX11_init 445 = .ok (.aload_n 0, 1) := by decide +kernel
theorem dX11_init_446 : decode cX11_init 446 = .ok (.bipush 24, 2) := by decide +kernel
theorem dX11_init_448 : decode cX11_init 448 = .ok (.newarray .int, 2) := by decide +kernel
theorem dX11_init_450 : decode cX11_init 450 = .ok (.putfield 148, 3) := by decide +kernel
theorem dX11_init_453 : decode cX11_init 453 = .ok (.aload_n 0, 1) := by decide +kernel
theorem dX11_init_454 : decode cX11_init 454 = .ok (.bipush 24, 2) := by decide +kernel
theorem dX11_init_456 : decode cX11_init 456 = .ok (.newarray .boolean, 2) := by decide +kernel
theorem dX11_init_458 : decode cX11_init 458 = .ok (.putfield 151, 3) := by decide +kernel
theorem dX11_init_461 : decode cX11_init 461 = .ok (.aload_n 0, 1) := by decide +kernel
theorem dX11_init_462 : decode cX11_init 462 = .ok (.invokevirtual 154, 3) := by decide +kernel
theorem dX11_init_465 : decode cX11_init 465 = .ok (.return_, 1) := by decide +kernel
theorem g_nf_le : ∀ ci, g_nf ci ≤ 72 := by
  intro ci
  unfold g_nf
  split <;> decide
theorem g_W_eq {aC : Nat → ClassId} {B n : Nat} {Y Y' : g_Y} {m : g_M} (h1 : Y.1 = Y'.1) (h2 : ∀ o, o < n → ∀ k, k < 72 → g_pt Y m o k = g_pt Y' m o k) : g_W aC B Y n m = g_W aC B Y' n m := by
  unfold g_W
  apply List.map_congr_left
  intro o ho
  have ho : o < n := List.mem_range.mp ho
  have h3 : ∀ ci, g_fs B Y m o ci = g_fs B Y' m o ci := by
    intro ci
    unfold g_fs
    apply List.map_congr_left
    intro k hk
    have hk : k < 72 := Nat.lt_of_lt_of_le (List.mem_range.mp hk) (g_nf_le ci)
    unfold g_fv
    rw [h2 o ho k hk]
  unfold g_E
  rw [h1, h3]
def n_mem0 : g_M := (fun _ _ => 0, fun _ _ => 0, fun _ _ => none)
def nM1 : g_M :=
  let m1 := g_sR n_mem0 0 1 (some 1)
  let m3 := g_sI m1 2 (0 : Int32).toNatClampNeg (0 : Int32)
  let m5 := g_sI m3 2 (1 : Int32).toNatClampNeg (0 : Int32)
  let m7 := g_sI m5 2 (2 : Int32).toNatClampNeg (0 : Int32)
  let m9 := g_sI m7 2 (3 : Int32).toNatClampNeg (0 : Int32)
  let m11 := g_sI m9 2 (4 : Int32).toNatClampNeg (0 : Int32)
  let m13 := g_sI m11 2 (5 : Int32).toNatClampNeg (9 : Int32)
  let m15 := g_sI m13 2 (6 : Int32).toNatClampNeg (0 : Int32)
  let m17 := g_sI m15 2 (7 : Int32).toNatClampNeg (0 : Int32)
  let m19 := g_sI m17 2 (8 : Int32).toNatClampNeg (0 : Int32)
  let m21 := g_sI m19 2 (9 : Int32).toNatClampNeg (0 : Int32)
  let m23 := g_sI m21 2 (10 : Int32).toNatClampNeg (0 : Int32)
  let m25 := g_sI m23 2 (11 : Int32).toNatClampNeg (0 : Int32)
  let m27 := g_sI m25 2 (12 : Int32).toNatClampNeg (0 : Int32)
  let m29 := g_sI m27 2 (13 : Int32).toNatClampNeg (0 : Int32)
  let m31 := g_sI m29 2 (14 : Int32).toNatClampNeg (9 : Int32)
  let m33 := g_sI m31 2 (15 : Int32).toNatClampNeg (0 : Int32)
  let m35 := g_sI m33 2 (16 : Int32).toNatClampNeg (0 : Int32)
  let m37 := g_sI m35 2 (17 : Int32).toNatClampNeg (0 : Int32)
  let m38 := g_sR m37 0 3 (some 2)
  let m39 := g_sR m38 0 4 (some 3)
  let m40 := g_sR m39 0 5 (some 4)
  let m41 := g_sR m40 0 6 (some 5)
  let m42 := g_sR m41 0 7 (some 6)
  let m43 := g_sR m42 0 8 (some 7)
  let m44 := g_sR m43 0 9 (some 8)
  let m45 := g_sR m44 0 10 (some 9)
  let m46 := g_sR m45 0 11 (some 10)
  let m47 := g_sR m46 0 12 (some 11)
  let m48 := g_sR m47 0 13 (some 12)
  let m49 := g_sR m48 0 14 (some 13)
  let m50 := g_sR m49 0 15 (some 14)
  let m51 := g_sR m50 0 16 (some 15)
  let m52 := g_sR m51 0 17 (some 16)
  let m53 := g_sR m52 0 18 (some 17)
  let m54 := g_sR m53 0 19 (some 18)
  let m55 := g_sR m54 0 20 (some 19)
  let m56 := g_sR m55 0 21 (some 20)
  let m57 := g_sR m56 0 22 (some 21)
  let m58 := g_sI m57 0 33 (-1 : Int32)
  let m59 := g_sR m58 0 36 (some 22)
  let m60 := g_sR m59 0 37 (some 23)
  let m61 := g_sR m60 0 39 (some 24)
  let m62 := g_sR m61 0 40 (some 25)
  let m63 := g_sR m62 0 41 (some 26)
  let m64 := g_sR m63 0 42 (some 27)
  let m65 := g_sR m64 0 43 (some 28)
  let m66 := g_sR m65 0 44 (some 29)
  let m67 := g_sR m66 0 45 (some 30)
  let m68 := g_sR m67 0 46 (some 31)
  let m69 := g_sR m68 0 47 (some 32)
  let m70 := g_sR m69 0 48 (some 33)
  let m71 := g_sR m70 0 49 (some 34)
  let m72 := g_sR m71 0 50 (some 35)
  let m73 := g_sI m72 0 54 (-1 : Int32)
  let m74 := g_sI m73 0 55 (-1 : Int32)
  let m75 := g_sR m74 0 59 (some 36)
  let m76 := g_sR m75 0 60 (some 37)
  let m77 := g_sR m76 0 61 (some 38)
  let m78 := g_sI m77 0 66 (-1 : Int32)
  let m79 := g_sR m78 0 67 (some 39)
  let m80 := g_sR m79 0 68 (some 40)
  let m81 := g_sR m80 0 69 (some 41)
  let m82 := g_sR m81 0 70 (some 42)
  let m83 := g_sR m82 0 71 (some 43)
  m83
theorem nM1_W {aC : Nat → ClassId} {B : Nat} : g_W aC B yM0 44 nM1 = g_W aC B yM 44 nM1 := g_W_eq rfl (by decide +kernel)
def n_PostM (D : va_G) (aC : Nat → ClassId) (B : Nat) (mem' : g_M) : Array Value → State → Outcome → State → Prop := fun _ st o t => o = .returned none ∧ va_P D vwCl (g_W aC B yM 44 mem') t.heap ∧ va_F (n_A B) st t
theorem n_ofWM {l : Launch} {y : MethodName} {cc : ByteArray} {maxL lev mc ms : Nat} {D : va_G} {aC : Nat → ClassId} {B : Nat} {Y : g_Y} {n : Nat} {Z : State → Prop} {mem : g_M} {av : List Value} {Qc : Array Value → State → Outcome → State → Prop} (hy : plainName y.cls = true) (hn : y.name = "<init>") (h0 : 0 < n) (hlen : (lg_sl av).length ≤ maxL)
    (body : ∀ (p : Program) (e : Env) (s : State) (m : MethodId) (args : Array Value) (below : List Frame) (meth : Method) (c : Code) (ls : Array Slot), g_C p s m args c cc y.cls D aC Z → c.maxLocals = maxL → meth.sig.returnType = none → meth.locks = false → meth.name = "<init>" → s.heap.size = B + n → n_At D aC B Y n mem s.heap s.heap [] → lv_has ls maxL (lv_args 0 av) →
      W p l e (n_rm lev mc ms) s m args below meth c s.heap [] 0 0 (MQ below Qc args s mc ms (n_A B)) (F0 m 0 ls [])) : Met l y (.code y cc maxL none :: g_ws) (n_rm lev mc ms) (n_Pre D aC B Y n Z mem av) Qc mc ms (n_A B) := by
  refine Met.ofW (cc := cc) (maxL := maxL) (ret := none) hy rfl ?_
  intro p e s m args below meth c s₁ Bd hml hv
  obtain ⟨rfl, hP, hsz, hF, hK, hZ⟩ := hv
  have hts := atoms_spec (ws := Cond.code y cc maxL none :: g_ws) Bd.pre
  rw [lg_entry_eq]
  exact body p e s m _ below meth c _ ⟨Bd.exec, Bd.bytes, findClass_of_methodNamed Bd.named, fun w hw => hts w (List.mem_cons_of_mem _ hw), hK, hZ⟩ hml Bd.returns Bd.notSynchronized ((name_of_methodNamed Bd.named Bd.method).1.trans hn) hsz ⟨hP, va_S.rf, hF, h0⟩ (lv_entry av hlen)
def f11_init_0 (F : Nat) (mem : g_M) : Option (g_M) :=
 g_let (g_sR mem 0 1 (some 1)) (fun m1 =>
 g_ck (0 : Int32) 18 (
 g_let (g_sI m1 2 (0 : Int32).toNatClampNeg (0 : Int32)) (fun m3 =>
 g_ck (1 : Int32) 18 (
 g_let (g_sI m3 2 (1 : Int32).toNatClampNeg (0 : Int32)) (fun m5 =>
 g_ck (2 : Int32) 18 (
 g_let (g_sI m5 2 (2 : Int32).toNatClampNeg (0 : Int32)) (fun m7 =>
 g_ck (3 : Int32) 18 (
 g_let (g_sI m7 2 (3 : Int32).toNatClampNeg (0 : Int32)) (fun m9 =>
 g_ck (4 : Int32) 18 (
 g_let (g_sI m9 2 (4 : Int32).toNatClampNeg (0 : Int32)) (fun m11 =>
 g_ck (5 : Int32) 18 (
 g_let (g_sI m11 2 (5 : Int32).toNatClampNeg (9 : Int32)) (fun m13 =>
 g_ck (6 : Int32) 18 (
 g_let (g_sI m13 2 (6 : Int32).toNatClampNeg (0 : Int32)) (fun m15 =>
 g_ck (7 : Int32) 18 (
 g_let (g_sI m15 2 (7 : Int32).toNatClampNeg (0 : Int32)) (fun m17 =>
 g_ck (8 : Int32) 18 (
 g_let (g_sI m17 2 (8 : Int32).toNatClampNeg (0 : Int32)) (fun m19 =>
 g_ck (9 : Int32) 18 (
 g_let (g_sI m19 2 (9 : Int32).toNatClampNeg (0 : Int32)) (fun m21 =>
 g_ck (10 : Int32) 18 (
 g_let (g_sI m21 2 (10 : Int32).toNatClampNeg (0 : Int32)) (fun m23 =>
 g_ck (11 : Int32) 18 (
 g_let (g_sI m23 2 (11 : Int32).toNatClampNeg (0 : Int32)) (fun m25 =>
 g_ck (12 : Int32) 18 (
 g_let (g_sI m25 2 (12 : Int32).toNatClampNeg (0 : Int32)) (fun m27 =>
 g_ck (13 : Int32) 18 (
 g_let (g_sI m27 2 (13 : Int32).toNatClampNeg (0 : Int32)) (fun m29 =>
 g_ck (14 : Int32) 18 (
 g_let (g_sI m29 2 (14 : Int32).toNatClampNeg (9 : Int32)) (fun m31 =>
 g_ck (15 : Int32) 18 (
 g_let (g_sI m31 2 (15 : Int32).toNatClampNeg (0 : Int32)) (fun m33 =>
 g_ck (16 : Int32) 18 (
 g_let (g_sI m33 2 (16 : Int32).toNatClampNeg (0 : Int32)) (fun m35 =>
 g_ck (17 : Int32) 18 (
 g_let (g_sI m35 2 (17 : Int32).toNatClampNeg (0 : Int32)) (fun m37 =>
 g_let (g_sR m37 0 3 (some 2)) (fun m38 =>
 g_let (g_sR m38 0 4 (some 3)) (fun m39 =>
 g_let (g_sR m39 0 5 (some 4)) (fun m40 =>
 g_let (g_sR m40 0 6 (some 5)) (fun m41 =>
 g_let (g_sR m41 0 7 (some 6)) (fun m42 =>
 g_let (g_sR m42 0 8 (some 7)) (fun m43 =>
 g_let (g_sR m43 0 9 (some 8)) (fun m44 =>
 g_let (g_sR m44 0 10 (some 9)) (fun m45 =>
 g_let (g_sR m45 0 11 (some 10)) (fun m46 =>
 g_let (g_sR m46 0 12 (some 11)) (fun m47 =>
 g_let (g_sR m47 0 13 (some 12)) (fun m48 =>
 g_let (g_sR m48 0 14 (some 13)) (fun m49 =>
 g_let (g_sR m49 0 15 (some 14)) (fun m50 =>
 g_let (g_sR m50 0 16 (some 15)) (fun m51 =>
 g_let (g_sR m51 0 17 (some 16)) (fun m52 =>
 g_let (g_sR m52 0 18 (some 17)) (fun m53 =>
 g_let (g_sR m53 0 19 (some 18)) (fun m54 =>
 g_let (g_sR m54 0 20 (some 19)) (fun m55 =>
 g_let (g_sR m55 0 21 (some 20)) (fun m56 =>
 g_let (g_sR m56 0 22 (some 21)) (fun m57 =>
 g_let (g_sI m57 0 33 (-1 : Int32)) (fun m58 =>
 g_let (g_sR m58 0 36 (some 22)) (fun m59 =>
 g_let (g_sR m59 0 37 (some 23)) (fun m60 =>
 g_let (g_sR m60 0 39 (some 24)) (fun m61 =>
 g_let (g_sR m61 0 40 (some 25)) (fun m62 =>
 g_let (g_sR m62 0 41 (some 26)) (fun m63 =>
 g_let (g_sR m63 0 42 (some 27)) (fun m64 =>
 g_let (g_sR m64 0 43 (some 28)) (fun m65 =>
 g_let (g_sR m65 0 44 (some 29)) (fun m66 =>
 g_let (g_sR m66 0 45 (some 30)) (fun m67 =>
 g_let (g_sR m67 0 46 (some 31)) (fun m68 =>
 g_let (g_sR m68 0 47 (some 32)) (fun m69 =>
 g_let (g_sR m69 0 48 (some 33)) (fun m70 =>
 g_let (g_sR m70 0 49 (some 34)) (fun m71 =>
 g_let (g_sR m71 0 50 (some 35)) (fun m72 =>
 g_let (g_sI m72 0 54 (-1 : Int32)) (fun m73 =>
 g_let (g_sI m73 0 55 (-1 : Int32)) (fun m74 =>
 g_let (g_sR m74 0 59 (some 36)) (fun m75 =>
 g_let (g_sR m75 0 60 (some 37)) (fun m76 =>
 g_let (g_sR m76 0 61 (some 38)) (fun m77 =>
 g_let (g_sI m77 0 66 (-1 : Int32)) (fun m78 =>
 g_let (g_sR m78 0 67 (some 39)) (fun m79 =>
 g_let (g_sR m79 0 68 (some 40)) (fun m80 =>
 g_let (g_sR m80 0 69 (some 41)) (fun m81 =>
 g_let (g_sR m81 0 70 (some 42)) (fun m82 =>
 g_let (g_sR m82 0 71 (some 43)) (fun m83 =>
 (f11_begins F m83).bind (fun r84 =>
 some r84))))))))))))))))))))))))))))))))))))))))))))))))))))))))))))))))))))))))))))))))))))
section
variable {p : Program} {l : Launch} {e : Env} {s : State} {m : MethodId} {args : Array Value} {below : List Frame} {meth : Method} {c : Code} {D : va_G} {aC : Nat → ClassId} {B : Nat}
set_option maxHeartbeats 4000000 in
set_option maxRecDepth 100000 in
theorem c11_init_0 (l : Launch) (D : va_G) (aC : Nat → ClassId) (B : Nat) {F : Nat} {q0 : g_M} (he : f11_init_0 F n_mem0 = some q0) : Met l yX11_init (.code yX11_init cX11_init 1 none :: g_ws) (n_rm 3 43 4056) (n_Pre D aC B yM0 1 (zN B) n_mem0 [.ref (B + 0)]) (n_PostM D aC B q0) 43 4056 (n_A B) := by
  refine n_ofWM (by decide) rfl (by decide) (Nat.le_of_ble_eq_true rfl) ?_
  intro p e s m args below meth c ls E hml hret hlk hnm hsz hM hl
  have E : g_C p s m args c cX11_init RX11 D aC (zN B) := E
  have hx := E.1
  have hb := E.2.1
  have hown := E.2.2.1
  have hts := E.2.2.2.1
  have hl : lv_has ls 1 [(0, .ref (B + 0))] := hl
  unfold f11_init_0 at he
  refine lv_aload_n hx hb dX11_init_0 rfl (lv_at hl 0 rfl) ?_
  refine W.objInit hx hb hown (hts _ oi_X11_1) (hts _ oi_inst) (hts _ oi_code) rfl (by rw [hml]; exact hl.1) rfl dX11_init_1 (Nat.le_of_ble_eq_true rfl) (Nat.le_of_ble_eq_true rfl) ?_
  refine W.eq (g2 := F0 m 4 ls []) rfl ?_
  refine lv_aload_n hx hb dX11_init_4 rfl (lv_at hl 0 rfl) ?_
  refine lv_sipush (v := (700 : Int32)) hx hb dX11_init_5 rfl ?_
  refine n_newa (ty := .int) (atype := .int) (L := 700) E hM (by omega) rfl ka_int rfl (Or.inl ⟨rfl, rfl⟩) (by decide) (by decide) (by decide) (Nat.le_of_ble_eq_true rfl) (Nat.le_of_ble_eq_true rfl) dX11_init_8 (fun H hM => ?_)
  refine W.eq (g2 := F0 m 10 ls [.ref (B + 1), .ref (B + 0)]) rfl ?_
  refine n_putF E hM hnm (o := 0) (q := 1) (Nat.le_of_ble_eq_true rfl) rfl ff_X11_7 rfl dX11_init_10 (fun H locs hM => ?_)
  obtain ⟨m1, hm1, he⟩ := g_let_ex he
  rw [← hm1] at hM
  refine lv_aload_n hx hb dX11_init_13 rfl (lv_at hl 0 rfl) ?_
  refine lv_bipush (v := (18 : Int32)) hx hb dX11_init_14 rfl ?_
  refine n_newa (ty := .int) (atype := .int) (L := 18) E hM (by omega) rfl ka_int rfl (Or.inl ⟨rfl, rfl⟩) (by decide) (by decide) (by decide) (Nat.le_of_ble_eq_true rfl) (Nat.le_of_ble_eq_true rfl) dX11_init_16 (fun H hM => ?_)
  refine W.eq (g2 := F0 m 18 ls [.ref (B + 2), .ref (B + 0)]) rfl ?_
  refine lv_dup hx hb dX11_init_18 rfl ?_
  refine lv_iconst (v := (0 : Int32)) hx hb dX11_init_19 rfl ?_
  refine lv_iconst (v := (0 : Int32)) hx hb dX11_init_20 rfl ?_
  obtain ⟨h2, he⟩ := g_ck_some he
  refine n_iast E hM (o := 2) (Nat.le_of_ble_eq_true rfl) rfl h2 dX11_init_21 (fun H locs hM => ?_)
  obtain ⟨m3, hm3, he⟩ := g_let_ex he
  rw [← hm3] at hM
  refine lv_dup hx hb dX11_init_22 rfl ?_
  refine lv_iconst (v := (1 : Int32)) hx hb dX11_init_23 rfl ?_
  refine lv_iconst (v := (0 : Int32)) hx hb dX11_init_24 rfl ?_
  obtain ⟨h4, he⟩ := g_ck_some he
  refine n_iast E hM (o := 2) (Nat.le_of_ble_eq_true rfl) rfl h4 dX11_init_25 (fun H locs hM => ?_)
  obtain ⟨m5, hm5, he⟩ := g_let_ex he
  rw [← hm5] at hM
  refine lv_dup hx hb dX11_init_26 rfl ?_
  refine lv_iconst (v := (2 : Int32)) hx hb dX11_init_27 rfl ?_
  refine lv_iconst (v := (0 : Int32)) hx hb dX11_init_28 rfl ?_
  obtain ⟨h6, he⟩ := g_ck_some he
  refine n_iast E hM (o := 2) (Nat.le_of_ble_eq_true rfl) rfl h6 dX11_init_29 (fun H locs hM => ?_)
  obtain ⟨m7, hm7, he⟩ := g_let_ex he
  rw [← hm7] at hM
  refine lv_dup hx hb dX11_init_30 rfl ?_
  refine lv_iconst (v := (3 : Int32)) hx hb dX11_init_31 rfl ?_
  refine lv_iconst (v := (0 : Int32)) hx hb dX11_init_32 rfl ?_
  obtain ⟨h8, he⟩ := g_ck_some he
  refine n_iast E hM (o := 2) (Nat.le_of_ble_eq_true rfl) rfl h8 dX11_init_33 (fun H locs hM => ?_)
  obtain ⟨m9, hm9, he⟩ := g_let_ex he
  rw [← hm9] at hM
  refine lv_dup hx hb dX11_init_34 rfl ?_
  refine lv_iconst (v := (4 : Int32)) hx hb dX11_init_35 rfl ?_
  refine lv_iconst (v := (0 : Int32)) hx hb dX11_init_36 rfl ?_
  obtain ⟨h10, he⟩ := g_ck_some he
  refine n_iast E hM (o := 2) (Nat.le_of_ble_eq_true rfl) rfl h10 dX11_init_37 (fun H locs hM => ?_)
  obtain ⟨m11, hm11, he⟩ := g_let_ex he
  rw [← hm11] at hM
  refine lv_dup hx hb dX11_init_38 rfl ?_
  refine lv_iconst (v := (5 : Int32)) hx hb dX11_init_39 rfl ?_
  refine lv_bipush (v := (9 : Int32)) hx hb dX11_init_40 rfl ?_
  obtain ⟨h12, he⟩ := g_ck_some he
  refine n_iast E hM (o := 2) (Nat.le_of_ble_eq_true rfl) rfl h12 dX11_init_42 (fun H locs hM => ?_)
  obtain ⟨m13, hm13, he⟩ := g_let_ex he
  rw [← hm13] at hM
  refine lv_dup hx hb dX11_init_43 rfl ?_
  refine lv_bipush (v := (6 : Int32)) hx hb dX11_init_44 rfl ?_
  refine lv_iconst (v := (0 : Int32)) hx hb dX11_init_46 rfl ?_
  obtain ⟨h14, he⟩ := g_ck_some he
  refine n_iast E hM (o := 2) (Nat.le_of_ble_eq_true rfl) rfl h14 dX11_init_47 (fun H locs hM => ?_)
  obtain ⟨m15, hm15, he⟩ := g_let_ex he
  rw [← hm15] at hM
  refine lv_dup hx hb dX11_init_48 rfl ?_
  refine lv_bipush (v := (7 : Int32)) hx hb dX11_init_49 rfl ?_
  refine lv_iconst (v := (0 : Int32)) hx hb dX11_init_51 rfl ?_
  obtain ⟨h16, he⟩ := g_ck_some he
  refine n_iast E hM (o := 2) (Nat.le_of_ble_eq_true rfl) rfl h16 dX11_init_52 (fun H locs hM => ?_)
  obtain ⟨m17, hm17, he⟩ := g_let_ex he
  rw [← hm17] at hM
  refine lv_dup hx hb dX11_init_53 rfl ?_
  refine lv_bipush (v := (8 : Int32)) hx hb dX11_init_54 rfl ?_
  refine lv_iconst (v := (0 : Int32)) hx hb dX11_init_56 rfl ?_
  obtain ⟨h18, he⟩ := g_ck_some he
  refine n_iast E hM (o := 2) (Nat.le_of_ble_eq_true rfl) rfl h18 dX11_init_57 (fun H locs hM => ?_)
  obtain ⟨m19, hm19, he⟩ := g_let_ex he
  rw [← hm19] at hM
  refine lv_dup hx hb dX11_init_58 rfl ?_
  refine lv_bipush (v := (9 : Int32)) hx hb dX11_init_59 rfl ?_
  refine lv_iconst (v := (0 : Int32)) hx hb dX11_init_61 rfl ?_
  obtain ⟨h20, he⟩ := g_ck_some he
  refine n_iast E hM (o := 2) (Nat.le_of_ble_eq_true rfl) rfl h20 dX11_init_62 (fun H locs hM => ?_)
  obtain ⟨m21, hm21, he⟩ := g_let_ex he
  rw [← hm21] at hM
  refine lv_dup hx hb dX11_init_63 rfl ?_
  refine lv_bipush (v := (10 : Int32)) hx hb dX11_init_64 rfl ?_
  refine lv_iconst (v := (0 : Int32)) hx hb dX11_init_66 rfl ?_
  obtain ⟨h22, he⟩ := g_ck_some he
  refine n_iast E hM (o := 2) (Nat.le_of_ble_eq_true rfl) rfl h22 dX11_init_67 (fun H locs hM => ?_)
  obtain ⟨m23, hm23, he⟩ := g_let_ex he
  rw [← hm23] at hM
  refine lv_dup hx hb dX11_init_68 rfl ?_
  refine lv_bipush (v := (11 : Int32)) hx hb dX11_init_69 rfl ?_
  refine lv_iconst (v := (0 : Int32)) hx hb dX11_init_71 rfl ?_
  obtain ⟨h24, he⟩ := g_ck_some he
  refine n_iast E hM (o := 2) (Nat.le_of_ble_eq_true rfl) rfl h24 dX11_init_72 (fun H locs hM => ?_)
  obtain ⟨m25, hm25, he⟩ := g_let_ex he
  rw [← hm25] at hM
  refine lv_dup hx hb dX11_init_73 rfl ?_
  refine lv_bipush (v := (12 : Int32)) hx hb dX11_init_74 rfl ?_
  refine lv_iconst (v := (0 : Int32)) hx hb dX11_init_76 rfl ?_
  obtain ⟨h26, he⟩ := g_ck_some he
  refine n_iast E hM (o := 2) (Nat.le_of_ble_eq_true rfl) rfl h26 dX11_init_77 (fun H locs hM => ?_)
  obtain ⟨m27, hm27, he⟩ := g_let_ex he
  rw [← hm27] at hM
  refine lv_dup hx hb dX11_init_78 rfl ?_
  refine lv_bipush (v := (13 : Int32)) hx hb dX11_init_79 rfl ?_
  refine lv_iconst (v := (0 : Int32)) hx hb dX11_init_81 rfl ?_
  obtain ⟨h28, he⟩ := g_ck_some he
  refine n_iast E hM (o := 2) (Nat.le_of_ble_eq_true rfl) rfl h28 dX11_init_82 (fun H locs hM => ?_)
  obtain ⟨m29, hm29, he⟩ := g_let_ex he
  rw [← hm29] at hM
  refine lv_dup hx hb dX11_init_83 rfl ?_
  refine lv_bipush (v := (14 : Int32)) hx hb dX11_init_84 rfl ?_
  refine lv_bipush (v := (9 : Int32)) hx hb dX11_init_86 rfl ?_
  obtain ⟨h30, he⟩ := g_ck_some he
  refine n_iast E hM (o := 2) (Nat.le_of_ble_eq_true rfl) rfl h30 dX11_init_88 (fun H locs hM => ?_)
  obtain ⟨m31, hm31, he⟩ := g_let_ex he
  rw [← hm31] at hM
  refine lv_dup hx hb dX11_init_89 rfl ?_
  refine lv_bipush (v := (15 : Int32)) hx hb dX11_init_90 rfl ?_
  refine lv_iconst (v := (0 : Int32)) hx hb dX11_init_92 rfl ?_
  obtain ⟨h32, he⟩ := g_ck_some he
  refine n_iast E hM (o := 2) (Nat.le_of_ble_eq_true rfl) rfl h32 dX11_init_93 (fun H locs hM => ?_)
  obtain ⟨m33, hm33, he⟩ := g_let_ex he
  rw [← hm33] at hM
  refine lv_dup hx hb dX11_init_94 rfl ?_
  refine lv_bipush (v := (16 : Int32)) hx hb dX11_init_95 rfl ?_
  refine lv_iconst (v := (0 : Int32)) hx hb dX11_init_97 rfl ?_
  obtain ⟨h34, he⟩ := g_ck_some he
  refine n_iast E hM (o := 2) (Nat.le_of_ble_eq_true rfl) rfl h34 dX11_init_98 (fun H locs hM => ?_)
  obtain ⟨m35, hm35, he⟩ := g_let_ex he
  rw [← hm35] at hM
  refine lv_dup hx hb dX11_init_99 rfl ?_
  refine lv_bipush (v := (17 : Int32)) hx hb dX11_init_100 rfl ?_
  refine lv_iconst (v := (0 : Int32)) hx hb dX11_init_102 rfl ?_
  obtain ⟨h36, he⟩ := g_ck_some he
  refine n_iast E hM (o := 2) (Nat.le_of_ble_eq_true rfl) rfl h36 dX11_init_103 (fun H locs hM => ?_)
  obtain ⟨m37, hm37, he⟩ := g_let_ex he
  rw [← hm37] at hM
  refine n_putF E hM hnm (o := 0) (q := 2) (Nat.le_of_ble_eq_true rfl) rfl ff_X11_13 rfl dX11_init_104 (fun H locs hM => ?_)
  obtain ⟨m38, hm38, he⟩ := g_let_ex he
  rw [← hm38] at hM
  refine lv_aload_n hx hb dX11_init_107 rfl (lv_at hl 0 rfl) ?_
  refine lv_bipush (v := (10 : Int32)) hx hb dX11_init_108 rfl ?_
  refine n_newa (ty := .int) (atype := .int) (L := 10) E hM (by omega) rfl ka_int rfl (Or.inl ⟨rfl, rfl⟩) (by decide) (by decide) (by decide) (Nat.le_of_ble_eq_true rfl) (Nat.le_of_ble_eq_true rfl) dX11_init_110 (fun H hM => ?_)
  refine W.eq (g2 := F0 m 112 ls [.ref (B + 3), .ref (B + 0)]) rfl ?_
  refine n_putF E hM hnm (o := 0) (q := 3) (Nat.le_of_ble_eq_true rfl) rfl ff_X11_16 rfl dX11_init_112 (fun H locs hM => ?_)
  obtain ⟨m39, hm39, he⟩ := g_let_ex he
  rw [← hm39] at hM
  refine lv_aload_n hx hb dX11_init_115 rfl (lv_at hl 0 rfl) ?_
  refine lv_bipush (v := (10 : Int32)) hx hb dX11_init_116 rfl ?_
  refine n_newa (ty := .int) (atype := .int) (L := 10) E hM (by omega) rfl ka_int rfl (Or.inl ⟨rfl, rfl⟩) (by decide) (by decide) (by decide) (Nat.le_of_ble_eq_true rfl) (Nat.le_of_ble_eq_true rfl) dX11_init_118 (fun H hM => ?_)
  refine W.eq (g2 := F0 m 120 ls [.ref (B + 4), .ref (B + 0)]) rfl ?_
  refine n_putF E hM hnm (o := 0) (q := 4) (Nat.le_of_ble_eq_true rfl) rfl ff_X11_19 rfl dX11_init_120 (fun H locs hM => ?_)
  obtain ⟨m40, hm40, he⟩ := g_let_ex he
  rw [← hm40] at hM
  refine lv_aload_n hx hb dX11_init_123 rfl (lv_at hl 0 rfl) ?_
  refine lv_bipush (v := (10 : Int32)) hx hb dX11_init_124 rfl ?_
  refine n_newa (ty := .int) (atype := .int) (L := 10) E hM (by omega) rfl ka_int rfl (Or.inl ⟨rfl, rfl⟩) (by decide) (by decide) (by decide) (Nat.le_of_ble_eq_true rfl) (Nat.le_of_ble_eq_true rfl) dX11_init_126 (fun H hM => ?_)
  refine W.eq (g2 := F0 m 128 ls [.ref (B + 5), .ref (B + 0)]) rfl ?_
  refine n_putF E hM hnm (o := 0) (q := 5) (Nat.le_of_ble_eq_true rfl) rfl ff_X11_22 rfl dX11_init_128 (fun H locs hM => ?_)
  obtain ⟨m41, hm41, he⟩ := g_let_ex he
  rw [← hm41] at hM
  refine lv_aload_n hx hb dX11_init_131 rfl (lv_at hl 0 rfl) ?_
  refine lv_bipush (v := (10 : Int32)) hx hb dX11_init_132 rfl ?_
  refine n_newa (ty := .int) (atype := .int) (L := 10) E hM (by omega) rfl ka_int rfl (Or.inl ⟨rfl, rfl⟩) (by decide) (by decide) (by decide) (Nat.le_of_ble_eq_true rfl) (Nat.le_of_ble_eq_true rfl) dX11_init_134 (fun H hM => ?_)
  refine W.eq (g2 := F0 m 136 ls [.ref (B + 6), .ref (B + 0)]) rfl ?_
  refine n_putF E hM hnm (o := 0) (q := 6) (Nat.le_of_ble_eq_true rfl) rfl ff_X11_25 rfl dX11_init_136 (fun H locs hM => ?_)
  obtain ⟨m42, hm42, he⟩ := g_let_ex he
  rw [← hm42] at hM
  refine lv_aload_n hx hb dX11_init_139 rfl (lv_at hl 0 rfl) ?_
  refine lv_bipush (v := (10 : Int32)) hx hb dX11_init_140 rfl ?_
  refine n_newa (ty := .int) (atype := .int) (L := 10) E hM (by omega) rfl ka_int rfl (Or.inl ⟨rfl, rfl⟩) (by decide) (by decide) (by decide) (Nat.le_of_ble_eq_true rfl) (Nat.le_of_ble_eq_true rfl) dX11_init_142 (fun H hM => ?_)
  refine W.eq (g2 := F0 m 144 ls [.ref (B + 7), .ref (B + 0)]) rfl ?_
  refine n_putF E hM hnm (o := 0) (q := 7) (Nat.le_of_ble_eq_true rfl) rfl ff_X11_28 rfl dX11_init_144 (fun H locs hM => ?_)
  obtain ⟨m43, hm43, he⟩ := g_let_ex he
  rw [← hm43] at hM
  refine lv_aload_n hx hb dX11_init_147 rfl (lv_at hl 0 rfl) ?_
  refine lv_bipush (v := (10 : Int32)) hx hb dX11_init_148 rfl ?_
  refine n_newa (ty := .int) (atype := .int) (L := 10) E hM (by omega) rfl ka_int rfl (Or.inl ⟨rfl, rfl⟩) (by decide) (by decide) (by decide) (Nat.le_of_ble_eq_true rfl) (Nat.le_of_ble_eq_true rfl) dX11_init_150 (fun H hM => ?_)
  refine W.eq (g2 := F0 m 152 ls [.ref (B + 8), .ref (B + 0)]) rfl ?_
  refine n_putF E hM hnm (o := 0) (q := 8) (Nat.le_of_ble_eq_true rfl) rfl ff_X11_31 rfl dX11_init_152 (fun H locs hM => ?_)
  obtain ⟨m44, hm44, he⟩ := g_let_ex he
  rw [← hm44] at hM
  refine lv_aload_n hx hb dX11_init_155 rfl (lv_at hl 0 rfl) ?_
  refine lv_bipush (v := (10 : Int32)) hx hb dX11_init_156 rfl ?_
  refine n_newa (ty := .int) (atype := .int) (L := 10) E hM (by omega) rfl ka_int rfl (Or.inl ⟨rfl, rfl⟩) (by decide) (by decide) (by decide) (Nat.le_of_ble_eq_true rfl) (Nat.le_of_ble_eq_true rfl) dX11_init_158 (fun H hM => ?_)
  refine W.eq (g2 := F0 m 160 ls [.ref (B + 9), .ref (B + 0)]) rfl ?_
  refine n_putF E hM hnm (o := 0) (q := 9) (Nat.le_of_ble_eq_true rfl) rfl ff_X11_34 rfl dX11_init_160 (fun H locs hM => ?_)
  obtain ⟨m45, hm45, he⟩ := g_let_ex he
  rw [← hm45] at hM
  refine lv_aload_n hx hb dX11_init_163 rfl (lv_at hl 0 rfl) ?_
  refine lv_bipush (v := (24 : Int32)) hx hb dX11_init_164 rfl ?_
  refine n_newa (ty := .int) (atype := .int) (L := 24) E hM (by omega) rfl ka_int rfl (Or.inl ⟨rfl, rfl⟩) (by decide) (by decide) (by decide) (Nat.le_of_ble_eq_true rfl) (Nat.le_of_ble_eq_true rfl) dX11_init_166 (fun H hM => ?_)
  refine W.eq (g2 := F0 m 168 ls [.ref (B + 10), .ref (B + 0)]) rfl ?_
  refine n_putF E hM hnm (o := 0) (q := 10) (Nat.le_of_ble_eq_true rfl) rfl ff_X11_37 rfl dX11_init_168 (fun H locs hM => ?_)
  obtain ⟨m46, hm46, he⟩ := g_let_ex he
  rw [← hm46] at hM
  refine lv_aload_n hx hb dX11_init_171 rfl (lv_at hl 0 rfl) ?_
  refine lv_bipush (v := (24 : Int32)) hx hb dX11_init_172 rfl ?_
  refine n_newa (ty := .int) (atype := .int) (L := 24) E hM (by omega) rfl ka_int rfl (Or.inl ⟨rfl, rfl⟩) (by decide) (by decide) (by decide) (Nat.le_of_ble_eq_true rfl) (Nat.le_of_ble_eq_true rfl) dX11_init_174 (fun H hM => ?_)
  refine W.eq (g2 := F0 m 176 ls [.ref (B + 11), .ref (B + 0)]) rfl ?_
  refine n_putF E hM hnm (o := 0) (q := 11) (Nat.le_of_ble_eq_true rfl) rfl ff_X11_40 rfl dX11_init_176 (fun H locs hM => ?_)
  obtain ⟨m47, hm47, he⟩ := g_let_ex he
  rw [← hm47] at hM
  refine lv_aload_n hx hb dX11_init_179 rfl (lv_at hl 0 rfl) ?_
  refine lv_bipush (v := (24 : Int32)) hx hb dX11_init_180 rfl ?_
  refine n_newa (ty := .int) (atype := .int) (L := 24) E hM (by omega) rfl ka_int rfl (Or.inl ⟨rfl, rfl⟩) (by decide) (by decide) (by decide) (Nat.le_of_ble_eq_true rfl) (Nat.le_of_ble_eq_true rfl) dX11_init_182 (fun H hM => ?_)
  refine W.eq (g2 := F0 m 184 ls [.ref (B + 12), .ref (B + 0)]) rfl ?_
  refine n_putF E hM hnm (o := 0) (q := 12) (Nat.le_of_ble_eq_true rfl) rfl ff_X11_43 rfl dX11_init_184 (fun H locs hM => ?_)
  obtain ⟨m48, hm48, he⟩ := g_let_ex he
  rw [← hm48] at hM
  refine lv_aload_n hx hb dX11_init_187 rfl (lv_at hl 0 rfl) ?_
  refine lv_bipush (v := (16 : Int32)) hx hb dX11_init_188 rfl ?_
  refine n_newa (ty := .int) (atype := .int) (L := 16) E hM (by omega) rfl ka_int rfl (Or.inl ⟨rfl, rfl⟩) (by decide) (by decide) (by decide) (Nat.le_of_ble_eq_true rfl) (Nat.le_of_ble_eq_true rfl) dX11_init_190 (fun H hM => ?_)
  refine W.eq (g2 := F0 m 192 ls [.ref (B + 13), .ref (B + 0)]) rfl ?_
  refine n_putF E hM hnm (o := 0) (q := 13) (Nat.le_of_ble_eq_true rfl) rfl ff_X11_46 rfl dX11_init_192 (fun H locs hM => ?_)
  obtain ⟨m49, hm49, he⟩ := g_let_ex he
  rw [← hm49] at hM
  refine lv_aload_n hx hb dX11_init_195 rfl (lv_at hl 0 rfl) ?_
  refine lv_bipush (v := (16 : Int32)) hx hb dX11_init_196 rfl ?_
  refine n_newa (ty := .int) (atype := .int) (L := 16) E hM (by omega) rfl ka_int rfl (Or.inl ⟨rfl, rfl⟩) (by decide) (by decide) (by decide) (Nat.le_of_ble_eq_true rfl) (Nat.le_of_ble_eq_true rfl) dX11_init_198 (fun H hM => ?_)
  refine W.eq (g2 := F0 m 200 ls [.ref (B + 14), .ref (B + 0)]) rfl ?_
  refine n_putF E hM hnm (o := 0) (q := 14) (Nat.le_of_ble_eq_true rfl) rfl ff_X11_49 rfl dX11_init_200 (fun H locs hM => ?_)
  obtain ⟨m50, hm50, he⟩ := g_let_ex he
  rw [← hm50] at hM
  refine lv_aload_n hx hb dX11_init_203 rfl (lv_at hl 0 rfl) ?_
  refine lv_bipush (v := (16 : Int32)) hx hb dX11_init_204 rfl ?_
  refine n_newa (ty := .int) (atype := .int) (L := 16) E hM (by omega) rfl ka_int rfl (Or.inl ⟨rfl, rfl⟩) (by decide) (by decide) (by decide) (Nat.le_of_ble_eq_true rfl) (Nat.le_of_ble_eq_true rfl) dX11_init_206 (fun H hM => ?_)
  refine W.eq (g2 := F0 m 208 ls [.ref (B + 15), .ref (B + 0)]) rfl ?_
  refine n_putF E hM hnm (o := 0) (q := 15) (Nat.le_of_ble_eq_true rfl) rfl ff_X11_52 rfl dX11_init_208 (fun H locs hM => ?_)
  obtain ⟨m51, hm51, he⟩ := g_let_ex he
  rw [← hm51] at hM
  refine lv_aload_n hx hb dX11_init_211 rfl (lv_at hl 0 rfl) ?_
  refine lv_bipush (v := (16 : Int32)) hx hb dX11_init_212 rfl ?_
  refine n_newa (ty := .int) (atype := .int) (L := 16) E hM (by omega) rfl ka_int rfl (Or.inl ⟨rfl, rfl⟩) (by decide) (by decide) (by decide) (Nat.le_of_ble_eq_true rfl) (Nat.le_of_ble_eq_true rfl) dX11_init_214 (fun H hM => ?_)
  refine W.eq (g2 := F0 m 216 ls [.ref (B + 16), .ref (B + 0)]) rfl ?_
  refine n_putF E hM hnm (o := 0) (q := 16) (Nat.le_of_ble_eq_true rfl) rfl ff_X11_55 rfl dX11_init_216 (fun H locs hM => ?_)
  obtain ⟨m52, hm52, he⟩ := g_let_ex he
  rw [← hm52] at hM
  refine lv_aload_n hx hb dX11_init_219 rfl (lv_at hl 0 rfl) ?_
  refine lv_bipush (v := (16 : Int32)) hx hb dX11_init_220 rfl ?_
  refine n_newa (ty := .int) (atype := .int) (L := 16) E hM (by omega) rfl ka_int rfl (Or.inl ⟨rfl, rfl⟩) (by decide) (by decide) (by decide) (Nat.le_of_ble_eq_true rfl) (Nat.le_of_ble_eq_true rfl) dX11_init_222 (fun H hM => ?_)
  refine W.eq (g2 := F0 m 224 ls [.ref (B + 17), .ref (B + 0)]) rfl ?_
  refine n_putF E hM hnm (o := 0) (q := 17) (Nat.le_of_ble_eq_true rfl) rfl ff_X11_58 rfl dX11_init_224 (fun H locs hM => ?_)
  obtain ⟨m53, hm53, he⟩ := g_let_ex he
  rw [← hm53] at hM
  refine lv_aload_n hx hb dX11_init_227 rfl (lv_at hl 0 rfl) ?_
  refine lv_bipush (v := (6 : Int32)) hx hb dX11_init_228 rfl ?_
  refine n_newa (ty := .int) (atype := .int) (L := 6) E hM (by omega) rfl ka_int rfl (Or.inl ⟨rfl, rfl⟩) (by decide) (by decide) (by decide) (Nat.le_of_ble_eq_true rfl) (Nat.le_of_ble_eq_true rfl) dX11_init_230 (fun H hM => ?_)
  refine W.eq (g2 := F0 m 232 ls [.ref (B + 18), .ref (B + 0)]) rfl ?_
  refine n_putF E hM hnm (o := 0) (q := 18) (Nat.le_of_ble_eq_true rfl) rfl ff_X11_61 rfl dX11_init_232 (fun H locs hM => ?_)
  obtain ⟨m54, hm54, he⟩ := g_let_ex he
  rw [← hm54] at hM
  refine lv_aload_n hx hb dX11_init_235 rfl (lv_at hl 0 rfl) ?_
  refine lv_bipush (v := (6 : Int32)) hx hb dX11_init_236 rfl ?_
  refine n_newa (ty := .int) (atype := .int) (L := 6) E hM (by omega) rfl ka_int rfl (Or.inl ⟨rfl, rfl⟩) (by decide) (by decide) (by decide) (Nat.le_of_ble_eq_true rfl) (Nat.le_of_ble_eq_true rfl) dX11_init_238 (fun H hM => ?_)
  refine W.eq (g2 := F0 m 240 ls [.ref (B + 19), .ref (B + 0)]) rfl ?_
  refine n_putF E hM hnm (o := 0) (q := 19) (Nat.le_of_ble_eq_true rfl) rfl ff_X11_64 rfl dX11_init_240 (fun H locs hM => ?_)
  obtain ⟨m55, hm55, he⟩ := g_let_ex he
  rw [← hm55] at hM
  refine lv_aload_n hx hb dX11_init_243 rfl (lv_at hl 0 rfl) ?_
  refine lv_sipush (v := (128 : Int32)) hx hb dX11_init_244 rfl ?_
  refine n_newa (ty := .int) (atype := .int) (L := 128) E hM (by omega) rfl ka_int rfl (Or.inl ⟨rfl, rfl⟩) (by decide) (by decide) (by decide) (Nat.le_of_ble_eq_true rfl) (Nat.le_of_ble_eq_true rfl) dX11_init_247 (fun H hM => ?_)
  refine W.eq (g2 := F0 m 249 ls [.ref (B + 20), .ref (B + 0)]) rfl ?_
  refine n_putF E hM hnm (o := 0) (q := 20) (Nat.le_of_ble_eq_true rfl) rfl ff_X11_67 rfl dX11_init_249 (fun H locs hM => ?_)
  obtain ⟨m56, hm56, he⟩ := g_let_ex he
  rw [← hm56] at hM
  refine lv_aload_n hx hb dX11_init_252 rfl (lv_at hl 0 rfl) ?_
  refine lv_sipush (v := (128 : Int32)) hx hb dX11_init_253 rfl ?_
  refine n_newa (ty := .int) (atype := .int) (L := 128) E hM (by omega) rfl ka_int rfl (Or.inl ⟨rfl, rfl⟩) (by decide) (by decide) (by decide) (Nat.le_of_ble_eq_true rfl) (Nat.le_of_ble_eq_true rfl) dX11_init_256 (fun H hM => ?_)
  refine W.eq (g2 := F0 m 258 ls [.ref (B + 21), .ref (B + 0)]) rfl ?_
  refine n_putF E hM hnm (o := 0) (q := 21) (Nat.le_of_ble_eq_true rfl) rfl ff_X11_70 rfl dX11_init_258 (fun H locs hM => ?_)
  obtain ⟨m57, hm57, he⟩ := g_let_ex he
  rw [← hm57] at hM
  refine lv_aload_n hx hb dX11_init_261 rfl (lv_at hl 0 rfl) ?_
  refine lv_iconst (v := (-1 : Int32)) hx hb dX11_init_262 rfl ?_
  refine n_putI E hM (o := 0) (Nat.le_of_ble_eq_true rfl) rfl nfp_X11_73 dX11_init_263 (fun H locs hM => ?_)
  obtain ⟨m58, hm58, he⟩ := g_let_ex he
  rw [← hm58] at hM
  refine lv_aload_n hx hb dX11_init_266 rfl (lv_at hl 0 rfl) ?_
  refine lv_bipush (v := (7 : Int32)) hx hb dX11_init_267 rfl ?_
  refine n_newa (ty := .long) (atype := .long) (L := 7) E hM (by omega) rfl ka_long rfl (Or.inr (Or.inl ⟨rfl, rfl⟩)) (by decide) (by decide) (by decide) (Nat.le_of_ble_eq_true rfl) (Nat.le_of_ble_eq_true rfl) dX11_init_269 (fun H hM => ?_)
  refine W.eq (g2 := F0 m 271 ls [.ref (B + 22), .ref (B + 0)]) rfl ?_
  refine n_putF E hM hnm (o := 0) (q := 22) (Nat.le_of_ble_eq_true rfl) rfl ff_X11_77 rfl dX11_init_271 (fun H locs hM => ?_)
  obtain ⟨m59, hm59, he⟩ := g_let_ex he
  rw [← hm59] at hM
  refine lv_aload_n hx hb dX11_init_274 rfl (lv_at hl 0 rfl) ?_
  refine lv_bipush (v := (64 : Int32)) hx hb dX11_init_275 rfl ?_
  refine n_newa (ty := .long) (atype := .long) (L := 64) E hM (by omega) rfl ka_long rfl (Or.inr (Or.inl ⟨rfl, rfl⟩)) (by decide) (by decide) (by decide) (Nat.le_of_ble_eq_true rfl) (Nat.le_of_ble_eq_true rfl) dX11_init_277 (fun H hM => ?_)
  refine W.eq (g2 := F0 m 279 ls [.ref (B + 23), .ref (B + 0)]) rfl ?_
  refine n_putF E hM hnm (o := 0) (q := 23) (Nat.le_of_ble_eq_true rfl) rfl ff_X11_81 rfl dX11_init_279 (fun H locs hM => ?_)
  obtain ⟨m60, hm60, he⟩ := g_let_ex he
  rw [← hm60] at hM
  refine lv_aload_n hx hb dX11_init_282 rfl (lv_at hl 0 rfl) ?_
  refine lv_bipush (v := (23 : Int32)) hx hb dX11_init_283 rfl ?_
  refine n_newa (ty := .int) (atype := .int) (L := 23) E hM (by omega) rfl ka_int rfl (Or.inl ⟨rfl, rfl⟩) (by decide) (by decide) (by decide) (Nat.le_of_ble_eq_true rfl) (Nat.le_of_ble_eq_true rfl) dX11_init_285 (fun H hM => ?_)
  refine W.eq (g2 := F0 m 287 ls [.ref (B + 24), .ref (B + 0)]) rfl ?_
  refine n_putF E hM hnm (o := 0) (q := 24) (Nat.le_of_ble_eq_true rfl) rfl ff_X11_84 rfl dX11_init_287 (fun H locs hM => ?_)
  obtain ⟨m61, hm61, he⟩ := g_let_ex he
  rw [← hm61] at hM
  refine lv_aload_n hx hb dX11_init_290 rfl (lv_at hl 0 rfl) ?_
  refine lv_bipush (v := (23 : Int32)) hx hb dX11_init_291 rfl ?_
  refine n_newa (ty := .int) (atype := .int) (L := 23) E hM (by omega) rfl ka_int rfl (Or.inl ⟨rfl, rfl⟩) (by decide) (by decide) (by decide) (Nat.le_of_ble_eq_true rfl) (Nat.le_of_ble_eq_true rfl) dX11_init_293 (fun H hM => ?_)
  refine W.eq (g2 := F0 m 295 ls [.ref (B + 25), .ref (B + 0)]) rfl ?_
  refine n_putF E hM hnm (o := 0) (q := 25) (Nat.le_of_ble_eq_true rfl) rfl ff_X11_87 rfl dX11_init_295 (fun H locs hM => ?_)
  obtain ⟨m62, hm62, he⟩ := g_let_ex he
  rw [← hm62] at hM
  refine lv_aload_n hx hb dX11_init_298 rfl (lv_at hl 0 rfl) ?_
  refine lv_bipush (v := (23 : Int32)) hx hb dX11_init_299 rfl ?_
  refine n_newa (ty := .int) (atype := .int) (L := 23) E hM (by omega) rfl ka_int rfl (Or.inl ⟨rfl, rfl⟩) (by decide) (by decide) (by decide) (Nat.le_of_ble_eq_true rfl) (Nat.le_of_ble_eq_true rfl) dX11_init_301 (fun H hM => ?_)
  refine W.eq (g2 := F0 m 303 ls [.ref (B + 26), .ref (B + 0)]) rfl ?_
  refine n_putF E hM hnm (o := 0) (q := 26) (Nat.le_of_ble_eq_true rfl) rfl ff_X11_90 rfl dX11_init_303 (fun H locs hM => ?_)
  obtain ⟨m63, hm63, he⟩ := g_let_ex he
  rw [← hm63] at hM
  refine lv_aload_n hx hb dX11_init_306 rfl (lv_at hl 0 rfl) ?_
  refine lv_bipush (v := (23 : Int32)) hx hb dX11_init_307 rfl ?_
  refine n_newa (ty := .int) (atype := .int) (L := 23) E hM (by omega) rfl ka_int rfl (Or.inl ⟨rfl, rfl⟩) (by decide) (by decide) (by decide) (Nat.le_of_ble_eq_true rfl) (Nat.le_of_ble_eq_true rfl) dX11_init_309 (fun H hM => ?_)
  refine W.eq (g2 := F0 m 311 ls [.ref (B + 27), .ref (B + 0)]) rfl ?_
  refine n_putF E hM hnm (o := 0) (q := 27) (Nat.le_of_ble_eq_true rfl) rfl ff_X11_93 rfl dX11_init_311 (fun H locs hM => ?_)
  obtain ⟨m64, hm64, he⟩ := g_let_ex he
  rw [← hm64] at hM
  refine lv_aload_n hx hb dX11_init_314 rfl (lv_at hl 0 rfl) ?_
  refine lv_bipush (v := (115 : Int32)) hx hb dX11_init_315 rfl ?_
  refine n_newa (ty := .int) (atype := .int) (L := 115) E hM (by omega) rfl ka_int rfl (Or.inl ⟨rfl, rfl⟩) (by decide) (by decide) (by decide) (Nat.le_of_ble_eq_true rfl) (Nat.le_of_ble_eq_true rfl) dX11_init_317 (fun H hM => ?_)
  refine W.eq (g2 := F0 m 319 ls [.ref (B + 28), .ref (B + 0)]) rfl ?_
  refine n_putF E hM hnm (o := 0) (q := 28) (Nat.le_of_ble_eq_true rfl) rfl ff_X11_96 rfl dX11_init_319 (fun H locs hM => ?_)
  obtain ⟨m65, hm65, he⟩ := g_let_ex he
  rw [← hm65] at hM
  refine lv_aload_n hx hb dX11_init_322 rfl (lv_at hl 0 rfl) ?_
  refine lv_sipush (v := (575 : Int32)) hx hb dX11_init_323 rfl ?_
  refine n_newa (ty := .int) (atype := .int) (L := 575) E hM (by omega) rfl ka_int rfl (Or.inl ⟨rfl, rfl⟩) (by decide) (by decide) (by decide) (Nat.le_of_ble_eq_true rfl) (Nat.le_of_ble_eq_true rfl) dX11_init_326 (fun H hM => ?_)
  refine W.eq (g2 := F0 m 328 ls [.ref (B + 29), .ref (B + 0)]) rfl ?_
  refine n_putF E hM hnm (o := 0) (q := 29) (Nat.le_of_ble_eq_true rfl) rfl ff_X11_99 rfl dX11_init_328 (fun H locs hM => ?_)
  obtain ⟨m66, hm66, he⟩ := g_let_ex he
  rw [← hm66] at hM
  refine lv_aload_n hx hb dX11_init_331 rfl (lv_at hl 0 rfl) ?_
  refine lv_sipush (v := (575 : Int32)) hx hb dX11_init_332 rfl ?_
  refine n_newa (ty := .int) (atype := .int) (L := 575) E hM (by omega) rfl ka_int rfl (Or.inl ⟨rfl, rfl⟩) (by decide) (by decide) (by decide) (Nat.le_of_ble_eq_true rfl) (Nat.le_of_ble_eq_true rfl) dX11_init_335 (fun H hM => ?_)
  refine W.eq (g2 := F0 m 337 ls [.ref (B + 30), .ref (B + 0)]) rfl ?_
  refine n_putF E hM hnm (o := 0) (q := 30) (Nat.le_of_ble_eq_true rfl) rfl ff_X11_102 rfl dX11_init_337 (fun H locs hM => ?_)
  obtain ⟨m67, hm67, he⟩ := g_let_ex he
  rw [← hm67] at hM
  refine lv_aload_n hx hb dX11_init_340 rfl (lv_at hl 0 rfl) ?_
  refine lv_sipush (v := (184 : Int32)) hx hb dX11_init_341 rfl ?_
  refine n_newa (ty := .int) (atype := .int) (L := 184) E hM (by omega) rfl ka_int rfl (Or.inl ⟨rfl, rfl⟩) (by decide) (by decide) (by decide) (Nat.le_of_ble_eq_true rfl) (Nat.le_of_ble_eq_true rfl) dX11_init_344 (fun H hM => ?_)
  refine W.eq (g2 := F0 m 346 ls [.ref (B + 31), .ref (B + 0)]) rfl ?_
  refine n_putF E hM hnm (o := 0) (q := 31) (Nat.le_of_ble_eq_true rfl) rfl ff_X11_105 rfl dX11_init_346 (fun H locs hM => ?_)
  obtain ⟨m68, hm68, he⟩ := g_let_ex he
  rw [← hm68] at hM
  refine lv_aload_n hx hb dX11_init_349 rfl (lv_at hl 0 rfl) ?_
  refine lv_sipush (v := (276 : Int32)) hx hb dX11_init_350 rfl ?_
  refine n_newa (ty := .int) (atype := .int) (L := 276) E hM (by omega) rfl ka_int rfl (Or.inl ⟨rfl, rfl⟩) (by decide) (by decide) (by decide) (Nat.le_of_ble_eq_true rfl) (Nat.le_of_ble_eq_true rfl) dX11_init_353 (fun H hM => ?_)
  refine W.eq (g2 := F0 m 355 ls [.ref (B + 32), .ref (B + 0)]) rfl ?_
  refine n_putF E hM hnm (o := 0) (q := 32) (Nat.le_of_ble_eq_true rfl) rfl ff_X11_108 rfl dX11_init_355 (fun H locs hM => ?_)
  obtain ⟨m69, hm69, he⟩ := g_let_ex he
  rw [← hm69] at hM
  refine lv_aload_n hx hb dX11_init_358 rfl (lv_at hl 0 rfl) ?_
  refine lv_sipush (v := (276 : Int32)) hx hb dX11_init_359 rfl ?_
  refine n_newa (ty := .int) (atype := .int) (L := 276) E hM (by omega) rfl ka_int rfl (Or.inl ⟨rfl, rfl⟩) (by decide) (by decide) (by decide) (Nat.le_of_ble_eq_true rfl) (Nat.le_of_ble_eq_true rfl) dX11_init_362 (fun H hM => ?_)
  refine W.eq (g2 := F0 m 364 ls [.ref (B + 33), .ref (B + 0)]) rfl ?_
  refine n_putF E hM hnm (o := 0) (q := 33) (Nat.le_of_ble_eq_true rfl) rfl ff_X11_111 rfl dX11_init_364 (fun H locs hM => ?_)
  obtain ⟨m70, hm70, he⟩ := g_let_ex he
  rw [← hm70] at hM
  refine lv_aload_n hx hb dX11_init_367 rfl (lv_at hl 0 rfl) ?_
  refine lv_sipush (v := (276 : Int32)) hx hb dX11_init_368 rfl ?_
  refine n_newa (ty := .int) (atype := .int) (L := 276) E hM (by omega) rfl ka_int rfl (Or.inl ⟨rfl, rfl⟩) (by decide) (by decide) (by decide) (Nat.le_of_ble_eq_true rfl) (Nat.le_of_ble_eq_true rfl) dX11_init_371 (fun H hM => ?_)
  refine W.eq (g2 := F0 m 373 ls [.ref (B + 34), .ref (B + 0)]) rfl ?_
  refine n_putF E hM hnm (o := 0) (q := 34) (Nat.le_of_ble_eq_true rfl) rfl ff_X11_114 rfl dX11_init_373 (fun H locs hM => ?_)
  obtain ⟨m71, hm71, he⟩ := g_let_ex he
  rw [← hm71] at hM
  refine lv_aload_n hx hb dX11_init_376 rfl (lv_at hl 0 rfl) ?_
  refine lv_sipush (v := (276 : Int32)) hx hb dX11_init_377 rfl ?_
  refine n_newa (ty := .int) (atype := .int) (L := 276) E hM (by omega) rfl ka_int rfl (Or.inl ⟨rfl, rfl⟩) (by decide) (by decide) (by decide) (Nat.le_of_ble_eq_true rfl) (Nat.le_of_ble_eq_true rfl) dX11_init_380 (fun H hM => ?_)
  refine W.eq (g2 := F0 m 382 ls [.ref (B + 35), .ref (B + 0)]) rfl ?_
  refine n_putF E hM hnm (o := 0) (q := 35) (Nat.le_of_ble_eq_true rfl) rfl ff_X11_117 rfl dX11_init_382 (fun H locs hM => ?_)
  obtain ⟨m72, hm72, he⟩ := g_let_ex he
  rw [← hm72] at hM
  refine lv_aload_n hx hb dX11_init_385 rfl (lv_at hl 0 rfl) ?_
  refine lv_iconst (v := (-1 : Int32)) hx hb dX11_init_386 rfl ?_
  refine n_putI E hM (o := 0) (Nat.le_of_ble_eq_true rfl) rfl nfp_X11_120 dX11_init_387 (fun H locs hM => ?_)
  obtain ⟨m73, hm73, he⟩ := g_let_ex he
  rw [← hm73] at hM
  refine lv_aload_n hx hb dX11_init_390 rfl (lv_at hl 0 rfl) ?_
  refine lv_iconst (v := (-1 : Int32)) hx hb dX11_init_391 rfl ?_
  refine n_putI E hM (o := 0) (Nat.le_of_ble_eq_true rfl) rfl nfp_X11_123 dX11_init_392 (fun H locs hM => ?_)
  obtain ⟨m74, hm74, he⟩ := g_let_ex he
  rw [← hm74] at hM
  refine lv_aload_n hx hb dX11_init_395 rfl (lv_at hl 0 rfl) ?_
  refine lv_iconst (v := (4 : Int32)) hx hb dX11_init_396 rfl ?_
  refine n_newa (ty := .int) (atype := .int) (L := 4) E hM (by omega) rfl ka_int rfl (Or.inl ⟨rfl, rfl⟩) (by decide) (by decide) (by decide) (Nat.le_of_ble_eq_true rfl) (Nat.le_of_ble_eq_true rfl) dX11_init_397 (fun H hM => ?_)
  refine W.eq (g2 := F0 m 399 ls [.ref (B + 36), .ref (B + 0)]) rfl ?_
  refine n_putF E hM hnm (o := 0) (q := 36) (Nat.le_of_ble_eq_true rfl) rfl ff_X11_126 rfl dX11_init_399 (fun H locs hM => ?_)
  obtain ⟨m75, hm75, he⟩ := g_let_ex he
  rw [← hm75] at hM
  refine lv_aload_n hx hb dX11_init_402 rfl (lv_at hl 0 rfl) ?_
  refine lv_iconst (v := (4 : Int32)) hx hb dX11_init_403 rfl ?_
  refine n_newa (ty := .int) (atype := .int) (L := 4) E hM (by omega) rfl ka_int rfl (Or.inl ⟨rfl, rfl⟩) (by decide) (by decide) (by decide) (Nat.le_of_ble_eq_true rfl) (Nat.le_of_ble_eq_true rfl) dX11_init_404 (fun H hM => ?_)
  refine W.eq (g2 := F0 m 406 ls [.ref (B + 37), .ref (B + 0)]) rfl ?_
  refine n_putF E hM hnm (o := 0) (q := 37) (Nat.le_of_ble_eq_true rfl) rfl ff_X11_129 rfl dX11_init_406 (fun H locs hM => ?_)
  obtain ⟨m76, hm76, he⟩ := g_let_ex he
  rw [← hm76] at hM
  refine lv_aload_n hx hb dX11_init_409 rfl (lv_at hl 0 rfl) ?_
  refine lv_iconst (v := (4 : Int32)) hx hb dX11_init_410 rfl ?_
  refine n_newa (ty := .int) (atype := .int) (L := 4) E hM (by omega) rfl ka_int rfl (Or.inl ⟨rfl, rfl⟩) (by decide) (by decide) (by decide) (Nat.le_of_ble_eq_true rfl) (Nat.le_of_ble_eq_true rfl) dX11_init_411 (fun H hM => ?_)
  refine W.eq (g2 := F0 m 413 ls [.ref (B + 38), .ref (B + 0)]) rfl ?_
  refine n_putF E hM hnm (o := 0) (q := 38) (Nat.le_of_ble_eq_true rfl) rfl ff_X11_132 rfl dX11_init_413 (fun H locs hM => ?_)
  obtain ⟨m77, hm77, he⟩ := g_let_ex he
  rw [← hm77] at hM
  refine lv_aload_n hx hb dX11_init_416 rfl (lv_at hl 0 rfl) ?_
  refine lv_iconst (v := (-1 : Int32)) hx hb dX11_init_417 rfl ?_
  refine n_putI E hM (o := 0) (Nat.le_of_ble_eq_true rfl) rfl nfp_X11_135 dX11_init_418 (fun H locs hM => ?_)
  obtain ⟨m78, hm78, he⟩ := g_let_ex he
  rw [← hm78] at hM
  refine lv_aload_n hx hb dX11_init_421 rfl (lv_at hl 0 rfl) ?_
  refine lv_bipush (v := (24 : Int32)) hx hb dX11_init_422 rfl ?_
  refine n_newa (ty := .int) (atype := .int) (L := 24) E hM (by omega) rfl ka_int rfl (Or.inl ⟨rfl, rfl⟩) (by decide) (by decide) (by decide) (Nat.le_of_ble_eq_true rfl) (Nat.le_of_ble_eq_true rfl) dX11_init_424 (fun H hM => ?_)
  refine W.eq (g2 := F0 m 426 ls [.ref (B + 39), .ref (B + 0)]) rfl ?_
  refine n_putF E hM hnm (o := 0) (q := 39) (Nat.le_of_ble_eq_true rfl) rfl ff_X11_138 rfl dX11_init_426 (fun H locs hM => ?_)
  obtain ⟨m79, hm79, he⟩ := g_let_ex he
  rw [← hm79] at hM
  refine lv_aload_n hx hb dX11_init_429 rfl (lv_at hl 0 rfl) ?_
  refine lv_bipush (v := (24 : Int32)) hx hb dX11_init_430 rfl ?_
  refine n_newa (ty := .int) (atype := .int) (L := 24) E hM (by omega) rfl ka_int rfl (Or.inl ⟨rfl, rfl⟩) (by decide) (by decide) (by decide) (Nat.le_of_ble_eq_true rfl) (Nat.le_of_ble_eq_true rfl) dX11_init_432 (fun H hM => ?_)
  refine W.eq (g2 := F0 m 434 ls [.ref (B + 40), .ref (B + 0)]) rfl ?_
  refine n_putF E hM hnm (o := 0) (q := 40) (Nat.le_of_ble_eq_true rfl) rfl ff_X11_141 rfl dX11_init_434 (fun H locs hM => ?_)
  obtain ⟨m80, hm80, he⟩ := g_let_ex he
  rw [← hm80] at hM
  refine lv_aload_n hx hb dX11_init_437 rfl (lv_at hl 0 rfl) ?_
  refine lv_bipush (v := (24 : Int32)) hx hb dX11_init_438 rfl ?_
  refine n_newa (ty := .boolean) (atype := .boolean) (L := 24) E hM (by omega) rfl ka_boolean rfl (Or.inr (Or.inr (Or.inl ⟨rfl, rfl⟩))) (by decide) (by decide) (by decide) (Nat.le_of_ble_eq_true rfl) (Nat.le_of_ble_eq_true rfl) dX11_init_440 (fun H hM => ?_)
  refine W.eq (g2 := F0 m 442 ls [.ref (B + 41), .ref (B + 0)]) rfl ?_
  refine n_putF E hM hnm (o := 0) (q := 41) (Nat.le_of_ble_eq_true rfl) rfl ff_X11_144 rfl dX11_init_442 (fun H locs hM => ?_)
  obtain ⟨m81, hm81, he⟩ := g_let_ex he
  rw [← hm81] at hM
  refine lv_aload_n hx hb dX11_init_445 rfl (lv_at hl 0 rfl) ?_
  refine lv_bipush (v := (24 : Int32)) hx hb dX11_init_446 rfl ?_
  refine n_newa (ty := .int) (atype := .int) (L := 24) E hM (by omega) rfl ka_int rfl (Or.inl ⟨rfl, rfl⟩) (by decide) (by decide) (by decide) (Nat.le_of_ble_eq_true rfl) (Nat.le_of_ble_eq_true rfl) dX11_init_448 (fun H hM => ?_)
  refine W.eq (g2 := F0 m 450 ls [.ref (B + 42), .ref (B + 0)]) rfl ?_
  refine n_putF E hM hnm (o := 0) (q := 42) (Nat.le_of_ble_eq_true rfl) rfl ff_X11_148 rfl dX11_init_450 (fun H locs hM => ?_)
  obtain ⟨m82, hm82, he⟩ := g_let_ex he
  rw [← hm82] at hM
  refine lv_aload_n hx hb dX11_init_453 rfl (lv_at hl 0 rfl) ?_
  refine lv_bipush (v := (24 : Int32)) hx hb dX11_init_454 rfl ?_
  refine n_newa (ty := .boolean) (atype := .boolean) (L := 24) E hM (by omega) rfl ka_boolean rfl (Or.inr (Or.inr (Or.inl ⟨rfl, rfl⟩))) (by decide) (by decide) (by decide) (Nat.le_of_ble_eq_true rfl) (Nat.le_of_ble_eq_true rfl) dX11_init_456 (fun H hM => ?_)
  refine W.eq (g2 := F0 m 458 ls [.ref (B + 43), .ref (B + 0)]) rfl ?_
  refine n_putF E hM hnm (o := 0) (q := 43) (Nat.le_of_ble_eq_true rfl) rfl ff_X11_151 rfl dX11_init_458 (fun H locs hM => ?_)
  obtain ⟨m83, hm83, he⟩ := g_let_ex he
  rw [← hm83] at hM
  refine lv_aload_n hx hb dX11_init_461 rfl (lv_at hl 0 rfl) ?_
  obtain ⟨r84, hcr84, he⟩ := g_bind he
  cases he
  have hmN : m83 = nM1 := by subst_vars; rfl
  rw [hmN] at hM hcr84
  have hMt := c11_begins l D aC B hcr84
  obtain ⟨-, -, -, -, hK, hZ⟩ := E
  have hP : va_P D vwCl (g_W aC B yM 44 nM1) H := by rw [← nM1_W]; exact hM.1
  have hcell := va_recv hK hP (ci := 11) rfl (q0 := 0) (a := B + 0) (fs := g_fs B yM nM1 0 11) (by rw [g_Wat (by decide), g_Eobj (ci := 11) rfl (by decide)])
  obtain ⟨⟨q1, q2, q3, q4, q5⟩, h2, h3, -⟩ := cv_X11_154
  have hB : CallB (n_rm 3 43 4056) s args RX11 154 yX11_begins cX11_begins 1 none (.code yX11_begins cX11_begins 1 none :: g_ws) (g_rm 2) 0 0 0 := by
    refine callB_of (Ts := g_ws) (ws' := g_ws) 0 hts ?_ rfl rfl rfl (hts _ q2) (hts _ q1) q4 ⟨by decide, by decide⟩
    intro w hw
    rcases List.mem_cons.mp hw with rfl | hw
    · exact ⟨q3, g_good q3⟩
    · exact ⟨hw, g_good hw⟩
  have hrun := va_runV (p := p) (l := l) (e := e) (R := n_rm 3 43 4056) (below := below) (meth := meth) (locs := locs) (cells := 43) (slots := 4056) (g := F0 m 462 ls [.ref (B + 0)]) (rest := []) (C := yX11_begins.cls) (b := B + 0) (Ts := g_ws) (nL := 1) (As := []) ⟨hx, hb, hml, hown, hts⟩ hMt ⟨hB, hts _ h2, hts _ h3⟩ ⟨g_blind (fun _ h => h.calling), hcell, fun U hU hW => ⟨rfl, by rw [hU]; exact hP, va_K.moved hW.alike hK, (hZ.1.warm hW (fun q h1 h2 => by rw [hU]; exact hM.2.1.2.1 q h1 h2)).narrow (fun q h => h.1)⟩⟩ rfl rfl hl.1 rfl (lv_room (Nat.le_of_ble_eq_true rfl)) dX11_init_462 ⟨Nat.le_of_ble_eq_true rfl, Nat.le_of_ble_eq_true rfl⟩
  intro T hT X
  obtain ⟨v, st₀, t, T', L, h0, X', hL, e1, e2, ⟨hv, hP1, hz, hk⟩, st⟩ := hrun T hT X
  cases hv
  rw [h0] at hz hk
  obtain ⟨-, hS, -, -⟩ := hM
  have hsub : ∀ q, g_A B 44 q → n_A B q := fun q h => h.1
  have hS1 : va_S (n_A B) s.heap T'.heap (locs ++ L) := ⟨Nat.le_trans hS.1 (by rw [e1]; exact hz), fun q h1 h2 => by rw [e1, hk q (Nat.lt_of_lt_of_le h1 hS.1) (fun z => h2 (hsub q z))]; exact hS.2.1 q h1 h2, fun q hq => by
      rcases List.mem_append.mp hq with h | h
      · exact hS.2.2 q h
      · exact hsub _ (hL q h)⟩
  obtain ⟨t2, a1, b1⟩ := W.vret (p := p) (l := l) (e := e) (R := n_rm 3 43 4056) (s := s) (m := m) (args := args) (below := below) (meth := meth) (c := c) (H := T'.heap) (locs := locs ++ L) (cells := 43) (slots := 4056) (Qc := n_PostM D aC B q0) (free := n_A B) (pc := 465) (ls := ls) hx hb hret (fun t ht hW => ⟨rfl, by rw [ht, e1]; exact hP1, hS1.F ht⟩) hS1.2.2 dX11_init_465 hlk T' rfl X'
  exact ⟨t2, st t2 a1, b1⟩
end
