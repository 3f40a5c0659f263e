theorem d_R_init_0 : decode M_R_init.2.1 0 = .ok (.aload_n 0, 1) := by decide +kernel
theorem d_R_init_1 : decode M_R_init.2.1 1 = .ok (.invokespecial 1, 3) := by decide +kernel
theorem d_R_init_4 : decode M_R_init.2.1 4 = .ok (.aload_n 0, 1) := by decide +kernel
theorem d_R_init_5 : decode M_R_init.2.1 5 = .ok (.sipush 3896, 3) := by decide +kernel
theorem d_R_init_8 : decode M_R_init.2.1 8 = .ok (.newarray .int, 2) := by decide +kernel
theorem d_R_init_10 : decode M_R_init.2.1 10 = .ok (.putfield 9, 3) := by decide +kernel
theorem d_R_init_13 : decode M_R_init.2.1 13 = .ok (.aload_n 0, 1) := by decide +kernel
theorem d_R_init_14 : decode M_R_init.2.1 14 = .ok (.sipush 23376, 3) := by decide +kernel
theorem d_R_init_17 : decode M_R_init.2.1 17 = .ok (.newarray .int, 2) := by decide +kernel
theorem d_R_init_19 : decode M_R_init.2.1 19 = .ok (.putfield 13, 3) := by decide +kernel
theorem d_R_init_22 : decode M_R_init.2.1 22 = .ok (.aload_n 0, 1) := by decide +kernel
theorem d_R_init_23 : decode M_R_init.2.1 23 = .ok (.bipush 6, 2) := by decide +kernel
theorem d_R_init_25 : decode M_R_init.2.1 25 = .ok (.newarray .int, 2) := by decide +kernel
theorem d_R_init_27 : decode M_R_init.2.1 27 = .ok (.putfield 16, 3) := by decide +kernel
theorem d_R_init_30 : decode M_R_init.2.1 30 = .ok (.aload_n 0, 1) := by decide +kernel
theorem d_R_init_31 : decode M_R_init.2.1 31 = .ok (.bipush 6, 2) := by decide +kernel
theorem d_R_init_33 : decode M_R_init.2.1 33 = .ok (.newarray .int, 2) := by decide +kernel
theorem d_R_init_35 : decode M_R_init.2.1 35 = .ok (.putfield 19, 3) := by decide +kernel
theorem d_R_init_38 : decode M_R_init.2.1 38 = .ok (.aload_n 0, 1) := by decide +kernel
theorem d_R_init_39 : decode M_R_init.2.1 39 = .ok (.sipush 384, 3) := by decide +kernel
theorem d_R_init_42 : decode M_R_init.2.1 42 = .ok (.newarray .long, 2) := by decide +kernel
theorem d_R_init_44 : decode M_R_init.2.1 44 = .ok (.putfield 22, 3) := by decide +kernel
theorem d_R_init_47 : decode M_R_init.2.1 47 = .ok (.aload_n 0, 1) := by decide +kernel
theorem d_R_init_48 : decode M_R_init.2.1 48 = .ok (.bipush 81, 2) := by decide +kernel
theorem d_R_init_50 : decode M_R_init.2.1 50 = .ok (.newarray .int, 2) := by decide +kernel
theorem d_R_init_52 : decode M_R_init.2.1 52 = .ok (.putfield 26, 3) := by decide +kernel
theorem d_R_init_55 : decode M_R_init.2.1 55 = .ok (.aload_n 0, 1) := by decide +kernel
theorem d_R_init_56 : decode M_R_init.2.1 56 = .ok (.iconst 3, 1) := by decide +kernel
theorem d_R_init_57 : decode M_R_init.2.1 57 = .ok (.newarray .int, 2) := by decide +kernel
theorem d_R_init_59 : decode M_R_init.2.1 59 = .ok (.putfield 29, 3) := by decide +kernel
theorem d_R_init_62 : decode M_R_init.2.1 62 = .ok (.aload_n 0, 1) := by decide +kernel
theorem d_R_init_63 : decode M_R_init.2.1 63 = .ok (.bipush 15, 2) := by decide +kernel
theorem d_R_init_65 : decode M_R_init.2.1 65 = .ok (.newarray .int, 2) := by decide +kernel
theorem d_R_init_67 : decode M_R_init.2.1 67 = .ok (.putfield 32, 3) := by decide +kernel
theorem d_R_init_70 : decode M_R_init.2.1 70 = .ok (.aload_n 0, 1) := by decide +kernel
theorem d_R_init_71 : decode M_R_init.2.1 71 = .ok (.bipush 15, 2) := by decide +kernel
theorem d_R_init_73 : decode M_R_init.2.1 73 = .ok (.newarray .int, 2) := by decide +kernel
theorem d_R_init_75 : decode M_R_init.2.1 75 = .ok (.putfield 35, 3) := by decide +kernel
theorem d_R_init_78 : decode M_R_init.2.1 78 = .ok (.aload_n 0, 1) := by decide +kernel
theorem d_R_init_79 : decode M_R_init.2.1 79 = .ok (.bipush 15, 2) := by decide +kernel
theorem d_R_init_81 : decode M_R_init.2.1 81 = .ok (.newarray .int, 2) := by decide +kernel
theorem d_R_init_83 : decode M_R_init.2.1 83 = .ok (.putfield 38, 3) := by decide +kernel
theorem d_R_init_86 : decode M_R_init.2.1 86 = .ok (.aload_n 0, 1) := by decide +kernel
theorem d_R_init_87 : decode M_R_init.2.1 87 = .ok (.bipush 15, 2) := by decide +kernel
theorem d_R_init_89 : decode M_R_init.2.1 89 = .ok (.newarray .int, 2) := by decide +kernel
theorem d_R_init_91 : decode M_R_init.2.1 91 = .ok (.putfield 41, 3) := by decide +kernel
theorem d_R_init_94 : decode M_R_init.2.1 94 = .ok (.aload_n 0, 1) := by decide +kernel
theorem d_R_init_95 : decode M_R_init.2.1 95 = .ok (.iconst 3, 1) := by decide +kernel
theorem d_R_init_96 : decode M_R_init.2.1 96 = .ok (.newarray .int, 2) := by decide +kernel
theorem d_R_init_98 : decode M_R_init.2.1 98 = .ok (.putfield 44, 3) := by decide +kernel
theorem d_R_init_101 : decode M_R_init.2.1 101 = .ok (.aload_n 0, 1) := by decide +kernel
theorem d_R_init_102 : decode M_R_init.2.1 102 = .ok (.iconst 3, 1) := by decide +kernel
theorem d_R_init_103 : decode M_R_init.2.1 103 = .ok (.newarray .int, 2) := by decide +kernel
theorem d_R_init_105 : decode M_R_init.2.1 105 = .ok (.putfield 47, 3) := by decide +kernel
theorem d_R_init_108 : decode M_R_init.2.1 108 = .ok (.aload_n 0, 1) := by decide +kernel
theorem d_R_init_109 : decode M_R_init.2.1 109 = .ok (.bipush 27, 2) := by decide +kernel
theorem d_R_init_111 : decode M_R_init.2.1 111 = .ok (.newarray .int, 2) := by decide +kernel
theorem d_R_init_113 : decode M_R_init.2.1 113 = .ok (.putfield 50, 3) := by decide +kernel
theorem d_R_init_116 : decode M_R_init.2.1 116 = .ok (.aload_n 0, 1) := by decide +kernel
theorem d_R_init_117 : decode M_R_init.2.1 117 = .ok (.bipush 6, 2) := by decide +kernel
theorem d_R_init_119 : decode M_R_init.2.1 119 = .ok (.newarray .int, 2) := by decide +kernel
theorem d_R_init_121 : decode M_R_init.2.1 121 = .ok (.putfield 53, 3) := by decide +kernel
theorem d_R_init_124 : decode M_R_init.2.1 124 = .ok (.aload_n 0, 1) := by decide +kernel
theorem d_R_init_125 : decode M_R_init.2.1 125 = .ok (.bipush 15, 2) := by decide +kernel
theorem d_R_init_127 : decode M_R_init.2.1 127 = .ok (.newarray .int, 2) := by decide +kernel
theorem d_R_init_129 : decode M_R_init.2.1 129 = .ok (.putfield 56, 3) := by decide +kernel
theorem d_R_init_132 : decode M_R_init.2.1 132 = .ok (.aload_n 0, 1) := by decide +kernel
theorem d_R_init_133 : decode M_R_init.2.1 133 = .ok (.iconst 3, 1) := by decide +kernel
theorem d_R_init_134 : decode M_R_init.2.1 134 = .ok (.newarray .int, 2) := by decide +kernel
theorem d_R_init_136 : decode M_R_init.2.1 136 = .ok (.putfield 59, 3) := by decide +kernel
theorem d_R_init_139 : decode M_R_init.2.1 139 = .ok (.aload_n 0, 1) := by decide +kernel
theorem d_R_init_140 : decode M_R_init.2.1 140 = .ok (.bipush 8, 2) := by decide +kernel
theorem d_R_init_142 : decode M_R_init.2.1 142 = .ok (.newarray .int, 2) := by decide +kernel
theorem d_R_init_144 : decode M_R_init.2.1 144 = .ok (.putfield 62, 3) := by decide +kernel
theorem d_R_init_147 : decode M_R_init.2.1 147 = .ok (.aload_n 0, 1) := by decide +kernel
theorem d_R_init_148 : decode M_R_init.2.1 148 = .ok (.bipush 8, 2) := by decide +kernel
theorem d_R_init_150 : decode M_R_init.2.1 150 = .ok (.newarray .int, 2) := by decide +kernel
theorem d_R_init_152 : decode M_R_init.2.1 152 = .ok (.putfield 65, 3) := by decide +kernel
theorem d_R_init_155 : decode M_R_init.2.1 155 = .ok (.aload_n 0, 1) := by decide +kernel
theorem d_R_init_156 : decode M_R_init.2.1 156 = .ok (.bipush 100, 2) := by decide +kernel
theorem d_R_init_158 : decode M_R_init.2.1 158 = .ok (.newarray .int, 2) := by decide +kernel
theorem d_R_init_160 : decode M_R_init.2.1 160 = .ok (.putfield 68, 3) := by decide +kernel
theorem d_R_init_163 : decode M_R_init.2.1 163 = .ok (.aload_n 0, 1) := by decide +kernel
theorem d_R_init_164 : decode M_R_init.2.1 164 = .ok (.sipush 288, 3) := by decide +kernel
theorem d_R_init_167 : decode M_R_init.2.1 167 = .ok (.newarray .int, 2) := by decide +kernel
theorem d_R_init_169 : decode M_R_init.2.1 169 = .ok (.putfield 71, 3) := by decide +kernel
theorem d_R_init_172 : decode M_R_init.2.1 172 = .ok (.aload_n 0, 1) := by decide +kernel
theorem d_R_init_173 : decode M_R_init.2.1 173 = .ok (.sipush 288, 3) := by decide +kernel
theorem d_R_init_176 : decode M_R_init.2.1 176 = .ok (.newarray .int, 2) := by decide +kernel
theorem d_R_init_178 : decode M_R_init.2.1 178 = .ok (.putfield 74, 3) := by decide +kernel
theorem d_R_init_181 : decode M_R_init.2.1 181 = .ok (.aload_n 0, 1) := by decide +kernel
theorem d_R_init_182 : decode M_R_init.2.1 182 = .ok (.sipush 288, 3) := by decide +kernel
theorem d_R_init_185 : decode M_R_init.2.1 185 = .ok (.newarray .int, 2) := by decide +kernel
theorem d_R_init_187 : decode M_R_init.2.1 187 = .ok (.putfield 77, 3) := by decide +kernel
theorem d_R_init_190 : decode M_R_init.2.1 190 = .ok (.aload_n 0, 1) := by decide +kernel
theorem d_R_init_191 : decode M_R_init.2.1 191 = .ok (.bipush 12, 2) := by decide +kernel
theorem d_R_init_193 : decode M_R_init.2.1 193 = .ok (.newarray .int, 2) := by decide +kernel
theorem d_R_init_195 : decode M_R_init.2.1 195 = .ok (.putfield 80, 3) := by decide +kernel
theorem d_R_init_198 : decode M_R_init.2.1 198 = .ok (.aload_n 0, 1) := by decide +kernel
theorem d_R_init_199 : decode M_R_init.2.1 199 = .ok (.bipush 24, 2) := by decide +kernel
theorem d_R_init_201 : decode M_R_init.2.1 201 = .ok (.newarray .int, 2) := by decide +kernel
theorem d_R_init_203 : decode M_R_init.2.1 203 = .ok (.putfield 83, 3) := by decide +kernel
theorem d_R_init_206 : decode M_R_init.2.1 206 = .ok (.aload_n 0, 1) := by decide +kernel
theorem d_R_init_207 : decode M_R_init.2.1 207 = .ok (.bipush 100, 2) := by decide +kernel
theorem d_R_init_209 : decode M_R_init.2.1 209 = .ok (.newarray .int, 2) := by decide +kernel
theorem d_R_init_211 : decode M_R_init.2.1 211 = .ok (.putfield 86, 3) := by decide +kernel
theorem d_R_init_214 : decode M_R_init.2.1 214 = .ok (.aload_n 0, 1) := by decide +kernel
theorem d_R_init_215 : decode M_R_init.2.1 215 = .ok (.sipush 1200, 3) := by decide +kernel
theorem d_R_init_218 : decode M_R_init.2.1 218 = .ok (.newarray .int, 2) := by decide +kernel
theorem d_R_init_220 : decode M_R_init.2.1 220 = .ok (.putfield 89, 3) := by decide +kernel
theorem d_R_init_223 : decode M_R_init.2.1 223 = .ok (.aload_n 0, 1) := by decide +kernel
theorem d_R_init_224 : decode M_R_init.2.1 224 = .ok (.sipush 1200, 3) := by decide +kernel
theorem d_R_init_227 : decode M_R_init.2.1 227 = .ok (.newarray .int, 2) := by decide +kernel
theorem d_R_init_229 : decode M_R_init.2.1 229 = .ok (.putfield 92, 3) := by decide +kernel
theorem d_R_init_232 : decode M_R_init.2.1 232 = .ok (.aload_n 0, 1) := by decide +kernel
theorem d_R_init_233 : decode M_R_init.2.1 233 = .ok (.sipush 1800, 3) := by decide +kernel
theorem d_R_init_236 : decode M_R_init.2.1 236 = .ok (.newarray .int, 2) := by decide +kernel
theorem d_R_init_238 : decode M_R_init.2.1 238 = .ok (.putfield 95, 3) := by decide +kernel
theorem d_R_init_241 : decode M_R_init.2.1 241 = .ok (.aload_n 0, 1) := by decide +kernel
theorem d_R_init_242 : decode M_R_init.2.1 242 = .ok (.sipush 1800, 3) := by decide +kernel
theorem d_R_init_245 : decode M_R_init.2.1 245 = .ok (.newarray .int, 2) := by decide +kernel
theorem d_R_init_247 : decode M_R_init.2.1 247 = .ok (.putfield 98, 3) := by decide +kernel
theorem d_R_init_250 : decode M_R_init.2.1 250 = .ok (.aload_n 0, 1) := by decide +kernel
theorem d_R_init_251 : decode M_R_init.2.1 251 = .ok (.sipush 1800, 3) := by decide +kernel
theorem d_R_init_254 : decode M_R_init.2.1 254 = .ok (.newarray .int, 2) := by decide +kernel
theorem d_R_init_256 : decode M_R_init.2.1 256 = .ok (.putfield 101, 3) := by decide +kernel
theorem d_R_init_259 : decode M_R_init.2.1 259 = .ok (.aload_n 0, 1) := by decide +kernel
theorem d_R_init_260 : decode M_R_init.2.1 260 = .ok (.sipush 1800, 3) := by decide +kernel
theorem d_R_init_263 : decode M_R_init.2.1 263 = .ok (.newarray .int, 2) := by decide +kernel
theorem d_R_init_265 : decode M_R_init.2.1 265 = .ok (.putfield 104, 3) := by decide +kernel
theorem d_R_init_268 : decode M_R_init.2.1 268 = .ok (.aload_n 0, 1) := by decide +kernel
theorem d_R_init_269 : decode M_R_init.2.1 269 = .ok (.sipush 600, 3) := by decide +kernel
theorem d_R_init_272 : decode M_R_init.2.1 272 = .ok (.newarray .boolean, 2) := by decide +kernel
theorem d_R_init_274 : decode M_R_init.2.1 274 = .ok (.putfield 107, 3) := by decide +kernel
theorem d_R_init_277 : decode M_R_init.2.1 277 = .ok (.aload_n 0, 1) := by decide +kernel
theorem d_R_init_278 : decode M_R_init.2.1 278 = .ok (.sipush 600, 3) := by decide +kernel
theorem d_R_init_281 : decode M_R_init.2.1 281 = .ok (.newarray .boolean, 2) := by decide +kernel
theorem d_R_init_283 : decode M_R_init.2.1 283 = .ok (.putfield 111, 3) := by decide +kernel
theorem d_R_init_286 : decode M_R_init.2.1 286 = .ok (.aload_n 0, 1) := by decide +kernel
theorem d_R_init_287 : decode M_R_init.2.1 287 = .ok (.bipush 9, 2) := by decide +kernel
theorem d_R_init_289 : decode M_R_init.2.1 289 = .ok (.newarray .boolean, 2) := by decide +kernel
theorem d_R_init_291 : decode M_R_init.2.1 291 = .ok (.putfield 114, 3) := by decide +kernel
theorem d_R_init_294 : decode M_R_init.2.1 294 = .ok (.aload_n 0, 1) := by decide +kernel
theorem d_R_init_295 : decode M_R_init.2.1 295 = .ok (.ldc 117, 2) := by decide +kernel
theorem d_R_init_297 : decode M_R_init.2.1 297 = .ok (.newarray .int, 2) := by decide +kernel
theorem d_R_init_299 : decode M_R_init.2.1 299 = .ok (.putfield 118, 3) := by decide +kernel
theorem d_R_init_302 : decode M_R_init.2.1 302 = .ok (.aload_n 0, 1) := by decide +kernel
theorem d_R_init_303 : decode M_R_init.2.1 303 = .ok (.bipush 28, 2) := by decide +kernel
theorem d_R_init_305 : decode M_R_init.2.1 305 = .ok (.newarray .int, 2) := by decide +kernel
theorem d_R_init_307 : decode M_R_init.2.1 307 = .ok (.putfield 121, 3) := by decide +kernel
theorem d_R_init_310 : decode M_R_init.2.1 310 = .ok (.aload_n 0, 1) := by decide +kernel
theorem d_R_init_311 : decode M_R_init.2.1 311 = .ok (.bipush 100, 2) := by decide +kernel
theorem d_R_init_313 : decode M_R_init.2.1 313 = .ok (.newarray .int, 2) := by decide +kernel
theorem d_R_init_315 : decode M_R_init.2.1 315 = .ok (.putfield 124, 3) := by decide +kernel
theorem d_R_init_318 : decode M_R_init.2.1 318 = .ok (.aload_n 0, 1) := by decide +kernel
theorem d_R_init_319 : decode M_R_init.2.1 319 = .ok (.bipush 8, 2) := by decide +kernel
theorem d_R_init_321 : decode M_R_init.2.1 321 = .ok (.newarray .int, 2) := by decide +kernel
theorem d_R_init_323 : decode M_R_init.2.1 323 = .ok (.putfield 127, 3) := by decide +kernel
theorem d_R_init_326 : decode M_R_init.2.1 326 = .ok (.aload_n 0, 1) := by decide +kernel
theorem d_R_init_327 : decode M_R_init.2.1 327 = .ok (.bipush 8, 2) := by decide +kernel
theorem d_R_init_329 : decode M_R_init.2.1 329 = .ok (.newarray .int, 2) := by decide +kernel
theorem d_R_init_331 : decode M_R_init.2.1 331 = .ok (.putfield 130, 3) := by decide +kernel
theorem d_R_init_334 : decode M_R_init.2.1 334 = .ok (.aload_n 0, 1) := by decide +kernel
theorem d_R_init_335 : decode M_R_init.2.1 335 = .ok (.sipush 606, 3) := by decide +kernel
theorem d_R_init_338 : decode M_R_init.2.1 338 = .ok (.newarray .int, 2) := by decide +kernel
theorem d_R_init_340 : decode M_R_init.2.1 340 = .ok (.putfield 133, 3) := by decide +kernel
theorem d_R_init_343 : decode M_R_init.2.1 343 = .ok (.aload_n 0, 1) := by decide +kernel
theorem d_R_init_344 : decode M_R_init.2.1 344 = .ok (.iconst 5, 1) := by decide +kernel
theorem d_R_init_345 : decode M_R_init.2.1 345 = .ok (.newarray .int, 2) := by decide +kernel
theorem d_R_init_347 : decode M_R_init.2.1 347 = .ok (.putfield 136, 3) := by decide +kernel
theorem d_R_init_350 : decode M_R_init.2.1 350 = .ok (.aload_n 0, 1) := by decide +kernel
theorem d_R_init_351 : decode M_R_init.2.1 351 = .ok (.sipush 3896, 3) := by decide +kernel
theorem d_R_init_354 : decode M_R_init.2.1 354 = .ok (.newarray .int, 2) := by decide +kernel
theorem d_R_init_356 : decode M_R_init.2.1 356 = .ok (.putfield 139, 3) := by decide +kernel
theorem d_R_init_359 : decode M_R_init.2.1 359 = .ok (.aload_n 0, 1) := by decide +kernel
theorem d_R_init_360 : decode M_R_init.2.1 360 = .ok (.iconst 4, 1) := by decide +kernel
theorem d_R_init_361 : decode M_R_init.2.1 361 = .ok (.iconst 2, 1) := by decide +kernel
theorem d_R_init_362 : decode M_R_init.2.1 362 = .ok (.iconst 4, 1) := by decide +kernel
theorem d_R_init_363 : decode M_R_init.2.1 363 = .ok (.invokevirtual 142, 3) := by decide +kernel
theorem d_R_init_366 : decode M_R_init.2.1 366 = .ok (.istore_n 1, 1) := by decide +kernel
theorem d_R_init_367 : decode M_R_init.2.1 367 = .ok (.return_, 1) := by decide +kernel
theorem d_R_begin_0 : decode M_R_begin.2.1 0 = .ok (.iload_n 1, 1) := by decide +kernel
theorem d_R_begin_1 : decode M_R_begin.2.1 1 = .ok (.iconst 1, 1) := by decide +kernel
theorem d_R_begin_2 : decode M_R_begin.2.1 2 = .ok (.bipush 12, 2) := by decide +kernel
theorem d_R_begin_4 : decode M_R_begin.2.1 4 = .ok (.invokestatic 153, 3) := by decide +kernel
theorem d_R_begin_7 : decode M_R_begin.2.1 7 = .ok (.ifCond .eq 23, 3) := by decide +kernel
theorem d_R_begin_10 : decode M_R_begin.2.1 10 = .ok (.iload_n 2, 1) := by decide +kernel
theorem d_R_begin_11 : decode M_R_begin.2.1 11 = .ok (.iconst 1, 1) := by decide +kernel
theorem d_R_begin_12 : decode M_R_begin.2.1 12 = .ok (.bipush 8, 2) := by decide +kernel
theorem d_R_begin_14 : decode M_R_begin.2.1 14 = .ok (.invokestatic 153, 3) := by decide +kernel
theorem d_R_begin_17 : decode M_R_begin.2.1 17 = .ok (.ifCond .eq 13, 3) := by decide +kernel
theorem d_R_begin_20 : decode M_R_begin.2.1 20 = .ok (.iload_n 3, 1) := by decide +kernel
theorem d_R_begin_21 : decode M_R_begin.2.1 21 = .ok (.iconst 1, 1) := by decide +kernel
theorem d_R_begin_22 : decode M_R_begin.2.1 22 = .ok (.bipush 24, 2) := by decide +kernel
theorem d_R_begin_24 : decode M_R_begin.2.1 24 = .ok (.invokestatic 153, 3) := by decide +kernel
theorem d_R_begin_27 : decode M_R_begin.2.1 27 = .ok (.ifCond .ne 5, 3) := by decide +kernel
theorem d_R_begin_30 : decode M_R_begin.2.1 30 = .ok (.iconst (-1), 1) := by decide +kernel
theorem d_R_begin_31 : decode M_R_begin.2.1 31 = .ok (.ireturn, 1) := by decide +kernel
theorem d_R_begin_32 : decode M_R_begin.2.1 32 = .ok (.iconst 0, 1) := by decide +kernel
theorem d_R_begin_33 : decode M_R_begin.2.1 33 = .ok (.istore 4, 2) := by decide +kernel
theorem d_R_begin_35 : decode M_R_begin.2.1 35 = .ok (.iload 4, 2) := by decide +kernel
theorem d_R_begin_37 : decode M_R_begin.2.1 37 = .ok (.sipush 3896, 3) := by decide +kernel
theorem d_R_begin_40 : decode M_R_begin.2.1 40 = .ok (.if_icmp .ge 17, 3) := by decide +kernel
theorem d_R_begin_43 : decode M_R_begin.2.1 43 = .ok (.aload_n 0, 1) := by decide +kernel
theorem d_R_begin_44 : decode M_R_begin.2.1 44 = .ok (.getfield 9, 3) := by decide +kernel
theorem d_R_begin_47 : decode M_R_begin.2.1 47 = .ok (.iload 4, 2) := by decide +kernel
theorem d_R_begin_49 : decode M_R_begin.2.1 49 = .ok (.iconst 0, 1) := by decide +kernel
theorem d_R_begin_50 : decode M_R_begin.2.1 50 = .ok (.iastore, 1) := by decide +kernel
theorem d_R_begin_51 : decode M_R_begin.2.1 51 = .ok (.iinc 4 1, 3) := by decide +kernel
theorem d_R_begin_54 : decode M_R_begin.2.1 54 = .ok (.goto (-19), 3) := by decide +kernel
theorem d_R_begin_57 : decode M_R_begin.2.1 57 = .ok (.aload_n 0, 1) := by decide +kernel
theorem d_R_begin_58 : decode M_R_begin.2.1 58 = .ok (.getfield 9, 3) := by decide +kernel
theorem d_R_begin_61 : decode M_R_begin.2.1 61 = .ok (.iconst 0, 1) := by decide +kernel
theorem d_R_begin_62 : decode M_R_begin.2.1 62 = .ok (.iload_n 1, 1) := by decide +kernel
theorem d_R_begin_63 : decode M_R_begin.2.1 63 = .ok (.iastore, 1) := by decide +kernel
theorem d_R_begin_64 : decode M_R_begin.2.1 64 = .ok (.aload_n 0, 1) := by decide +kernel
theorem d_R_begin_65 : decode M_R_begin.2.1 65 = .ok (.getfield 9, 3) := by decide +kernel
theorem d_R_begin_68 : decode M_R_begin.2.1 68 = .ok (.iconst 1, 1) := by decide +kernel
theorem d_R_begin_69 : decode M_R_begin.2.1 69 = .ok (.iload_n 2, 1) := by decide +kernel
theorem d_R_begin_70 : decode M_R_begin.2.1 70 = .ok (.iastore, 1) := by decide +kernel
theorem d_R_begin_71 : decode M_R_begin.2.1 71 = .ok (.aload_n 0, 1) := by decide +kernel
theorem d_R_begin_72 : decode M_R_begin.2.1 72 = .ok (.getfield 9, 3) := by decide +kernel
theorem d_R_begin_75 : decode M_R_begin.2.1 75 = .ok (.iconst 2, 1) := by decide +kernel
theorem d_R_begin_76 : decode M_R_begin.2.1 76 = .ok (.iload_n 3, 1) := by decide +kernel
theorem d_R_begin_77 : decode M_R_begin.2.1 77 = .ok (.iastore, 1) := by decide +kernel
theorem d_R_begin_78 : decode M_R_begin.2.1 78 = .ok (.iconst 0, 1) := by decide +kernel
theorem d_R_begin_79 : decode M_R_begin.2.1 79 = .ok (.istore 4, 2) := by decide +kernel
theorem d_R_begin_81 : decode M_R_begin.2.1 81 = .ok (.iload 4, 2) := by decide +kernel
theorem d_R_begin_83 : decode M_R_begin.2.1 83 = .ok (.bipush 12, 2) := by decide +kernel
theorem d_R_begin_85 : decode M_R_begin.2.1 85 = .ok (.if_icmp .ge 23, 3) := by decide +kernel
theorem d_R_begin_88 : decode M_R_begin.2.1 88 = .ok (.aload_n 0, 1) := by decide +kernel
theorem d_R_begin_89 : decode M_R_begin.2.1 89 = .ok (.getfield 9, 3) := by decide +kernel
theorem d_R_begin_92 : decode M_R_begin.2.1 92 = .ok (.bipush 16, 2) := by decide +kernel
theorem d_R_begin_94 : decode M_R_begin.2.1 94 = .ok (.bipush 65, 2) := by decide +kernel
theorem d_R_begin_96 : decode M_R_begin.2.1 96 = .ok (.iload 4, 2) := by decide +kernel
theorem d_R_begin_98 : decode M_R_begin.2.1 98 = .ok (.imul, 1) := by decide +kernel
theorem d_R_begin_99 : decode M_R_begin.2.1 99 = .ok (.iadd, 1) := by decide +kernel
theorem d_R_begin_100 : decode M_R_begin.2.1 100 = .ok (.iconst (-1), 1) := by decide +kernel
theorem d_R_begin_101 : decode M_R_begin.2.1 101 = .ok (.iastore, 1) := by decide +kernel
theorem d_R_begin_102 : decode M_R_begin.2.1 102 = .ok (.iinc 4 1, 3) := by decide +kernel
theorem d_R_begin_105 : decode M_R_begin.2.1 105 = .ok (.goto (-24), 3) := by decide +kernel
theorem d_R_begin_108 : decode M_R_begin.2.1 108 = .ok (.iconst 0, 1) := by decide +kernel
theorem d_R_begin_109 : decode M_R_begin.2.1 109 = .ok (.istore 4, 2) := by decide +kernel
theorem d_R_begin_111 : decode M_R_begin.2.1 111 = .ok (.iload 4, 2) := by decide +kernel
theorem d_R_begin_113 : decode M_R_begin.2.1 113 = .ok (.bipush 81, 2) := by decide +kernel
theorem d_R_begin_115 : decode M_R_begin.2.1 115 = .ok (.if_icmp .ge 17, 3) := by decide +kernel
theorem d_R_begin_118 : decode M_R_begin.2.1 118 = .ok (.aload_n 0, 1) := by decide +kernel
theorem d_R_begin_119 : decode M_R_begin.2.1 119 = .ok (.getfield 26, 3) := by decide +kernel
theorem d_R_begin_122 : decode M_R_begin.2.1 122 = .ok (.iload 4, 2) := by decide +kernel
theorem d_R_begin_124 : decode M_R_begin.2.1 124 = .ok (.iconst 0, 1) := by decide +kernel
theorem d_R_begin_125 : decode M_R_begin.2.1 125 = .ok (.iastore, 1) := by decide +kernel
theorem d_R_begin_126 : decode M_R_begin.2.1 126 = .ok (.iinc 4 1, 3) := by decide +kernel
theorem d_R_begin_129 : decode M_R_begin.2.1 129 = .ok (.goto (-18), 3) := by decide +kernel
theorem d_R_begin_132 : decode M_R_begin.2.1 132 = .ok (.iconst 0, 1) := by decide +kernel
theorem d_R_begin_133 : decode M_R_begin.2.1 133 = .ok (.istore 4, 2) := by decide +kernel
theorem d_R_begin_135 : decode M_R_begin.2.1 135 = .ok (.iload 4, 2) := by decide +kernel
theorem d_R_begin_137 : decode M_R_begin.2.1 137 = .ok (.iconst 3, 1) := by decide +kernel
theorem d_R_begin_138 : decode M_R_begin.2.1 138 = .ok (.if_icmp .ge 26, 3) := by decide +kernel
theorem d_R_begin_141 : decode M_R_begin.2.1 141 = .ok (.aload_n 0, 1) := by decide +kernel
theorem d_R_begin_142 : decode M_R_begin.2.1 142 = .ok (.getfield 44, 3) := by decide +kernel
theorem d_R_begin_145 : decode M_R_begin.2.1 145 = .ok (.iload 4, 2) := by decide +kernel
theorem d_R_begin_147 : decode M_R_begin.2.1 147 = .ok (.iconst 1, 1) := by decide +kernel
theorem d_R_begin_148 : decode M_R_begin.2.1 148 = .ok (.iastore, 1) := by decide +kernel
theorem d_R_begin_149 : decode M_R_begin.2.1 149 = .ok (.aload_n 0, 1) := by decide +kernel
theorem d_R_begin_150 : decode M_R_begin.2.1 150 = .ok (.getfield 47, 3) := by decide +kernel
theorem d_R_begin_153 : decode M_R_begin.2.1 153 = .ok (.iload 4, 2) := by decide +kernel
theorem d_R_begin_155 : decode M_R_begin.2.1 155 = .ok (.bipush 6, 2) := by decide +kernel
theorem d_R_begin_157 : decode M_R_begin.2.1 157 = .ok (.iastore, 1) := by decide +kernel
theorem d_R_begin_158 : decode M_R_begin.2.1 158 = .ok (.iinc 4 1, 3) := by decide +kernel
theorem d_R_begin_161 : decode M_R_begin.2.1 161 = .ok (.goto (-26), 3) := by decide +kernel
theorem d_R_begin_164 : decode M_R_begin.2.1 164 = .ok (.aload_n 0, 1) := by decide +kernel
theorem d_R_begin_165 : decode M_R_begin.2.1 165 = .ok (.bipush 12, 2) := by decide +kernel
theorem d_R_begin_167 : decode M_R_begin.2.1 167 = .ok (.putfield 157, 3) := by decide +kernel
theorem d_R_begin_170 : decode M_R_begin.2.1 170 = .ok (.aload_n 0, 1) := by decide +kernel
theorem d_R_begin_171 : decode M_R_begin.2.1 171 = .ok (.iconst 0, 1) := by decide +kernel
theorem d_R_begin_172 : decode M_R_begin.2.1 172 = .ok (.putfield 150, 3) := by decide +kernel
theorem d_R_begin_175 : decode M_R_begin.2.1 175 = .ok (.aload_n 0, 1) := by decide +kernel
theorem d_R_begin_176 : decode M_R_begin.2.1 176 = .ok (.invokevirtual 160, 3) := by decide +kernel
theorem d_R_begin_179 : decode M_R_begin.2.1 179 = .ok (.iconst 0, 1) := by decide +kernel
theorem d_R_begin_180 : decode M_R_begin.2.1 180 = .ok (.ireturn, 1) := by decide +kernel
theorem d_R_isIn_0 : decode M_R_isIn.2.1 0 = .ok (.iload_n 0, 1) := by decide +kernel
theorem d_R_isIn_1 : decode M_R_isIn.2.1 1 = .ok (.iload_n 1, 1) := by decide +kernel
theorem d_R_isIn_2 : decode M_R_isIn.2.1 2 = .ok (.if_icmp .lt 12, 3) := by decide +kernel
theorem d_R_isIn_5 : decode M_R_isIn.2.1 5 = .ok (.iload_n 0, 1) := by decide +kernel
theorem d_R_isIn_6 : decode M_R_isIn.2.1 6 = .ok (.iload_n 2, 1) := by decide +kernel
theorem d_R_isIn_7 : decode M_R_isIn.2.1 7 = .ok (.if_icmp .gt 7, 3) := by decide +kernel
theorem d_R_isIn_10 : decode M_R_isIn.2.1 10 = .ok (.iconst 1, 1) := by decide +kernel
theorem d_R_isIn_11 : decode M_R_isIn.2.1 11 = .ok (.goto 4, 3) := by decide +kernel
theorem d_R_isIn_14 : decode M_R_isIn.2.1 14 = .ok (.iconst 0, 1) := by decide +kernel
theorem d_R_isIn_15 : decode M_R_isIn.2.1 15 = .ok (.ireturn, 1) := by decide +kernel
theorem d_R_forgets_0 : decode M_R_forgets.2.1 0 = .ok (.aload_n 0, 1) := by decide +kernel
theorem d_R_forgets_1 : decode M_R_forgets.2.1 1 = .ok (.iconst 0, 1) := by decide +kernel
theorem d_R_forgets_2 : decode M_R_forgets.2.1 2 = .ok (.putfield 163, 3) := by decide +kernel
theorem d_R_forgets_5 : decode M_R_forgets.2.1 5 = .ok (.iconst 0, 1) := by decide +kernel
theorem d_R_forgets_6 : decode M_R_forgets.2.1 6 = .ok (.istore_n 1, 1) := by decide +kernel
theorem d_R_forgets_7 : decode M_R_forgets.2.1 7 = .ok (.iload_n 1, 1) := by decide +kernel
theorem d_R_forgets_8 : decode M_R_forgets.2.1 8 = .ok (.iconst 3, 1) := by decide +kernel
theorem d_R_forgets_9 : decode M_R_forgets.2.1 9 = .ok (.if_icmp .ge 16, 3) := by decide +kernel
theorem d_R_forgets_12 : decode M_R_forgets.2.1 12 = .ok (.aload_n 0, 1) := by decide +kernel
theorem d_R_forgets_13 : decode M_R_forgets.2.1 13 = .ok (.getfield 29, 3) := by decide +kernel
theorem d_R_forgets_16 : decode M_R_forgets.2.1 16 = .ok (.iload_n 1, 1) := by decide +kernel
theorem d_R_forgets_17 : decode M_R_forgets.2.1 17 = .ok (.iconst 0, 1) := by decide +kernel
theorem d_R_forgets_18 : decode M_R_forgets.2.1 18 = .ok (.iastore, 1) := by decide +kernel
theorem d_R_forgets_19 : decode M_R_forgets.2.1 19 = .ok (.iinc 1 1, 3) := by decide +kernel
theorem d_R_forgets_22 : decode M_R_forgets.2.1 22 = .ok (.goto (-15), 3) := by decide +kernel
theorem d_R_forgets_25 : decode M_R_forgets.2.1 25 = .ok (.iconst 0, 1) := by decide +kernel
theorem d_R_forgets_26 : decode M_R_forgets.2.1 26 = .ok (.istore_n 1, 1) := by decide +kernel
theorem d_R_forgets_27 : decode M_R_forgets.2.1 27 = .ok (.iload_n 1, 1) := by decide +kernel
theorem d_R_forgets_28 : decode M_R_forgets.2.1 28 = .ok (.bipush 26, 2) := by decide +kernel
theorem d_R_forgets_30 : decode M_R_forgets.2.1 30 = .ok (.if_icmp .gt 16, 3) := by decide +kernel
theorem d_R_forgets_33 : decode M_R_forgets.2.1 33 = .ok (.aload_n 0, 1) := by decide +kernel
theorem d_R_forgets_34 : decode M_R_forgets.2.1 34 = .ok (.getfield 50, 3) := by decide +kernel
theorem d_R_forgets_37 : decode M_R_forgets.2.1 37 = .ok (.iload_n 1, 1) := by decide +kernel
theorem d_R_forgets_38 : decode M_R_forgets.2.1 38 = .ok (.iconst 0, 1) := by decide +kernel
theorem d_R_forgets_39 : decode M_R_forgets.2.1 39 = .ok (.iastore, 1) := by decide +kernel
theorem d_R_forgets_40 : decode M_R_forgets.2.1 40 = .ok (.iinc 1 1, 3) := by decide +kernel
theorem d_R_forgets_43 : decode M_R_forgets.2.1 43 = .ok (.goto (-16), 3) := by decide +kernel
theorem d_R_forgets_46 : decode M_R_forgets.2.1 46 = .ok (.iconst 0, 1) := by decide +kernel
theorem d_R_forgets_47 : decode M_R_forgets.2.1 47 = .ok (.istore_n 1, 1) := by decide +kernel
theorem d_R_forgets_48 : decode M_R_forgets.2.1 48 = .ok (.iload_n 1, 1) := by decide +kernel
theorem d_R_forgets_49 : decode M_R_forgets.2.1 49 = .ok (.bipush 6, 2) := by decide +kernel
theorem d_R_forgets_51 : decode M_R_forgets.2.1 51 = .ok (.if_icmp .ge 16, 3) := by decide +kernel
theorem d_R_forgets_54 : decode M_R_forgets.2.1 54 = .ok (.aload_n 0, 1) := by decide +kernel
theorem d_R_forgets_55 : decode M_R_forgets.2.1 55 = .ok (.getfield 53, 3) := by decide +kernel
theorem d_R_forgets_58 : decode M_R_forgets.2.1 58 = .ok (.iload_n 1, 1) := by decide +kernel
theorem d_R_forgets_59 : decode M_R_forgets.2.1 59 = .ok (.iconst 0, 1) := by decide +kernel
theorem d_R_forgets_60 : decode M_R_forgets.2.1 60 = .ok (.iastore, 1) := by decide +kernel
theorem d_R_forgets_61 : decode M_R_forgets.2.1 61 = .ok (.iinc 1 1, 3) := by decide +kernel
theorem d_R_forgets_64 : decode M_R_forgets.2.1 64 = .ok (.goto (-16), 3) := by decide +kernel
theorem d_R_forgets_67 : decode M_R_forgets.2.1 67 = .ok (.aload_n 0, 1) := by decide +kernel
theorem d_R_forgets_68 : decode M_R_forgets.2.1 68 = .ok (.iconst 0, 1) := by decide +kernel
theorem d_R_forgets_69 : decode M_R_forgets.2.1 69 = .ok (.putfield 167, 3) := by decide +kernel
theorem d_R_forgets_72 : decode M_R_forgets.2.1 72 = .ok (.aload_n 0, 1) := by decide +kernel
theorem d_R_forgets_73 : decode M_R_forgets.2.1 73 = .ok (.iconst 0, 1) := by decide +kernel
theorem d_R_forgets_74 : decode M_R_forgets.2.1 74 = .ok (.putfield 170, 3) := by decide +kernel
theorem d_R_forgets_77 : decode M_R_forgets.2.1 77 = .ok (.aload_n 0, 1) := by decide +kernel
theorem d_R_forgets_78 : decode M_R_forgets.2.1 78 = .ok (.iconst 0, 1) := by decide +kernel
theorem d_R_forgets_79 : decode M_R_forgets.2.1 79 = .ok (.putfield 173, 3) := by decide +kernel
theorem d_R_forgets_82 : decode M_R_forgets.2.1 82 = .ok (.return_, 1) := by decide +kernel
theorem d_R_thrown_0 : decode M_R_thrown.2.1 0 = .ok (.aload_n 0, 1) := by decide +kernel
theorem d_R_thrown_1 : decode M_R_thrown.2.1 1 = .ok (.getfield 146, 3) := by decide +kernel
theorem d_R_thrown_4 : decode M_R_thrown.2.1 4 = .ok (.ireturn, 1) := by decide +kernel
theorem d_R_bible_0 : decode M_R_bible.2.1 0 = .ok (.aload_n 0, 1) := by decide +kernel
theorem d_R_bible_1 : decode M_R_bible.2.1 1 = .ok (.iload_n 1, 1) := by decide +kernel
theorem d_R_bible_2 : decode M_R_bible.2.1 2 = .ok (.invokevirtual 184, 3) := by decide +kernel
theorem d_R_bible_5 : decode M_R_bible.2.1 5 = .ok (.ifCond .eq 11, 3) := by decide +kernel
theorem d_R_bible_8 : decode M_R_bible.2.1 8 = .ok (.aload_n 0, 1) := by decide +kernel
theorem d_R_bible_9 : decode M_R_bible.2.1 9 = .ok (.iload_n 2, 1) := by decide +kernel
theorem d_R_bible_10 : decode M_R_bible.2.1 10 = .ok (.invokevirtual 187, 3) := by decide +kernel
theorem d_R_bible_13 : decode M_R_bible.2.1 13 = .ok (.ifCond .ne 5, 3) := by decide +kernel
theorem d_R_bible_16 : decode M_R_bible.2.1 16 = .ok (.iconst (-1), 1) := by decide +kernel
theorem d_R_bible_17 : decode M_R_bible.2.1 17 = .ok (.ireturn, 1) := by decide +kernel
theorem d_R_bible_18 : decode M_R_bible.2.1 18 = .ok (.aload_n 0, 1) := by decide +kernel
theorem d_R_bible_19 : decode M_R_bible.2.1 19 = .ok (.iconst 0, 1) := by decide +kernel
theorem d_R_bible_20 : decode M_R_bible.2.1 20 = .ok (.putfield 163, 3) := by decide +kernel
theorem d_R_bible_23 : decode M_R_bible.2.1 23 = .ok (.aload_n 0, 1) := by decide +kernel
theorem d_R_bible_24 : decode M_R_bible.2.1 24 = .ok (.getfield 9, 3) := by decide +kernel
theorem d_R_bible_27 : decode M_R_bible.2.1 27 = .ok (.iconst 4, 1) := by decide +kernel
theorem d_R_bible_28 : decode M_R_bible.2.1 28 = .ok (.iload_n 1, 1) := by decide +kernel
theorem d_R_bible_29 : decode M_R_bible.2.1 29 = .ok (.iadd, 1) := by decide +kernel
theorem d_R_bible_30 : decode M_R_bible.2.1 30 = .ok (.dup2, 1) := by decide +kernel
theorem d_R_bible_31 : decode M_R_bible.2.1 31 = .ok (.iaload, 1) := by decide +kernel
theorem d_R_bible_32 : decode M_R_bible.2.1 32 = .ok (.iconst 1, 1) := by decide +kernel
theorem d_R_bible_33 : decode M_R_bible.2.1 33 = .ok (.iload_n 2, 1) := by decide +kernel
theorem d_R_bible_34 : decode M_R_bible.2.1 34 = .ok (.ishl, 1) := by decide +kernel
theorem d_R_bible_35 : decode M_R_bible.2.1 35 = .ok (.ixor, 1) := by decide +kernel
theorem d_R_bible_36 : decode M_R_bible.2.1 36 = .ok (.iastore, 1) := by decide +kernel
theorem d_R_bible_37 : decode M_R_bible.2.1 37 = .ok (.aload_n 0, 1) := by decide +kernel
theorem d_R_bible_38 : decode M_R_bible.2.1 38 = .ok (.getfield 9, 3) := by decide +kernel
theorem d_R_bible_41 : decode M_R_bible.2.1 41 = .ok (.iconst 4, 1) := by decide +kernel
theorem d_R_bible_42 : decode M_R_bible.2.1 42 = .ok (.iload_n 1, 1) := by decide +kernel
theorem d_R_bible_43 : decode M_R_bible.2.1 43 = .ok (.iadd, 1) := by decide +kernel
theorem d_R_bible_44 : decode M_R_bible.2.1 44 = .ok (.iaload, 1) := by decide +kernel
theorem d_R_bible_45 : decode M_R_bible.2.1 45 = .ok (.iload_n 2, 1) := by decide +kernel
theorem d_R_bible_46 : decode M_R_bible.2.1 46 = .ok (.ishr, 1) := by decide +kernel
theorem d_R_bible_47 : decode M_R_bible.2.1 47 = .ok (.iconst 1, 1) := by decide +kernel
theorem d_R_bible_48 : decode M_R_bible.2.1 48 = .ok (.iand, 1) := by decide +kernel
theorem d_R_bible_49 : decode M_R_bible.2.1 49 = .ok (.ireturn, 1) := by decide +kernel
theorem d_R_isPerson_0 : decode M_R_isPerson.2.1 0 = .ok (.iload_n 1, 1) := by decide +kernel
theorem d_R_isPerson_1 : decode M_R_isPerson.2.1 1 = .ok (.iconst 0, 1) := by decide +kernel
theorem d_R_isPerson_2 : decode M_R_isPerson.2.1 2 = .ok (.aload_n 0, 1) := by decide +kernel
theorem d_R_isPerson_3 : decode M_R_isPerson.2.1 3 = .ok (.getfield 9, 3) := by decide +kernel
theorem d_R_isPerson_6 : decode M_R_isPerson.2.1 6 = .ok (.iconst 0, 1) := by decide +kernel
theorem d_R_isPerson_7 : decode M_R_isPerson.2.1 7 = .ok (.iaload, 1) := by decide +kernel
theorem d_R_isPerson_8 : decode M_R_isPerson.2.1 8 = .ok (.iconst 1, 1) := by decide +kernel
theorem d_R_isPerson_9 : decode M_R_isPerson.2.1 9 = .ok (.isub, 1) := by decide +kernel
theorem d_R_isPerson_10 : decode M_R_isPerson.2.1 10 = .ok (.invokestatic 153, 3) := by decide +kernel
theorem d_R_isPerson_13 : decode M_R_isPerson.2.1 13 = .ok (.ireturn, 1) := by decide +kernel
theorem d_R_isSecret_0 : decode M_R_isSecret.2.1 0 = .ok (.iload_n 1, 1) := by decide +kernel
theorem d_R_isSecret_1 : decode M_R_isSecret.2.1 1 = .ok (.iconst 0, 1) := by decide +kernel
theorem d_R_isSecret_2 : decode M_R_isSecret.2.1 2 = .ok (.aload_n 0, 1) := by decide +kernel
theorem d_R_isSecret_3 : decode M_R_isSecret.2.1 3 = .ok (.getfield 9, 3) := by decide +kernel
theorem d_R_isSecret_6 : decode M_R_isSecret.2.1 6 = .ok (.iconst 2, 1) := by decide +kernel
theorem d_R_isSecret_7 : decode M_R_isSecret.2.1 7 = .ok (.iaload, 1) := by decide +kernel
theorem d_R_isSecret_8 : decode M_R_isSecret.2.1 8 = .ok (.iconst 1, 1) := by decide +kernel
theorem d_R_isSecret_9 : decode M_R_isSecret.2.1 9 = .ok (.isub, 1) := by decide +kernel
theorem d_R_isSecret_10 : decode M_R_isSecret.2.1 10 = .ok (.invokestatic 153, 3) := by decide +kernel
theorem d_R_isSecret_13 : decode M_R_isSecret.2.1 13 = .ok (.ireturn, 1) := by decide +kernel
theorem d_R_scene_0 : decode M_R_scene.2.1 0 = .ok (.iload_n 1, 1) := by decide +kernel
theorem d_R_scene_1 : decode M_R_scene.2.1 1 = .ok (.iconst 1, 1) := by decide +kernel
theorem d_R_scene_2 : decode M_R_scene.2.1 2 = .ok (.bipush 26, 2) := by decide +kernel
theorem d_R_scene_4 : decode M_R_scene.2.1 4 = .ok (.invokestatic 153, 3) := by decide +kernel
theorem d_R_scene_7 : decode M_R_scene.2.1 7 = .ok (.ifCond .eq 48, 3) := by decide +kernel
theorem d_R_scene_10 : decode M_R_scene.2.1 10 = .ok (.iload_n 2, 1) := by decide +kernel
theorem d_R_scene_11 : decode M_R_scene.2.1 11 = .ok (.iconst 0, 1) := by decide +kernel
theorem d_R_scene_12 : decode M_R_scene.2.1 12 = .ok (.aload_n 0, 1) := by decide +kernel
theorem d_R_scene_13 : decode M_R_scene.2.1 13 = .ok (.getfield 9, 3) := by decide +kernel
theorem d_R_scene_16 : decode M_R_scene.2.1 16 = .ok (.iconst 1, 1) := by decide +kernel
theorem d_R_scene_17 : decode M_R_scene.2.1 17 = .ok (.iaload, 1) := by decide +kernel
theorem d_R_scene_18 : decode M_R_scene.2.1 18 = .ok (.iconst 1, 1) := by decide +kernel
theorem d_R_scene_19 : decode M_R_scene.2.1 19 = .ok (.isub, 1) := by decide +kernel
theorem d_R_scene_20 : decode M_R_scene.2.1 20 = .ok (.invokestatic 153, 3) := by decide +kernel
theorem d_R_scene_23 : decode M_R_scene.2.1 23 = .ok (.ifCond .eq 32, 3) := by decide +kernel
theorem d_R_scene_26 : decode M_R_scene.2.1 26 = .ok (.iload_n 3, 1) := by decide +kernel
theorem d_R_scene_27 : decode M_R_scene.2.1 27 = .ok (.iconst 1, 1) := by decide +kernel
theorem d_R_scene_28 : decode M_R_scene.2.1 28 = .ok (.bipush 15, 2) := by decide +kernel
theorem d_R_scene_30 : decode M_R_scene.2.1 30 = .ok (.invokestatic 153, 3) := by decide +kernel
theorem d_R_scene_33 : decode M_R_scene.2.1 33 = .ok (.ifCond .eq 22, 3) := by decide +kernel
theorem d_R_scene_36 : decode M_R_scene.2.1 36 = .ok (.aload_n 0, 1) := by decide +kernel
theorem d_R_scene_37 : decode M_R_scene.2.1 37 = .ok (.iload 4, 2) := by decide +kernel
theorem d_R_scene_39 : decode M_R_scene.2.1 39 = .ok (.invokevirtual 190, 3) := by decide +kernel
theorem d_R_scene_42 : decode M_R_scene.2.1 42 = .ok (.ifCond .eq 13, 3) := by decide +kernel
theorem d_R_scene_45 : decode M_R_scene.2.1 45 = .ok (.iload 5, 2) := by decide +kernel
theorem d_R_scene_47 : decode M_R_scene.2.1 47 = .ok (.iconst 0, 1) := by decide +kernel
theorem d_R_scene_48 : decode M_R_scene.2.1 48 = .ok (.iconst 1, 1) := by decide +kernel
theorem d_R_scene_49 : decode M_R_scene.2.1 49 = .ok (.invokestatic 153, 3) := by decide +kernel
theorem d_R_scene_52 : decode M_R_scene.2.1 52 = .ok (.ifCond .ne 5, 3) := by decide +kernel
theorem d_R_scene_55 : decode M_R_scene.2.1 55 = .ok (.iconst (-1), 1) := by decide +kernel
theorem d_R_scene_56 : decode M_R_scene.2.1 56 = .ok (.ireturn, 1) := by decide +kernel
theorem d_R_scene_57 : decode M_R_scene.2.1 57 = .ok (.aload_n 0, 1) := by decide +kernel
theorem d_R_scene_58 : decode M_R_scene.2.1 58 = .ok (.getfield 9, 3) := by decide +kernel
theorem d_R_scene_61 : decode M_R_scene.2.1 61 = .ok (.iconst 3, 1) := by decide +kernel
theorem d_R_scene_62 : decode M_R_scene.2.1 62 = .ok (.iaload, 1) := by decide +kernel
theorem d_R_scene_63 : decode M_R_scene.2.1 63 = .ok (.istore 6, 2) := by decide +kernel
theorem d_R_scene_65 : decode M_R_scene.2.1 65 = .ok (.iload 6, 2) := by decide +kernel
theorem d_R_scene_67 : decode M_R_scene.2.1 67 = .ok (.bipush 100, 2) := by decide +kernel
theorem d_R_scene_69 : decode M_R_scene.2.1 69 = .ok (.if_icmp .ne 6, 3) := by decide +kernel
theorem d_R_scene_72 : decode M_R_scene.2.1 72 = .ok (.bipush (-2), 2) := by decide +kernel
theorem d_R_scene_74 : decode M_R_scene.2.1 74 = .ok (.ireturn, 1) := by decide +kernel
theorem d_R_scene_75 : decode M_R_scene.2.1 75 = .ok (.aload_n 0, 1) := by decide +kernel
theorem d_R_scene_76 : decode M_R_scene.2.1 76 = .ok (.iconst 0, 1) := by decide +kernel
theorem d_R_scene_77 : decode M_R_scene.2.1 77 = .ok (.putfield 163, 3) := by decide +kernel
theorem d_R_scene_80 : decode M_R_scene.2.1 80 = .ok (.aload_n 0, 1) := by decide +kernel
theorem d_R_scene_81 : decode M_R_scene.2.1 81 = .ok (.getfield 9, 3) := by decide +kernel
theorem d_R_scene_84 : decode M_R_scene.2.1 84 = .ok (.iconst 3, 1) := by decide +kernel
theorem d_R_scene_85 : decode M_R_scene.2.1 85 = .ok (.dup2, 1) := by decide +kernel
theorem d_R_scene_86 : decode M_R_scene.2.1 86 = .ok (.iaload, 1) := by decide +kernel
theorem d_R_scene_87 : decode M_R_scene.2.1 87 = .ok (.iconst 1, 1) := by decide +kernel
theorem d_R_scene_88 : decode M_R_scene.2.1 88 = .ok (.iadd, 1) := by decide +kernel
theorem d_R_scene_89 : decode M_R_scene.2.1 89 = .ok (.iastore, 1) := by decide +kernel
theorem d_R_scene_90 : decode M_R_scene.2.1 90 = .ok (.iconst 0, 1) := by decide +kernel
theorem d_R_scene_91 : decode M_R_scene.2.1 91 = .ok (.istore 7, 2) := by decide +kernel
theorem d_R_scene_93 : decode M_R_scene.2.1 93 = .ok (.iload 7, 2) := by decide +kernel
theorem d_R_scene_95 : decode M_R_scene.2.1 95 = .ok (.bipush 31, 2) := by decide +kernel
theorem d_R_scene_97 : decode M_R_scene.2.1 97 = .ok (.if_icmp .ge 22, 3) := by decide +kernel
theorem d_R_scene_100 : decode M_R_scene.2.1 100 = .ok (.aload_n 0, 1) := by decide +kernel
theorem d_R_scene_101 : decode M_R_scene.2.1 101 = .ok (.getfield 9, 3) := by decide +kernel
theorem d_R_scene_104 : decode M_R_scene.2.1 104 = .ok (.iload 6, 2) := by decide +kernel
theorem d_R_scene_106 : decode M_R_scene.2.1 106 = .ok (.iload 7, 2) := by decide +kernel
theorem d_R_scene_108 : decode M_R_scene.2.1 108 = .ok (.invokestatic 180, 3) := by decide +kernel
theorem d_R_scene_111 : decode M_R_scene.2.1 111 = .ok (.iconst 0, 1) := by decide +kernel
theorem d_R_scene_112 : decode M_R_scene.2.1 112 = .ok (.iastore, 1) := by decide +kernel
theorem d_R_scene_113 : decode M_R_scene.2.1 113 = .ok (.iinc 7 1, 3) := by decide +kernel
theorem d_R_scene_116 : decode M_R_scene.2.1 116 = .ok (.goto (-23), 3) := by decide +kernel
theorem d_R_scene_119 : decode M_R_scene.2.1 119 = .ok (.aload_n 0, 1) := by decide +kernel
theorem d_R_scene_120 : decode M_R_scene.2.1 120 = .ok (.getfield 9, 3) := by decide +kernel
theorem d_R_scene_123 : decode M_R_scene.2.1 123 = .ok (.iload 6, 2) := by decide +kernel
theorem d_R_scene_125 : decode M_R_scene.2.1 125 = .ok (.iconst 0, 1) := by decide +kernel
theorem d_R_scene_126 : decode M_R_scene.2.1 126 = .ok (.invokestatic 180, 3) := by decide +kernel
theorem d_R_scene_129 : decode M_R_scene.2.1 129 = .ok (.iload_n 1, 1) := by decide +kernel
theorem d_R_scene_130 : decode M_R_scene.2.1 130 = .ok (.iastore, 1) := by decide +kernel
theorem d_R_scene_131 : decode M_R_scene.2.1 131 = .ok (.aload_n 0, 1) := by decide +kernel
theorem d_R_scene_132 : decode M_R_scene.2.1 132 = .ok (.getfield 9, 3) := by decide +kernel
theorem d_R_scene_135 : decode M_R_scene.2.1 135 = .ok (.iload 6, 2) := by decide +kernel
theorem d_R_scene_137 : decode M_R_scene.2.1 137 = .ok (.iconst 1, 1) := by decide +kernel
theorem d_R_scene_138 : decode M_R_scene.2.1 138 = .ok (.invokestatic 180, 3) := by decide +kernel
theorem d_R_scene_141 : decode M_R_scene.2.1 141 = .ok (.iload_n 2, 1) := by decide +kernel
theorem d_R_scene_142 : decode M_R_scene.2.1 142 = .ok (.iastore, 1) := by decide +kernel
theorem d_R_scene_143 : decode M_R_scene.2.1 143 = .ok (.aload_n 0, 1) := by decide +kernel
theorem d_R_scene_144 : decode M_R_scene.2.1 144 = .ok (.getfield 9, 3) := by decide +kernel
theorem d_R_scene_147 : decode M_R_scene.2.1 147 = .ok (.iload 6, 2) := by decide +kernel
theorem d_R_scene_149 : decode M_R_scene.2.1 149 = .ok (.iconst 2, 1) := by decide +kernel
theorem d_R_scene_150 : decode M_R_scene.2.1 150 = .ok (.invokestatic 180, 3) := by decide +kernel
theorem d_R_scene_153 : decode M_R_scene.2.1 153 = .ok (.iload_n 3, 1) := by decide +kernel
theorem d_R_scene_154 : decode M_R_scene.2.1 154 = .ok (.iastore, 1) := by decide +kernel
theorem d_R_scene_155 : decode M_R_scene.2.1 155 = .ok (.aload_n 0, 1) := by decide +kernel
theorem d_R_scene_156 : decode M_R_scene.2.1 156 = .ok (.getfield 9, 3) := by decide +kernel
theorem d_R_scene_159 : decode M_R_scene.2.1 159 = .ok (.iload 6, 2) := by decide +kernel
theorem d_R_scene_161 : decode M_R_scene.2.1 161 = .ok (.iconst 3, 1) := by decide +kernel
theorem d_R_scene_162 : decode M_R_scene.2.1 162 = .ok (.invokestatic 180, 3) := by decide +kernel
theorem d_R_scene_165 : decode M_R_scene.2.1 165 = .ok (.iload 4, 2) := by decide +kernel
theorem d_R_scene_167 : decode M_R_scene.2.1 167 = .ok (.iastore, 1) := by decide +kernel
theorem d_R_scene_168 : decode M_R_scene.2.1 168 = .ok (.aload_n 0, 1) := by decide +kernel
theorem d_R_scene_169 : decode M_R_scene.2.1 169 = .ok (.getfield 9, 3) := by decide +kernel
theorem d_R_scene_172 : decode M_R_scene.2.1 172 = .ok (.iload 6, 2) := by decide +kernel
theorem d_R_scene_174 : decode M_R_scene.2.1 174 = .ok (.iconst 4, 1) := by decide +kernel
theorem d_R_scene_175 : decode M_R_scene.2.1 175 = .ok (.invokestatic 180, 3) := by decide +kernel
theorem d_R_scene_178 : decode M_R_scene.2.1 178 = .ok (.iload 5, 2) := by decide +kernel
theorem d_R_scene_180 : decode M_R_scene.2.1 180 = .ok (.iastore, 1) := by decide +kernel
theorem d_R_scene_181 : decode M_R_scene.2.1 181 = .ok (.iload 6, 2) := by decide +kernel
theorem d_R_scene_183 : decode M_R_scene.2.1 183 = .ok (.ireturn, 1) := by decide +kernel
theorem d_R_arePeople_0 : decode M_R_arePeople.2.1 0 = .ok (.iload_n 1, 1) := by decide +kernel
theorem d_R_arePeople_1 : decode M_R_arePeople.2.1 1 = .ok (.iconst 0, 1) := by decide +kernel
theorem d_R_arePeople_2 : decode M_R_arePeople.2.1 2 = .ok (.iconst 1, 1) := by decide +kernel
theorem d_R_arePeople_3 : decode M_R_arePeople.2.1 3 = .ok (.aload_n 0, 1) := by decide +kernel
theorem d_R_arePeople_4 : decode M_R_arePeople.2.1 4 = .ok (.getfield 9, 3) := by decide +kernel
theorem d_R_arePeople_7 : decode M_R_arePeople.2.1 7 = .ok (.iconst 0, 1) := by decide +kernel
theorem d_R_arePeople_8 : decode M_R_arePeople.2.1 8 = .ok (.iaload, 1) := by decide +kernel
theorem d_R_arePeople_9 : decode M_R_arePeople.2.1 9 = .ok (.ishl, 1) := by decide +kernel
theorem d_R_arePeople_10 : decode M_R_arePeople.2.1 10 = .ok (.iconst 1, 1) := by decide +kernel
theorem d_R_arePeople_11 : decode M_R_arePeople.2.1 11 = .ok (.isub, 1) := by decide +kernel
theorem d_R_arePeople_12 : decode M_R_arePeople.2.1 12 = .ok (.invokestatic 153, 3) := by decide +kernel
theorem d_R_arePeople_15 : decode M_R_arePeople.2.1 15 = .ok (.ireturn, 1) := by decide +kernel
theorem d_R_f_0 : decode M_R_f.2.1 0 = .ok (.sipush 796, 3) := by decide +kernel
theorem d_R_f_3 : decode M_R_f.2.1 3 = .ok (.bipush 31, 2) := by decide +kernel
theorem d_R_f_5 : decode M_R_f.2.1 5 = .ok (.iload_n 0, 1) := by decide +kernel
theorem d_R_f_6 : decode M_R_f.2.1 6 = .ok (.imul, 1) := by decide +kernel
theorem d_R_f_7 : decode M_R_f.2.1 7 = .ok (.iadd, 1) := by decide +kernel
theorem d_R_f_8 : decode M_R_f.2.1 8 = .ok (.iload_n 1, 1) := by decide +kernel
theorem d_R_f_9 : decode M_R_f.2.1 9 = .ok (.iadd, 1) := by decide +kernel
theorem d_R_f_10 : decode M_R_f.2.1 10 = .ok (.ireturn, 1) := by decide +kernel
theorem d_R_act_0 : decode M_R_act.2.1 0 = .ok (.aload_n 0, 1) := by decide +kernel
theorem d_R_act_1 : decode M_R_act.2.1 1 = .ok (.iload_n 1, 1) := by decide +kernel
theorem d_R_act_2 : decode M_R_act.2.1 2 = .ok (.invokevirtual 193, 3) := by decide +kernel
theorem d_R_act_5 : decode M_R_act.2.1 5 = .ok (.ifCond .eq 20, 3) := by decide +kernel
theorem d_R_act_8 : decode M_R_act.2.1 8 = .ok (.iload_n 2, 1) := by decide +kernel
theorem d_R_act_9 : decode M_R_act.2.1 9 = .ok (.iconst 0, 1) := by decide +kernel
theorem d_R_act_10 : decode M_R_act.2.1 10 = .ok (.iconst 5, 1) := by decide +kernel
theorem d_R_act_11 : decode M_R_act.2.1 11 = .ok (.invokestatic 153, 3) := by decide +kernel
theorem d_R_act_14 : decode M_R_act.2.1 14 = .ok (.ifCond .eq 11, 3) := by decide +kernel
theorem d_R_act_17 : decode M_R_act.2.1 17 = .ok (.aload_n 0, 1) := by decide +kernel
theorem d_R_act_18 : decode M_R_act.2.1 18 = .ok (.iload_n 3, 1) := by decide +kernel
theorem d_R_act_19 : decode M_R_act.2.1 19 = .ok (.invokevirtual 184, 3) := by decide +kernel
theorem d_R_act_22 : decode M_R_act.2.1 22 = .ok (.ifCond .ne 5, 3) := by decide +kernel
theorem d_R_act_25 : decode M_R_act.2.1 25 = .ok (.iconst (-1), 1) := by decide +kernel
theorem d_R_act_26 : decode M_R_act.2.1 26 = .ok (.ireturn, 1) := by decide +kernel
theorem d_R_act_27 : decode M_R_act.2.1 27 = .ok (.iload_n 2, 1) := by decide +kernel
theorem d_R_act_28 : decode M_R_act.2.1 28 = .ok (.iconst 3, 1) := by decide +kernel
theorem d_R_act_29 : decode M_R_act.2.1 29 = .ok (.if_icmp .ge 15, 3) := by decide +kernel
theorem d_R_act_32 : decode M_R_act.2.1 32 = .ok (.aload_n 0, 1) := by decide +kernel
theorem d_R_act_33 : decode M_R_act.2.1 33 = .ok (.iload 4, 2) := by decide +kernel
theorem d_R_act_35 : decode M_R_act.2.1 35 = .ok (.invokevirtual 187, 3) := by decide +kernel
theorem d_R_act_38 : decode M_R_act.2.1 38 = .ok (.ifCond .ne 14, 3) := by decide +kernel
theorem d_R_act_41 : decode M_R_act.2.1 41 = .ok (.goto 9, 3) := by decide +kernel
theorem d_R_act_44 : decode M_R_act.2.1 44 = .ok (.iload 4, 2) := by decide +kernel
theorem d_R_act_46 : decode M_R_act.2.1 46 = .ok (.iconst (-1), 1) := by decide +kernel
theorem d_R_act_47 : decode M_R_act.2.1 47 = .ok (.if_icmp .eq 5, 3) := by decide +kernel
theorem d_R_act_50 : decode M_R_act.2.1 50 = .ok (.iconst (-1), 1) := by decide +kernel
theorem d_R_act_51 : decode M_R_act.2.1 51 = .ok (.ireturn, 1) := by decide +kernel
theorem d_R_act_52 : decode M_R_act.2.1 52 = .ok (.iload_n 2, 1) := by decide +kernel
theorem d_R_act_53 : decode M_R_act.2.1 53 = .ok (.iconst 1, 1) := by decide +kernel
theorem d_R_act_54 : decode M_R_act.2.1 54 = .ok (.if_icmp .ne 15, 3) := by decide +kernel
theorem d_R_act_57 : decode M_R_act.2.1 57 = .ok (.aload_n 0, 1) := by decide +kernel
theorem d_R_act_58 : decode M_R_act.2.1 58 = .ok (.iload 5, 2) := by decide +kernel
theorem d_R_act_60 : decode M_R_act.2.1 60 = .ok (.invokevirtual 184, 3) := by decide +kernel
theorem d_R_act_63 : decode M_R_act.2.1 63 = .ok (.ifCond .ne 14, 3) := by decide +kernel
theorem d_R_act_66 : decode M_R_act.2.1 66 = .ok (.goto 9, 3) := by decide +kernel
theorem d_R_act_69 : decode M_R_act.2.1 69 = .ok (.iload 5, 2) := by decide +kernel
theorem d_R_act_71 : decode M_R_act.2.1 71 = .ok (.iconst (-1), 1) := by decide +kernel
theorem d_R_act_72 : decode M_R_act.2.1 72 = .ok (.if_icmp .eq 5, 3) := by decide +kernel
theorem d_R_act_75 : decode M_R_act.2.1 75 = .ok (.iconst (-1), 1) := by decide +kernel
theorem d_R_act_76 : decode M_R_act.2.1 76 = .ok (.ireturn, 1) := by decide +kernel
theorem d_R_act_77 : decode M_R_act.2.1 77 = .ok (.aload_n 0, 1) := by decide +kernel
theorem d_R_act_78 : decode M_R_act.2.1 78 = .ok (.getfield 9, 3) := by decide +kernel
theorem d_R_act_81 : decode M_R_act.2.1 81 = .ok (.iload_n 1, 1) := by decide +kernel
theorem d_R_act_82 : decode M_R_act.2.1 82 = .ok (.bipush 6, 2) := by decide +kernel
theorem d_R_act_84 : decode M_R_act.2.1 84 = .ok (.invokestatic 180, 3) := by decide +kernel
theorem d_R_act_87 : decode M_R_act.2.1 87 = .ok (.iaload, 1) := by decide +kernel
theorem d_R_act_88 : decode M_R_act.2.1 88 = .ok (.istore 6, 2) := by decide +kernel
theorem d_R_act_90 : decode M_R_act.2.1 90 = .ok (.iload 6, 2) := by decide +kernel
theorem d_R_act_92 : decode M_R_act.2.1 92 = .ok (.bipush 6, 2) := by decide +kernel
theorem d_R_act_94 : decode M_R_act.2.1 94 = .ok (.if_icmp .ne 6, 3) := by decide +kernel
theorem d_R_act_97 : decode M_R_act.2.1 97 = .ok (.bipush (-2), 2) := by decide +kernel
theorem d_R_act_99 : decode M_R_act.2.1 99 = .ok (.ireturn, 1) := by decide +kernel
theorem d_R_act_100 : decode M_R_act.2.1 100 = .ok (.aload_n 0, 1) := by decide +kernel
theorem d_R_act_101 : decode M_R_act.2.1 101 = .ok (.iconst 0, 1) := by decide +kernel
theorem d_R_act_102 : decode M_R_act.2.1 102 = .ok (.putfield 163, 3) := by decide +kernel
theorem d_R_act_105 : decode M_R_act.2.1 105 = .ok (.iload_n 1, 1) := by decide +kernel
theorem d_R_act_106 : decode M_R_act.2.1 106 = .ok (.bipush 7, 2) := by decide +kernel
theorem d_R_act_108 : decode M_R_act.2.1 108 = .ok (.iconst 4, 1) := by decide +kernel
theorem d_R_act_109 : decode M_R_act.2.1 109 = .ok (.iload 6, 2) := by decide +kernel
theorem d_R_act_111 : decode M_R_act.2.1 111 = .ok (.imul, 1) := by decide +kernel
theorem d_R_act_112 : decode M_R_act.2.1 112 = .ok (.iadd, 1) := by decide +kernel
theorem d_R_act_113 : decode M_R_act.2.1 113 = .ok (.invokestatic 180, 3) := by decide +kernel
theorem d_R_act_116 : decode M_R_act.2.1 116 = .ok (.istore 7, 2) := by decide +kernel
theorem d_R_act_118 : decode M_R_act.2.1 118 = .ok (.aload_n 0, 1) := by decide +kernel
theorem d_R_act_119 : decode M_R_act.2.1 119 = .ok (.getfield 9, 3) := by decide +kernel
theorem d_R_act_122 : decode M_R_act.2.1 122 = .ok (.iload 7, 2) := by decide +kernel
theorem d_R_act_124 : decode M_R_act.2.1 124 = .ok (.iload_n 2, 1) := by decide +kernel
theorem d_R_act_125 : decode M_R_act.2.1 125 = .ok (.iastore, 1) := by decide +kernel
theorem d_R_act_126 : decode M_R_act.2.1 126 = .ok (.aload_n 0, 1) := by decide +kernel
theorem d_R_act_127 : decode M_R_act.2.1 127 = .ok (.getfield 9, 3) := by decide +kernel
theorem d_R_act_130 : decode M_R_act.2.1 130 = .ok (.iload 7, 2) := by decide +kernel
theorem d_R_act_132 : decode M_R_act.2.1 132 = .ok (.iconst 1, 1) := by decide +kernel
theorem d_R_act_133 : decode M_R_act.2.1 133 = .ok (.iadd, 1) := by decide +kernel
theorem d_R_act_134 : decode M_R_act.2.1 134 = .ok (.iload_n 3, 1) := by decide +kernel
theorem d_R_act_135 : decode M_R_act.2.1 135 = .ok (.iastore, 1) := by decide +kernel
theorem d_R_act_136 : decode M_R_act.2.1 136 = .ok (.aload_n 0, 1) := by decide +kernel
theorem d_R_act_137 : decode M_R_act.2.1 137 = .ok (.getfield 9, 3) := by decide +kernel
theorem d_R_act_140 : decode M_R_act.2.1 140 = .ok (.iload 7, 2) := by decide +kernel
theorem d_R_act_142 : decode M_R_act.2.1 142 = .ok (.iconst 2, 1) := by decide +kernel
theorem d_R_act_143 : decode M_R_act.2.1 143 = .ok (.iadd, 1) := by decide +kernel
theorem d_R_act_144 : decode M_R_act.2.1 144 = .ok (.iload 4, 2) := by decide +kernel
theorem d_R_act_146 : decode M_R_act.2.1 146 = .ok (.iastore, 1) := by decide +kernel
theorem d_R_act_147 : decode M_R_act.2.1 147 = .ok (.aload_n 0, 1) := by decide +kernel
theorem d_R_act_148 : decode M_R_act.2.1 148 = .ok (.getfield 9, 3) := by decide +kernel
theorem d_R_act_151 : decode M_R_act.2.1 151 = .ok (.iload 7, 2) := by decide +kernel
theorem d_R_act_153 : decode M_R_act.2.1 153 = .ok (.iconst 3, 1) := by decide +kernel
theorem d_R_act_154 : decode M_R_act.2.1 154 = .ok (.iadd, 1) := by decide +kernel
theorem d_R_act_155 : decode M_R_act.2.1 155 = .ok (.iload 5, 2) := by decide +kernel
theorem d_R_act_157 : decode M_R_act.2.1 157 = .ok (.iastore, 1) := by decide +kernel
theorem d_R_act_158 : decode M_R_act.2.1 158 = .ok (.aload_n 0, 1) := by decide +kernel
theorem d_R_act_159 : decode M_R_act.2.1 159 = .ok (.getfield 9, 3) := by decide +kernel
theorem d_R_act_162 : decode M_R_act.2.1 162 = .ok (.iload_n 1, 1) := by decide +kernel
theorem d_R_act_163 : decode M_R_act.2.1 163 = .ok (.bipush 6, 2) := by decide +kernel
theorem d_R_act_165 : decode M_R_act.2.1 165 = .ok (.invokestatic 180, 3) := by decide +kernel
theorem d_R_act_168 : decode M_R_act.2.1 168 = .ok (.dup2, 1) := by decide +kernel
theorem d_R_act_169 : decode M_R_act.2.1 169 = .ok (.iaload, 1) := by decide +kernel
theorem d_R_act_170 : decode M_R_act.2.1 170 = .ok (.iconst 1, 1) := by decide +kernel
theorem d_R_act_171 : decode M_R_act.2.1 171 = .ok (.iadd, 1) := by decide +kernel
theorem d_R_act_172 : decode M_R_act.2.1 172 = .ok (.iastore, 1) := by decide +kernel
theorem d_R_act_173 : decode M_R_act.2.1 173 = .ok (.iload 6, 2) := by decide +kernel
theorem d_R_act_175 : decode M_R_act.2.1 175 = .ok (.iconst 1, 1) := by decide +kernel
theorem d_R_act_176 : decode M_R_act.2.1 176 = .ok (.iadd, 1) := by decide +kernel
theorem d_R_act_177 : decode M_R_act.2.1 177 = .ok (.ireturn, 1) := by decide +kernel
theorem d_R_isScene_0 : decode M_R_isScene.2.1 0 = .ok (.aload_n 0, 1) := by decide +kernel
theorem d_R_isScene_1 : decode M_R_isScene.2.1 1 = .ok (.iload_n 1, 1) := by decide +kernel
theorem d_R_isScene_2 : decode M_R_isScene.2.1 2 = .ok (.invokevirtual 176, 3) := by decide +kernel
theorem d_R_isScene_5 : decode M_R_isScene.2.1 5 = .ok (.ifCond .eq 20, 3) := by decide +kernel
theorem d_R_isScene_8 : decode M_R_isScene.2.1 8 = .ok (.aload_n 0, 1) := by decide +kernel
theorem d_R_isScene_9 : decode M_R_isScene.2.1 9 = .ok (.getfield 9, 3) := by decide +kernel
theorem d_R_isScene_12 : decode M_R_isScene.2.1 12 = .ok (.iload_n 1, 1) := by decide +kernel
theorem d_R_isScene_13 : decode M_R_isScene.2.1 13 = .ok (.iconst 5, 1) := by decide +kernel
theorem d_R_isScene_14 : decode M_R_isScene.2.1 14 = .ok (.invokestatic 180, 3) := by decide +kernel
theorem d_R_isScene_17 : decode M_R_isScene.2.1 17 = .ok (.iaload, 1) := by decide +kernel
theorem d_R_isScene_18 : decode M_R_isScene.2.1 18 = .ok (.ifCond .ne 7, 3) := by decide +kernel
theorem d_R_isScene_21 : decode M_R_isScene.2.1 21 = .ok (.iconst 1, 1) := by decide +kernel
theorem d_R_isScene_22 : decode M_R_isScene.2.1 22 = .ok (.goto 4, 3) := by decide +kernel
theorem d_R_isScene_25 : decode M_R_isScene.2.1 25 = .ok (.iconst 0, 1) := by decide +kernel
theorem d_R_isScene_26 : decode M_R_isScene.2.1 26 = .ok (.ireturn, 1) := by decide +kernel
theorem d_R_wasTold_0 : decode M_R_wasTold.2.1 0 = .ok (.iload_n 1, 1) := by decide +kernel
theorem d_R_wasTold_1 : decode M_R_wasTold.2.1 1 = .ok (.iconst 0, 1) := by decide +kernel
theorem d_R_wasTold_2 : decode M_R_wasTold.2.1 2 = .ok (.aload_n 0, 1) := by decide +kernel
theorem d_R_wasTold_3 : decode M_R_wasTold.2.1 3 = .ok (.getfield 9, 3) := by decide +kernel
theorem d_R_wasTold_6 : decode M_R_wasTold.2.1 6 = .ok (.iconst 3, 1) := by decide +kernel
theorem d_R_wasTold_7 : decode M_R_wasTold.2.1 7 = .ok (.iaload, 1) := by decide +kernel
theorem d_R_wasTold_8 : decode M_R_wasTold.2.1 8 = .ok (.iconst 1, 1) := by decide +kernel
theorem d_R_wasTold_9 : decode M_R_wasTold.2.1 9 = .ok (.isub, 1) := by decide +kernel
theorem d_R_wasTold_10 : decode M_R_wasTold.2.1 10 = .ok (.invokestatic 153, 3) := by decide +kernel
theorem d_R_wasTold_13 : decode M_R_wasTold.2.1 13 = .ok (.ireturn, 1) := by decide +kernel
theorem d_R_bare_0 : decode M_R_bare.2.1 0 = .ok (.aload_n 0, 1) := by decide +kernel
theorem d_R_bare_1 : decode M_R_bare.2.1 1 = .ok (.iload_n 1, 1) := by decide +kernel
theorem d_R_bare_2 : decode M_R_bare.2.1 2 = .ok (.invokevirtual 193, 3) := by decide +kernel
theorem d_R_bare_5 : decode M_R_bare.2.1 5 = .ok (.ifCond .ne 5, 3) := by decide +kernel
theorem d_R_bare_8 : decode M_R_bare.2.1 8 = .ok (.iconst (-1), 1) := by decide +kernel
theorem d_R_bare_9 : decode M_R_bare.2.1 9 = .ok (.ireturn, 1) := by decide +kernel
theorem d_R_bare_10 : decode M_R_bare.2.1 10 = .ok (.aload_n 0, 1) := by decide +kernel
theorem d_R_bare_11 : decode M_R_bare.2.1 11 = .ok (.iconst 0, 1) := by decide +kernel
theorem d_R_bare_12 : decode M_R_bare.2.1 12 = .ok (.putfield 163, 3) := by decide +kernel
theorem d_R_bare_15 : decode M_R_bare.2.1 15 = .ok (.aload_n 0, 1) := by decide +kernel
theorem d_R_bare_16 : decode M_R_bare.2.1 16 = .ok (.getfield 9, 3) := by decide +kernel
theorem d_R_bare_19 : decode M_R_bare.2.1 19 = .ok (.iload_n 1, 1) := by decide +kernel
theorem d_R_bare_20 : decode M_R_bare.2.1 20 = .ok (.bipush 6, 2) := by decide +kernel
theorem d_R_bare_22 : decode M_R_bare.2.1 22 = .ok (.invokestatic 180, 3) := by decide +kernel
theorem d_R_bare_25 : decode M_R_bare.2.1 25 = .ok (.iaload, 1) := by decide +kernel
theorem d_R_bare_26 : decode M_R_bare.2.1 26 = .ok (.istore_n 2, 1) := by decide +kernel
theorem d_R_bare_27 : decode M_R_bare.2.1 27 = .ok (.aload_n 0, 1) := by decide +kernel
theorem d_R_bare_28 : decode M_R_bare.2.1 28 = .ok (.getfield 9, 3) := by decide +kernel
theorem d_R_bare_31 : decode M_R_bare.2.1 31 = .ok (.iload_n 1, 1) := by decide +kernel
theorem d_R_bare_32 : decode M_R_bare.2.1 32 = .ok (.bipush 6, 2) := by decide +kernel
theorem d_R_bare_34 : decode M_R_bare.2.1 34 = .ok (.invokestatic 180, 3) := by decide +kernel
theorem d_R_bare_37 : decode M_R_bare.2.1 37 = .ok (.iconst 0, 1) := by decide +kernel
theorem d_R_bare_38 : decode M_R_bare.2.1 38 = .ok (.iastore, 1) := by decide +kernel
theorem d_R_bare_39 : decode M_R_bare.2.1 39 = .ok (.iload_n 2, 1) := by decide +kernel
theorem d_R_bare_40 : decode M_R_bare.2.1 40 = .ok (.ireturn, 1) := by decide +kernel
theorem d_R_drop_0 : decode M_R_drop.2.1 0 = .ok (.aload_n 0, 1) := by decide +kernel
theorem d_R_drop_1 : decode M_R_drop.2.1 1 = .ok (.iload_n 1, 1) := by decide +kernel
theorem d_R_drop_2 : decode M_R_drop.2.1 2 = .ok (.invokevirtual 176, 3) := by decide +kernel
theorem d_R_drop_5 : decode M_R_drop.2.1 5 = .ok (.ifCond .ne 5, 3) := by decide +kernel
theorem d_R_drop_8 : decode M_R_drop.2.1 8 = .ok (.iconst (-1), 1) := by decide +kernel
theorem d_R_drop_9 : decode M_R_drop.2.1 9 = .ok (.ireturn, 1) := by decide +kernel
theorem d_R_drop_10 : decode M_R_drop.2.1 10 = .ok (.aload_n 0, 1) := by decide +kernel
theorem d_R_drop_11 : decode M_R_drop.2.1 11 = .ok (.iconst 0, 1) := by decide +kernel
theorem d_R_drop_12 : decode M_R_drop.2.1 12 = .ok (.putfield 163, 3) := by decide +kernel
theorem d_R_drop_15 : decode M_R_drop.2.1 15 = .ok (.aload_n 0, 1) := by decide +kernel
theorem d_R_drop_16 : decode M_R_drop.2.1 16 = .ok (.getfield 9, 3) := by decide +kernel
theorem d_R_drop_19 : decode M_R_drop.2.1 19 = .ok (.iload_n 1, 1) := by decide +kernel
theorem d_R_drop_20 : decode M_R_drop.2.1 20 = .ok (.iconst 5, 1) := by decide +kernel
theorem d_R_drop_21 : decode M_R_drop.2.1 21 = .ok (.invokestatic 180, 3) := by decide +kernel
theorem d_R_drop_24 : decode M_R_drop.2.1 24 = .ok (.iconst 1, 1) := by decide +kernel
theorem d_R_drop_25 : decode M_R_drop.2.1 25 = .ok (.aload_n 0, 1) := by decide +kernel
theorem d_R_drop_26 : decode M_R_drop.2.1 26 = .ok (.getfield 9, 3) := by decide +kernel
theorem d_R_drop_29 : decode M_R_drop.2.1 29 = .ok (.iload_n 1, 1) := by decide +kernel
theorem d_R_drop_30 : decode M_R_drop.2.1 30 = .ok (.iconst 5, 1) := by decide +kernel
theorem d_R_drop_31 : decode M_R_drop.2.1 31 = .ok (.invokestatic 180, 3) := by decide +kernel
theorem d_R_drop_34 : decode M_R_drop.2.1 34 = .ok (.iaload, 1) := by decide +kernel
theorem d_R_drop_35 : decode M_R_drop.2.1 35 = .ok (.isub, 1) := by decide +kernel
theorem d_R_drop_36 : decode M_R_drop.2.1 36 = .ok (.iastore, 1) := by decide +kernel
theorem d_R_drop_37 : decode M_R_drop.2.1 37 = .ok (.aload_n 0, 1) := by decide +kernel
theorem d_R_drop_38 : decode M_R_drop.2.1 38 = .ok (.getfield 9, 3) := by decide +kernel
theorem d_R_drop_41 : decode M_R_drop.2.1 41 = .ok (.iload_n 1, 1) := by decide +kernel
theorem d_R_drop_42 : decode M_R_drop.2.1 42 = .ok (.iconst 5, 1) := by decide +kernel
theorem d_R_drop_43 : decode M_R_drop.2.1 43 = .ok (.invokestatic 180, 3) := by decide +kernel
theorem d_R_drop_46 : decode M_R_drop.2.1 46 = .ok (.iaload, 1) := by decide +kernel
theorem d_R_drop_47 : decode M_R_drop.2.1 47 = .ok (.ireturn, 1) := by decide +kernel
theorem d_R_move_0 : decode M_R_move.2.1 0 = .ok (.aload_n 0, 1) := by decide +kernel
theorem d_R_move_1 : decode M_R_move.2.1 1 = .ok (.iload_n 1, 1) := by decide +kernel
theorem d_R_move_2 : decode M_R_move.2.1 2 = .ok (.invokevirtual 193, 3) := by decide +kernel
theorem d_R_move_5 : decode M_R_move.2.1 5 = .ok (.ifCond .eq 13, 3) := by decide +kernel
theorem d_R_move_8 : decode M_R_move.2.1 8 = .ok (.iload_n 2, 1) := by decide +kernel
theorem d_R_move_9 : decode M_R_move.2.1 9 = .ok (.iconst 1, 1) := by decide +kernel
theorem d_R_move_10 : decode M_R_move.2.1 10 = .ok (.bipush 26, 2) := by decide +kernel
theorem d_R_move_12 : decode M_R_move.2.1 12 = .ok (.invokestatic 153, 3) := by decide +kernel
theorem d_R_move_15 : decode M_R_move.2.1 15 = .ok (.ifCond .ne 5, 3) := by decide +kernel
theorem d_R_move_18 : decode M_R_move.2.1 18 = .ok (.iconst (-1), 1) := by decide +kernel
theorem d_R_move_19 : decode M_R_move.2.1 19 = .ok (.ireturn, 1) := by decide +kernel
theorem d_R_move_20 : decode M_R_move.2.1 20 = .ok (.aload_n 0, 1) := by decide +kernel
theorem d_R_move_21 : decode M_R_move.2.1 21 = .ok (.iconst 0, 1) := by decide +kernel
theorem d_R_move_22 : decode M_R_move.2.1 22 = .ok (.putfield 163, 3) := by decide +kernel
theorem d_R_move_25 : decode M_R_move.2.1 25 = .ok (.aload_n 0, 1) := by decide +kernel
theorem d_R_move_26 : decode M_R_move.2.1 26 = .ok (.getfield 9, 3) := by decide +kernel
theorem d_R_move_29 : decode M_R_move.2.1 29 = .ok (.iload_n 1, 1) := by decide +kernel
theorem d_R_move_30 : decode M_R_move.2.1 30 = .ok (.iconst 0, 1) := by decide +kernel
theorem d_R_move_31 : decode M_R_move.2.1 31 = .ok (.invokestatic 180, 3) := by decide +kernel
theorem d_R_move_34 : decode M_R_move.2.1 34 = .ok (.iaload, 1) := by decide +kernel
theorem d_R_move_35 : decode M_R_move.2.1 35 = .ok (.istore_n 3, 1) := by decide +kernel
theorem d_R_move_36 : decode M_R_move.2.1 36 = .ok (.aload_n 0, 1) := by decide +kernel
theorem d_R_move_37 : decode M_R_move.2.1 37 = .ok (.getfield 9, 3) := by decide +kernel
theorem d_R_move_40 : decode M_R_move.2.1 40 = .ok (.iload_n 1, 1) := by decide +kernel
theorem d_R_move_41 : decode M_R_move.2.1 41 = .ok (.iconst 0, 1) := by decide +kernel
theorem d_R_move_42 : decode M_R_move.2.1 42 = .ok (.invokestatic 180, 3) := by decide +kernel
theorem d_R_move_45 : decode M_R_move.2.1 45 = .ok (.iload_n 2, 1) := by decide +kernel
theorem d_R_move_46 : decode M_R_move.2.1 46 = .ok (.iastore, 1) := by decide +kernel
theorem d_R_move_47 : decode M_R_move.2.1 47 = .ok (.iload_n 3, 1) := by decide +kernel
theorem d_R_move_48 : decode M_R_move.2.1 48 = .ok (.ireturn, 1) := by decide +kernel
theorem d_R_told_0 : decode M_R_told.2.1 0 = .ok (.aload_n 0, 1) := by decide +kernel
theorem d_R_told_1 : decode M_R_told.2.1 1 = .ok (.iload_n 1, 1) := by decide +kernel
theorem d_R_told_2 : decode M_R_told.2.1 2 = .ok (.invokevirtual 176, 3) := by decide +kernel
theorem d_R_told_5 : decode M_R_told.2.1 5 = .ok (.ifCond .eq 13, 3) := by decide +kernel
theorem d_R_told_8 : decode M_R_told.2.1 8 = .ok (.iload_n 2, 1) := by decide +kernel
theorem d_R_told_9 : decode M_R_told.2.1 9 = .ok (.iconst 0, 1) := by decide +kernel
theorem d_R_told_10 : decode M_R_told.2.1 10 = .ok (.bipush 6, 2) := by decide +kernel
theorem d_R_told_12 : decode M_R_told.2.1 12 = .ok (.invokestatic 153, 3) := by decide +kernel
theorem d_R_told_15 : decode M_R_told.2.1 15 = .ok (.ifCond .ne 5, 3) := by decide +kernel
theorem d_R_told_18 : decode M_R_told.2.1 18 = .ok (.iconst (-1), 1) := by decide +kernel
theorem d_R_told_19 : decode M_R_told.2.1 19 = .ok (.ireturn, 1) := by decide +kernel
theorem d_R_told_20 : decode M_R_told.2.1 20 = .ok (.iload_n 2, 1) := by decide +kernel
theorem d_R_told_21 : decode M_R_told.2.1 21 = .ok (.iconst 5, 1) := by decide +kernel
theorem d_R_told_22 : decode M_R_told.2.1 22 = .ok (.if_icmp .ne 17, 3) := by decide +kernel
theorem d_R_told_25 : decode M_R_told.2.1 25 = .ok (.aload_n 0, 1) := by decide +kernel
theorem d_R_told_26 : decode M_R_told.2.1 26 = .ok (.getfield 9, 3) := by decide +kernel
theorem d_R_told_29 : decode M_R_told.2.1 29 = .ok (.iload_n 1, 1) := by decide +kernel
theorem d_R_told_30 : decode M_R_told.2.1 30 = .ok (.bipush 6, 2) := by decide +kernel
theorem d_R_told_32 : decode M_R_told.2.1 32 = .ok (.invokestatic 180, 3) := by decide +kernel
theorem d_R_told_35 : decode M_R_told.2.1 35 = .ok (.iaload, 1) := by decide +kernel
theorem d_R_told_36 : decode M_R_told.2.1 36 = .ok (.goto 32, 3) := by decide +kernel
theorem d_R_told_39 : decode M_R_told.2.1 39 = .ok (.iload_n 2, 1) := by decide +kernel
theorem d_R_told_40 : decode M_R_told.2.1 40 = .ok (.bipush 6, 2) := by decide +kernel
theorem d_R_told_42 : decode M_R_told.2.1 42 = .ok (.if_icmp .ne 16, 3) := by decide +kernel
theorem d_R_told_45 : decode M_R_told.2.1 45 = .ok (.aload_n 0, 1) := by decide +kernel
theorem d_R_told_46 : decode M_R_told.2.1 46 = .ok (.getfield 9, 3) := by decide +kernel
theorem d_R_told_49 : decode M_R_told.2.1 49 = .ok (.iload_n 1, 1) := by decide +kernel
theorem d_R_told_50 : decode M_R_told.2.1 50 = .ok (.iconst 5, 1) := by decide +kernel
theorem d_R_told_51 : decode M_R_told.2.1 51 = .ok (.invokestatic 180, 3) := by decide +kernel
theorem d_R_told_54 : decode M_R_told.2.1 54 = .ok (.iaload, 1) := by decide +kernel
theorem d_R_told_55 : decode M_R_told.2.1 55 = .ok (.goto 13, 3) := by decide +kernel
theorem d_R_told_58 : decode M_R_told.2.1 58 = .ok (.aload_n 0, 1) := by decide +kernel
theorem d_R_told_59 : decode M_R_told.2.1 59 = .ok (.getfield 9, 3) := by decide +kernel
theorem d_R_told_62 : decode M_R_told.2.1 62 = .ok (.iload_n 1, 1) := by decide +kernel
theorem d_R_told_63 : decode M_R_told.2.1 63 = .ok (.iload_n 2, 1) := by decide +kernel
theorem d_R_told_64 : decode M_R_told.2.1 64 = .ok (.invokestatic 180, 3) := by decide +kernel
theorem d_R_told_67 : decode M_R_told.2.1 67 = .ok (.iaload, 1) := by decide +kernel
theorem d_R_told_68 : decode M_R_told.2.1 68 = .ok (.ireturn, 1) := by decide +kernel
theorem d_R_aired_0 : decode M_R_aired.2.1 0 = .ok (.aload_n 0, 1) := by decide +kernel
theorem d_R_aired_1 : decode M_R_aired.2.1 1 = .ok (.invokevirtual 239, 3) := by decide +kernel
theorem d_R_aired_4 : decode M_R_aired.2.1 4 = .ok (.iload_n 1, 1) := by decide +kernel
theorem d_R_aired_5 : decode M_R_aired.2.1 5 = .ok (.iconst 0, 1) := by decide +kernel
theorem d_R_aired_6 : decode M_R_aired.2.1 6 = .ok (.aload_n 0, 1) := by decide +kernel
theorem d_R_aired_7 : decode M_R_aired.2.1 7 = .ok (.getfield 207, 3) := by decide +kernel
theorem d_R_aired_10 : decode M_R_aired.2.1 10 = .ok (.iconst 1, 1) := by decide +kernel
theorem d_R_aired_11 : decode M_R_aired.2.1 11 = .ok (.isub, 1) := by decide +kernel
theorem d_R_aired_12 : decode M_R_aired.2.1 12 = .ok (.invokestatic 153, 3) := by decide +kernel
theorem d_R_aired_15 : decode M_R_aired.2.1 15 = .ok (.ifCond .eq 12, 3) := by decide +kernel
theorem d_R_aired_18 : decode M_R_aired.2.1 18 = .ok (.aload_n 0, 1) := by decide +kernel
theorem d_R_aired_19 : decode M_R_aired.2.1 19 = .ok (.getfield 68, 3) := by decide +kernel
theorem d_R_aired_22 : decode M_R_aired.2.1 22 = .ok (.iload_n 1, 1) := by decide +kernel
theorem d_R_aired_23 : decode M_R_aired.2.1 23 = .ok (.iaload, 1) := by decide +kernel
theorem d_R_aired_24 : decode M_R_aired.2.1 24 = .ok (.goto 4, 3) := by decide +kernel
theorem d_R_aired_27 : decode M_R_aired.2.1 27 = .ok (.iconst (-1), 1) := by decide +kernel
theorem d_R_aired_28 : decode M_R_aired.2.1 28 = .ok (.ireturn, 1) := by decide +kernel
theorem d_R_plays_0 : decode M_R_plays.2.1 0 = .ok (.aload_n 0, 1) := by decide +kernel
theorem d_R_plays_1 : decode M_R_plays.2.1 1 = .ok (.getfield 163, 3) := by decide +kernel
theorem d_R_plays_4 : decode M_R_plays.2.1 4 = .ok (.ifCond .eq 4, 3) := by decide +kernel
theorem d_R_plays_7 : decode M_R_plays.2.1 7 = .ok (.return_, 1) := by decide +kernel
theorem d_R_plays_8 : decode M_R_plays.2.1 8 = .ok (.aload_n 0, 1) := by decide +kernel
theorem d_R_plays_9 : decode M_R_plays.2.1 9 = .ok (.aload_n 0, 1) := by decide +kernel
theorem d_R_plays_10 : decode M_R_plays.2.1 10 = .ok (.getfield 9, 3) := by decide +kernel
theorem d_R_plays_13 : decode M_R_plays.2.1 13 = .ok (.iconst (-1), 1) := by decide +kernel
theorem d_R_plays_14 : decode M_R_plays.2.1 14 = .ok (.iconst 0, 1) := by decide +kernel
theorem d_R_plays_15 : decode M_R_plays.2.1 15 = .ok (.invokevirtual 196, 3) := by decide +kernel
theorem d_R_plays_18 : decode M_R_plays.2.1 18 = .ok (.aload_n 0, 1) := by decide +kernel
theorem d_R_plays_19 : decode M_R_plays.2.1 19 = .ok (.iconst 1, 1) := by decide +kernel
theorem d_R_plays_20 : decode M_R_plays.2.1 20 = .ok (.putfield 163, 3) := by decide +kernel
theorem d_R_plays_23 : decode M_R_plays.2.1 23 = .ok (.return_, 1) := by decide +kernel
theorem d_R_play_0 : decode M_R_play.2.1 0 = .ok (.aload_n 0, 1) := by decide +kernel
theorem d_R_play_1 : decode M_R_play.2.1 1 = .ok (.iconst 0, 1) := by decide +kernel
theorem d_R_play_2 : decode M_R_play.2.1 2 = .ok (.putfield 163, 3) := by decide +kernel
theorem d_R_play_5 : decode M_R_play.2.1 5 = .ok (.aload_n 0, 1) := by decide +kernel
theorem d_R_play_6 : decode M_R_play.2.1 6 = .ok (.aload_n 0, 1) := by decide +kernel
theorem d_R_play_7 : decode M_R_play.2.1 7 = .ok (.aload_n 1, 1) := by decide +kernel
theorem d_R_play_8 : decode M_R_play.2.1 8 = .ok (.invokevirtual 203, 3) := by decide +kernel
theorem d_R_play_11 : decode M_R_play.2.1 11 = .ok (.putfield 207, 3) := by decide +kernel
theorem d_R_play_14 : decode M_R_play.2.1 14 = .ok (.aload_n 0, 1) := by decide +kernel
theorem d_R_play_15 : decode M_R_play.2.1 15 = .ok (.iconst 0, 1) := by decide +kernel
theorem d_R_play_16 : decode M_R_play.2.1 16 = .ok (.putfield 210, 3) := by decide +kernel
theorem d_R_play_19 : decode M_R_play.2.1 19 = .ok (.aload_n 0, 1) := by decide +kernel
theorem d_R_play_20 : decode M_R_play.2.1 20 = .ok (.iconst 0, 1) := by decide +kernel
theorem d_R_play_21 : decode M_R_play.2.1 21 = .ok (.putfield 200, 3) := by decide +kernel
theorem d_R_play_24 : decode M_R_play.2.1 24 = .ok (.iconst 0, 1) := by decide +kernel
theorem d_R_play_25 : decode M_R_play.2.1 25 = .ok (.istore 4, 2) := by decide +kernel
theorem d_R_play_27 : decode M_R_play.2.1 27 = .ok (.iload 4, 2) := by decide +kernel
theorem d_R_play_29 : decode M_R_play.2.1 29 = .ok (.bipush 24, 2) := by decide +kernel
theorem d_R_play_31 : decode M_R_play.2.1 31 = .ok (.if_icmp .ge 18, 3) := by decide +kernel
theorem d_R_play_34 : decode M_R_play.2.1 34 = .ok (.aload_n 0, 1) := by decide +kernel
theorem d_R_play_35 : decode M_R_play.2.1 35 = .ok (.getfield 83, 3) := by decide +kernel
theorem d_R_play_38 : decode M_R_play.2.1 38 = .ok (.iload 4, 2) := by decide +kernel
theorem d_R_play_40 : decode M_R_play.2.1 40 = .ok (.bipush (-3), 2) := by decide +kernel
theorem d_R_play_42 : decode M_R_play.2.1 42 = .ok (.iastore, 1) := by decide +kernel
theorem d_R_play_43 : decode M_R_play.2.1 43 = .ok (.iinc 4 1, 3) := by decide +kernel
theorem d_R_play_46 : decode M_R_play.2.1 46 = .ok (.goto (-19), 3) := by decide +kernel
theorem d_R_play_49 : decode M_R_play.2.1 49 = .ok (.iconst 0, 1) := by decide +kernel
theorem d_R_play_50 : decode M_R_play.2.1 50 = .ok (.istore 4, 2) := by decide +kernel
theorem d_R_play_52 : decode M_R_play.2.1 52 = .ok (.iload 4, 2) := by decide +kernel
theorem d_R_play_54 : decode M_R_play.2.1 54 = .ok (.bipush 12, 2) := by decide +kernel
theorem d_R_play_56 : decode M_R_play.2.1 56 = .ok (.if_icmp .ge 121, 3) := by decide +kernel
theorem d_R_play_59 : decode M_R_play.2.1 59 = .ok (.aload_n 0, 1) := by decide +kernel
theorem d_R_play_60 : decode M_R_play.2.1 60 = .ok (.getfield 80, 3) := by decide +kernel
theorem d_R_play_63 : decode M_R_play.2.1 63 = .ok (.iload 4, 2) := by decide +kernel
theorem d_R_play_65 : decode M_R_play.2.1 65 = .ok (.iconst 0, 1) := by decide +kernel
theorem d_R_play_66 : decode M_R_play.2.1 66 = .ok (.iastore, 1) := by decide +kernel
theorem d_R_play_67 : decode M_R_play.2.1 67 = .ok (.iconst 0, 1) := by decide +kernel
theorem d_R_play_68 : decode M_R_play.2.1 68 = .ok (.istore 5, 2) := by decide +kernel
theorem d_R_play_70 : decode M_R_play.2.1 70 = .ok (.iload 5, 2) := by decide +kernel
theorem d_R_play_72 : decode M_R_play.2.1 72 = .ok (.bipush 24, 2) := by decide +kernel
theorem d_R_play_74 : decode M_R_play.2.1 74 = .ok (.if_icmp .ge 97, 3) := by decide +kernel
theorem d_R_play_77 : decode M_R_play.2.1 77 = .ok (.bipush 24, 2) := by decide +kernel
theorem d_R_play_79 : decode M_R_play.2.1 79 = .ok (.iload 4, 2) := by decide +kernel
theorem d_R_play_81 : decode M_R_play.2.1 81 = .ok (.imul, 1) := by decide +kernel
theorem d_R_play_82 : decode M_R_play.2.1 82 = .ok (.iload 5, 2) := by decide +kernel
theorem d_R_play_84 : decode M_R_play.2.1 84 = .ok (.iadd, 1) := by decide +kernel
theorem d_R_play_85 : decode M_R_play.2.1 85 = .ok (.istore 6, 2) := by decide +kernel
theorem d_R_play_87 : decode M_R_play.2.1 87 = .ok (.aload_n 1, 1) := by decide +kernel
theorem d_R_play_88 : decode M_R_play.2.1 88 = .ok (.iconst 4, 1) := by decide +kernel
theorem d_R_play_89 : decode M_R_play.2.1 89 = .ok (.iload 4, 2) := by decide +kernel
theorem d_R_play_91 : decode M_R_play.2.1 91 = .ok (.iadd, 1) := by decide +kernel
theorem d_R_play_92 : decode M_R_play.2.1 92 = .ok (.iaload, 1) := by decide +kernel
theorem d_R_play_93 : decode M_R_play.2.1 93 = .ok (.iload 5, 2) := by decide +kernel
theorem d_R_play_95 : decode M_R_play.2.1 95 = .ok (.ishr, 1) := by decide +kernel
theorem d_R_play_96 : decode M_R_play.2.1 96 = .ok (.iconst 1, 1) := by decide +kernel
theorem d_R_play_97 : decode M_R_play.2.1 97 = .ok (.iand, 1) := by decide +kernel
theorem d_R_play_98 : decode M_R_play.2.1 98 = .ok (.iconst 1, 1) := by decide +kernel
theorem d_R_play_99 : decode M_R_play.2.1 99 = .ok (.if_icmp .ne 7, 3) := by decide +kernel
theorem d_R_play_102 : decode M_R_play.2.1 102 = .ok (.iconst 1, 1) := by decide +kernel
theorem d_R_play_103 : decode M_R_play.2.1 103 = .ok (.goto 4, 3) := by decide +kernel
theorem d_R_play_106 : decode M_R_play.2.1 106 = .ok (.iconst 0, 1) := by decide +kernel
theorem d_R_play_107 : decode M_R_play.2.1 107 = .ok (.istore 7, 2) := by decide +kernel
theorem d_R_play_109 : decode M_R_play.2.1 109 = .ok (.aload_n 0, 1) := by decide +kernel
theorem d_R_play_110 : decode M_R_play.2.1 110 = .ok (.getfield 71, 3) := by decide +kernel
theorem d_R_play_113 : decode M_R_play.2.1 113 = .ok (.iload 6, 2) := by decide +kernel
theorem d_R_play_115 : decode M_R_play.2.1 115 = .ok (.iload 7, 2) := by decide +kernel
theorem d_R_play_117 : decode M_R_play.2.1 117 = .ok (.ifCond .eq 8, 3) := by decide +kernel
theorem d_R_play_120 : decode M_R_play.2.1 120 = .ok (.bipush (-2), 2) := by decide +kernel
theorem d_R_play_122 : decode M_R_play.2.1 122 = .ok (.goto 5, 3) := by decide +kernel
theorem d_R_play_125 : decode M_R_play.2.1 125 = .ok (.bipush (-3), 2) := by decide +kernel
theorem d_R_play_127 : decode M_R_play.2.1 127 = .ok (.iastore, 1) := by decide +kernel
theorem d_R_play_128 : decode M_R_play.2.1 128 = .ok (.aload_n 0, 1) := by decide +kernel
theorem d_R_play_129 : decode M_R_play.2.1 129 = .ok (.getfield 74, 3) := by decide +kernel
theorem d_R_play_132 : decode M_R_play.2.1 132 = .ok (.iload 6, 2) := by decide +kernel
theorem d_R_play_134 : decode M_R_play.2.1 134 = .ok (.iload 7, 2) := by decide +kernel
theorem d_R_play_136 : decode M_R_play.2.1 136 = .ok (.ifCond .eq 8, 3) := by decide +kernel
theorem d_R_play_139 : decode M_R_play.2.1 139 = .ok (.bipush (-2), 2) := by decide +kernel
theorem d_R_play_141 : decode M_R_play.2.1 141 = .ok (.goto 5, 3) := by decide +kernel
theorem d_R_play_144 : decode M_R_play.2.1 144 = .ok (.bipush (-3), 2) := by decide +kernel
theorem d_R_play_146 : decode M_R_play.2.1 146 = .ok (.iastore, 1) := by decide +kernel
theorem d_R_play_147 : decode M_R_play.2.1 147 = .ok (.aload_n 0, 1) := by decide +kernel
theorem d_R_play_148 : decode M_R_play.2.1 148 = .ok (.getfield 77, 3) := by decide +kernel
theorem d_R_play_151 : decode M_R_play.2.1 151 = .ok (.iload 6, 2) := by decide +kernel
theorem d_R_play_153 : decode M_R_play.2.1 153 = .ok (.iload 7, 2) := by decide +kernel
theorem d_R_play_155 : decode M_R_play.2.1 155 = .ok (.ifCond .eq 7, 3) := by decide +kernel
theorem d_R_play_158 : decode M_R_play.2.1 158 = .ok (.iconst 0, 1) := by decide +kernel
theorem d_R_play_159 : decode M_R_play.2.1 159 = .ok (.goto 5, 3) := by decide +kernel
theorem d_R_play_162 : decode M_R_play.2.1 162 = .ok (.bipush (-3), 2) := by decide +kernel
theorem d_R_play_164 : decode M_R_play.2.1 164 = .ok (.iastore, 1) := by decide +kernel
theorem d_R_play_165 : decode M_R_play.2.1 165 = .ok (.iinc 5 1, 3) := by decide +kernel
theorem d_R_play_168 : decode M_R_play.2.1 168 = .ok (.goto (-98), 3) := by decide +kernel
theorem d_R_play_171 : decode M_R_play.2.1 171 = .ok (.iinc 4 1, 3) := by decide +kernel
theorem d_R_play_174 : decode M_R_play.2.1 174 = .ok (.goto (-122), 3) := by decide +kernel
theorem d_R_play_177 : decode M_R_play.2.1 177 = .ok (.iconst 0, 1) := by decide +kernel
theorem d_R_play_178 : decode M_R_play.2.1 178 = .ok (.istore 4, 2) := by decide +kernel
theorem d_R_play_180 : decode M_R_play.2.1 180 = .ok (.iload 4, 2) := by decide +kernel
theorem d_R_play_182 : decode M_R_play.2.1 182 = .ok (.sipush 600, 3) := by decide +kernel
theorem d_R_play_185 : decode M_R_play.2.1 185 = .ok (.if_icmp .ge 17, 3) := by decide +kernel
theorem d_R_play_188 : decode M_R_play.2.1 188 = .ok (.aload_n 0, 1) := by decide +kernel
theorem d_R_play_189 : decode M_R_play.2.1 189 = .ok (.getfield 107, 3) := by decide +kernel
theorem d_R_play_192 : decode M_R_play.2.1 192 = .ok (.iload 4, 2) := by decide +kernel
theorem d_R_play_194 : decode M_R_play.2.1 194 = .ok (.iconst 0, 1) := by decide +kernel
theorem d_R_play_195 : decode M_R_play.2.1 195 = .ok (.bastore, 1) := by decide +kernel
theorem d_R_play_196 : decode M_R_play.2.1 196 = .ok (.iinc 4 1, 3) := by decide +kernel
theorem d_R_play_199 : decode M_R_play.2.1 199 = .ok (.goto (-19), 3) := by decide +kernel
theorem d_R_play_202 : decode M_R_play.2.1 202 = .ok (.iconst 0, 1) := by decide +kernel
theorem d_R_play_203 : decode M_R_play.2.1 203 = .ok (.istore 4, 2) := by decide +kernel
theorem d_R_play_205 : decode M_R_play.2.1 205 = .ok (.iload 4, 2) := by decide +kernel
theorem d_R_play_207 : decode M_R_play.2.1 207 = .ok (.aload_n 0, 1) := by decide +kernel
theorem d_R_play_208 : decode M_R_play.2.1 208 = .ok (.getfield 207, 3) := by decide +kernel
theorem d_R_play_211 : decode M_R_play.2.1 211 = .ok (.if_icmp .ge 43, 3) := by decide +kernel
theorem d_R_play_214 : decode M_R_play.2.1 214 = .ok (.aload_n 0, 1) := by decide +kernel
theorem d_R_play_215 : decode M_R_play.2.1 215 = .ok (.aload_n 1, 1) := by decide +kernel
theorem d_R_play_216 : decode M_R_play.2.1 216 = .ok (.aload_n 0, 1) := by decide +kernel
theorem d_R_play_217 : decode M_R_play.2.1 217 = .ok (.getfield 68, 3) := by decide +kernel
theorem d_R_play_220 : decode M_R_play.2.1 220 = .ok (.iload 4, 2) := by decide +kernel
theorem d_R_play_222 : decode M_R_play.2.1 222 = .ok (.iaload, 1) := by decide +kernel
theorem d_R_play_223 : decode M_R_play.2.1 223 = .ok (.aload_n 1, 1) := by decide +kernel
theorem d_R_play_224 : decode M_R_play.2.1 224 = .ok (.aload_n 0, 1) := by decide +kernel
theorem d_R_play_225 : decode M_R_play.2.1 225 = .ok (.getfield 68, 3) := by decide +kernel
theorem d_R_play_228 : decode M_R_play.2.1 228 = .ok (.iload 4, 2) := by decide +kernel
theorem d_R_play_230 : decode M_R_play.2.1 230 = .ok (.iaload, 1) := by decide +kernel
theorem d_R_play_231 : decode M_R_play.2.1 231 = .ok (.iconst 0, 1) := by decide +kernel
theorem d_R_play_232 : decode M_R_play.2.1 232 = .ok (.invokestatic 180, 3) := by decide +kernel
theorem d_R_play_235 : decode M_R_play.2.1 235 = .ok (.iaload, 1) := by decide +kernel
theorem d_R_play_236 : decode M_R_play.2.1 236 = .ok (.iload_n 3, 1) := by decide +kernel
theorem d_R_play_237 : decode M_R_play.2.1 237 = .ok (.if_icmp .lt 7, 3) := by decide +kernel
theorem d_R_play_240 : decode M_R_play.2.1 240 = .ok (.iload_n 2, 1) := by decide +kernel
theorem d_R_play_241 : decode M_R_play.2.1 241 = .ok (.goto 4, 3) := by decide +kernel
theorem d_R_play_244 : decode M_R_play.2.1 244 = .ok (.iconst (-1), 1) := by decide +kernel
theorem d_R_play_245 : decode M_R_play.2.1 245 = .ok (.invokevirtual 213, 3) := by decide +kernel
theorem d_R_play_248 : decode M_R_play.2.1 248 = .ok (.iinc 4 1, 3) := by decide +kernel
theorem d_R_play_251 : decode M_R_play.2.1 251 = .ok (.goto (-46), 3) := by decide +kernel
theorem d_R_play_254 : decode M_R_play.2.1 254 = .ok (.return_, 1) := by decide +kernel
theorem d_R_airs_0 : decode M_R_airs.2.1 0 = .ok (.iconst 0, 1) := by decide +kernel
theorem d_R_airs_1 : decode M_R_airs.2.1 1 = .ok (.istore_n 2, 1) := by decide +kernel
theorem d_R_airs_2 : decode M_R_airs.2.1 2 = .ok (.iconst 1, 1) := by decide +kernel
theorem d_R_airs_3 : decode M_R_airs.2.1 3 = .ok (.istore_n 3, 1) := by decide +kernel
theorem d_R_airs_4 : decode M_R_airs.2.1 4 = .ok (.iload_n 3, 1) := by decide +kernel
theorem d_R_airs_5 : decode M_R_airs.2.1 5 = .ok (.bipush 26, 2) := by decide +kernel
theorem d_R_airs_7 : decode M_R_airs.2.1 7 = .ok (.if_icmp .gt 64, 3) := by decide +kernel
theorem d_R_airs_10 : decode M_R_airs.2.1 10 = .ok (.iconst 0, 1) := by decide +kernel
theorem d_R_airs_11 : decode M_R_airs.2.1 11 = .ok (.istore 4, 2) := by decide +kernel
theorem d_R_airs_13 : decode M_R_airs.2.1 13 = .ok (.iload 4, 2) := by decide +kernel
theorem d_R_airs_15 : decode M_R_airs.2.1 15 = .ok (.aload_n 1, 1) := by decide +kernel
theorem d_R_airs_16 : decode M_R_airs.2.1 16 = .ok (.iconst 3, 1) := by decide +kernel
theorem d_R_airs_17 : decode M_R_airs.2.1 17 = .ok (.iaload, 1) := by decide +kernel
theorem d_R_airs_18 : decode M_R_airs.2.1 18 = .ok (.if_icmp .ge 47, 3) := by decide +kernel
theorem d_R_airs_21 : decode M_R_airs.2.1 21 = .ok (.aload_n 1, 1) := by decide +kernel
theorem d_R_airs_22 : decode M_R_airs.2.1 22 = .ok (.iload 4, 2) := by decide +kernel
theorem d_R_airs_24 : decode M_R_airs.2.1 24 = .ok (.iconst 5, 1) := by decide +kernel
theorem d_R_airs_25 : decode M_R_airs.2.1 25 = .ok (.invokestatic 180, 3) := by decide +kernel
theorem d_R_airs_28 : decode M_R_airs.2.1 28 = .ok (.iaload, 1) := by decide +kernel
theorem d_R_airs_29 : decode M_R_airs.2.1 29 = .ok (.iconst 1, 1) := by decide +kernel
theorem d_R_airs_30 : decode M_R_airs.2.1 30 = .ok (.if_icmp .eq 29, 3) := by decide +kernel
theorem d_R_airs_33 : decode M_R_airs.2.1 33 = .ok (.aload_n 1, 1) := by decide +kernel
theorem d_R_airs_34 : decode M_R_airs.2.1 34 = .ok (.iload 4, 2) := by decide +kernel
theorem d_R_airs_36 : decode M_R_airs.2.1 36 = .ok (.iconst 0, 1) := by decide +kernel
theorem d_R_airs_37 : decode M_R_airs.2.1 37 = .ok (.invokestatic 180, 3) := by decide +kernel
theorem d_R_airs_40 : decode M_R_airs.2.1 40 = .ok (.iaload, 1) := by decide +kernel
theorem d_R_airs_41 : decode M_R_airs.2.1 41 = .ok (.iload_n 3, 1) := by decide +kernel
theorem d_R_airs_42 : decode M_R_airs.2.1 42 = .ok (.if_icmp .eq 6, 3) := by decide +kernel
theorem d_R_airs_45 : decode M_R_airs.2.1 45 = .ok (.goto 14, 3) := by decide +kernel
theorem d_R_airs_48 : decode M_R_airs.2.1 48 = .ok (.aload_n 0, 1) := by decide +kernel
theorem d_R_airs_49 : decode M_R_airs.2.1 49 = .ok (.getfield 68, 3) := by decide +kernel
theorem d_R_airs_52 : decode M_R_airs.2.1 52 = .ok (.iload_n 2, 1) := by decide +kernel
theorem d_R_airs_53 : decode M_R_airs.2.1 53 = .ok (.iload 4, 2) := by decide +kernel
theorem d_R_airs_55 : decode M_R_airs.2.1 55 = .ok (.iastore, 1) := by decide +kernel
theorem d_R_airs_56 : decode M_R_airs.2.1 56 = .ok (.iinc 2 1, 3) := by decide +kernel
theorem d_R_airs_59 : decode M_R_airs.2.1 59 = .ok (.iinc 4 1, 3) := by decide +kernel
theorem d_R_airs_62 : decode M_R_airs.2.1 62 = .ok (.goto (-49), 3) := by decide +kernel
theorem d_R_airs_65 : decode M_R_airs.2.1 65 = .ok (.iinc 3 1, 3) := by decide +kernel
theorem d_R_airs_68 : decode M_R_airs.2.1 68 = .ok (.goto (-64), 3) := by decide +kernel
theorem d_R_airs_71 : decode M_R_airs.2.1 71 = .ok (.iload_n 2, 1) := by decide +kernel
theorem d_R_airs_72 : decode M_R_airs.2.1 72 = .ok (.ireturn, 1) := by decide +kernel
theorem d_R_goes_0 : decode M_R_goes.2.1 0 = .ok (.iload_n 3, 1) := by decide +kernel
theorem d_R_goes_1 : decode M_R_goes.2.1 1 = .ok (.ifCond .ge 13, 3) := by decide +kernel
theorem d_R_goes_4 : decode M_R_goes.2.1 4 = .ok (.aload_n 1, 1) := by decide +kernel
theorem d_R_goes_5 : decode M_R_goes.2.1 5 = .ok (.iload_n 2, 1) := by decide +kernel
theorem d_R_goes_6 : decode M_R_goes.2.1 6 = .ok (.iconst 3, 1) := by decide +kernel
theorem d_R_goes_7 : decode M_R_goes.2.1 7 = .ok (.invokestatic 180, 3) := by decide +kernel
theorem d_R_goes_10 : decode M_R_goes.2.1 10 = .ok (.iaload, 1) := by decide +kernel
theorem d_R_goes_11 : decode M_R_goes.2.1 11 = .ok (.goto 16, 3) := by decide +kernel
theorem d_R_goes_14 : decode M_R_goes.2.1 14 = .ok (.aload_n 1, 1) := by decide +kernel
theorem d_R_goes_15 : decode M_R_goes.2.1 15 = .ok (.iload_n 2, 1) := by decide +kernel
theorem d_R_goes_16 : decode M_R_goes.2.1 16 = .ok (.iconst 3, 1) := by decide +kernel
theorem d_R_goes_17 : decode M_R_goes.2.1 17 = .ok (.invokestatic 180, 3) := by decide +kernel
theorem d_R_goes_20 : decode M_R_goes.2.1 20 = .ok (.iaload, 1) := by decide +kernel
theorem d_R_goes_21 : decode M_R_goes.2.1 21 = .ok (.iconst 1, 1) := by decide +kernel
theorem d_R_goes_22 : decode M_R_goes.2.1 22 = .ok (.iload_n 3, 1) := by decide +kernel
theorem d_R_goes_23 : decode M_R_goes.2.1 23 = .ok (.ishl, 1) := by decide +kernel
theorem d_R_goes_24 : decode M_R_goes.2.1 24 = .ok (.iconst (-1), 1) := by decide +kernel
theorem d_R_goes_25 : decode M_R_goes.2.1 25 = .ok (.ixor, 1) := by decide +kernel
theorem d_R_goes_26 : decode M_R_goes.2.1 26 = .ok (.iand, 1) := by decide +kernel
theorem d_R_goes_27 : decode M_R_goes.2.1 27 = .ok (.istore 4, 2) := by decide +kernel
theorem d_R_goes_29 : decode M_R_goes.2.1 29 = .ok (.aload_n 0, 1) := by decide +kernel
theorem d_R_goes_30 : decode M_R_goes.2.1 30 = .ok (.getfield 86, 3) := by decide +kernel
theorem d_R_goes_33 : decode M_R_goes.2.1 33 = .ok (.iload_n 2, 1) := by decide +kernel
theorem d_R_goes_34 : decode M_R_goes.2.1 34 = .ok (.aload_n 0, 1) := by decide +kernel
theorem d_R_goes_35 : decode M_R_goes.2.1 35 = .ok (.getfield 210, 3) := by decide +kernel
theorem d_R_goes_38 : decode M_R_goes.2.1 38 = .ok (.iastore, 1) := by decide +kernel
theorem d_R_goes_39 : decode M_R_goes.2.1 39 = .ok (.iconst 0, 1) := by decide +kernel
theorem d_R_goes_40 : decode M_R_goes.2.1 40 = .ok (.istore 5, 2) := by decide +kernel
theorem d_R_goes_42 : decode M_R_goes.2.1 42 = .ok (.iload 5, 2) := by decide +kernel
theorem d_R_goes_44 : decode M_R_goes.2.1 44 = .ok (.bipush 12, 2) := by decide +kernel
theorem d_R_goes_46 : decode M_R_goes.2.1 46 = .ok (.if_icmp .ge 82, 3) := by decide +kernel
theorem d_R_goes_49 : decode M_R_goes.2.1 49 = .ok (.aload_n 0, 1) := by decide +kernel
theorem d_R_goes_50 : decode M_R_goes.2.1 50 = .ok (.getfield 89, 3) := by decide +kernel
theorem d_R_goes_53 : decode M_R_goes.2.1 53 = .ok (.bipush 12, 2) := by decide +kernel
theorem d_R_goes_55 : decode M_R_goes.2.1 55 = .ok (.iload_n 2, 1) := by decide +kernel
theorem d_R_goes_56 : decode M_R_goes.2.1 56 = .ok (.imul, 1) := by decide +kernel
theorem d_R_goes_57 : decode M_R_goes.2.1 57 = .ok (.iload 5, 2) := by decide +kernel
theorem d_R_goes_59 : decode M_R_goes.2.1 59 = .ok (.iadd, 1) := by decide +kernel
theorem d_R_goes_60 : decode M_R_goes.2.1 60 = .ok (.aload_n 0, 1) := by decide +kernel
theorem d_R_goes_61 : decode M_R_goes.2.1 61 = .ok (.getfield 80, 3) := by decide +kernel
theorem d_R_goes_64 : decode M_R_goes.2.1 64 = .ok (.iload 5, 2) := by decide +kernel
theorem d_R_goes_66 : decode M_R_goes.2.1 66 = .ok (.iaload, 1) := by decide +kernel
theorem d_R_goes_67 : decode M_R_goes.2.1 67 = .ok (.iastore, 1) := by decide +kernel
theorem d_R_goes_68 : decode M_R_goes.2.1 68 = .ok (.iconst 0, 1) := by decide +kernel
theorem d_R_goes_69 : decode M_R_goes.2.1 69 = .ok (.istore 6, 2) := by decide +kernel
theorem d_R_goes_71 : decode M_R_goes.2.1 71 = .ok (.iconst 0, 1) := by decide +kernel
theorem d_R_goes_72 : decode M_R_goes.2.1 72 = .ok (.istore 7, 2) := by decide +kernel
theorem d_R_goes_74 : decode M_R_goes.2.1 74 = .ok (.iload 7, 2) := by decide +kernel
theorem d_R_goes_76 : decode M_R_goes.2.1 76 = .ok (.bipush 24, 2) := by decide +kernel
theorem d_R_goes_78 : decode M_R_goes.2.1 78 = .ok (.if_icmp .ge 30, 3) := by decide +kernel
theorem d_R_goes_81 : decode M_R_goes.2.1 81 = .ok (.iload 6, 2) := by decide +kernel
theorem d_R_goes_83 : decode M_R_goes.2.1 83 = .ok (.aload_n 0, 1) := by decide +kernel
theorem d_R_goes_84 : decode M_R_goes.2.1 84 = .ok (.iload 5, 2) := by decide +kernel
theorem d_R_goes_86 : decode M_R_goes.2.1 86 = .ok (.iload 7, 2) := by decide +kernel
theorem d_R_goes_88 : decode M_R_goes.2.1 88 = .ok (.invokevirtual 216, 3) := by decide +kernel
theorem d_R_goes_91 : decode M_R_goes.2.1 91 = .ok (.ifCond .eq 7, 3) := by decide +kernel
theorem d_R_goes_94 : decode M_R_goes.2.1 94 = .ok (.iconst 1, 1) := by decide +kernel
theorem d_R_goes_95 : decode M_R_goes.2.1 95 = .ok (.goto 4, 3) := by decide +kernel
theorem d_R_goes_98 : decode M_R_goes.2.1 98 = .ok (.iconst 0, 1) := by decide +kernel
theorem d_R_goes_99 : decode M_R_goes.2.1 99 = .ok (.iadd, 1) := by decide +kernel
theorem d_R_goes_100 : decode M_R_goes.2.1 100 = .ok (.istore 6, 2) := by decide +kernel
theorem d_R_goes_102 : decode M_R_goes.2.1 102 = .ok (.iinc 7 1, 3) := by decide +kernel
theorem d_R_goes_105 : decode M_R_goes.2.1 105 = .ok (.goto (-31), 3) := by decide +kernel
theorem d_R_goes_108 : decode M_R_goes.2.1 108 = .ok (.aload_n 0, 1) := by decide +kernel
theorem d_R_goes_109 : decode M_R_goes.2.1 109 = .ok (.getfield 92, 3) := by decide +kernel
theorem d_R_goes_112 : decode M_R_goes.2.1 112 = .ok (.bipush 12, 2) := by decide +kernel
theorem d_R_goes_114 : decode M_R_goes.2.1 114 = .ok (.iload_n 2, 1) := by decide +kernel
theorem d_R_goes_115 : decode M_R_goes.2.1 115 = .ok (.imul, 1) := by decide +kernel
theorem d_R_goes_116 : decode M_R_goes.2.1 116 = .ok (.iload 5, 2) := by decide +kernel
theorem d_R_goes_118 : decode M_R_goes.2.1 118 = .ok (.iadd, 1) := by decide +kernel
theorem d_R_goes_119 : decode M_R_goes.2.1 119 = .ok (.iload 6, 2) := by decide +kernel
theorem d_R_goes_121 : decode M_R_goes.2.1 121 = .ok (.iastore, 1) := by decide +kernel
theorem d_R_goes_122 : decode M_R_goes.2.1 122 = .ok (.iinc 5 1, 3) := by decide +kernel
theorem d_R_goes_125 : decode M_R_goes.2.1 125 = .ok (.goto (-83), 3) := by decide +kernel
theorem d_R_goes_128 : decode M_R_goes.2.1 128 = .ok (.aload_n 1, 1) := by decide +kernel
theorem d_R_goes_129 : decode M_R_goes.2.1 129 = .ok (.iload_n 2, 1) := by decide +kernel
theorem d_R_goes_130 : decode M_R_goes.2.1 130 = .ok (.bipush 6, 2) := by decide +kernel
theorem d_R_goes_132 : decode M_R_goes.2.1 132 = .ok (.invokestatic 180, 3) := by decide +kernel
theorem d_R_goes_135 : decode M_R_goes.2.1 135 = .ok (.iaload, 1) := by decide +kernel
theorem d_R_goes_136 : decode M_R_goes.2.1 136 = .ok (.istore 5, 2) := by decide +kernel
theorem d_R_goes_138 : decode M_R_goes.2.1 138 = .ok (.iconst 0, 1) := by decide +kernel
theorem d_R_goes_139 : decode M_R_goes.2.1 139 = .ok (.istore 6, 2) := by decide +kernel
theorem d_R_goes_141 : decode M_R_goes.2.1 141 = .ok (.iload 6, 2) := by decide +kernel
theorem d_R_goes_143 : decode M_R_goes.2.1 143 = .ok (.bipush 12, 2) := by decide +kernel
theorem d_R_goes_145 : decode M_R_goes.2.1 145 = .ok (.if_icmp .ge 109, 3) := by decide +kernel
theorem d_R_goes_148 : decode M_R_goes.2.1 148 = .ok (.iload 4, 2) := by decide +kernel
theorem d_R_goes_150 : decode M_R_goes.2.1 150 = .ok (.aload_n 0, 1) := by decide +kernel
theorem d_R_goes_151 : decode M_R_goes.2.1 151 = .ok (.getfield 210, 3) := by decide +kernel
theorem d_R_goes_154 : decode M_R_goes.2.1 154 = .ok (.iand, 1) := by decide +kernel
theorem d_R_goes_155 : decode M_R_goes.2.1 155 = .ok (.iconst 1, 1) := by decide +kernel
theorem d_R_goes_156 : decode M_R_goes.2.1 156 = .ok (.iload 6, 2) := by decide +kernel
theorem d_R_goes_158 : decode M_R_goes.2.1 158 = .ok (.ishl, 1) := by decide +kernel
theorem d_R_goes_159 : decode M_R_goes.2.1 159 = .ok (.iand, 1) := by decide +kernel
theorem d_R_goes_160 : decode M_R_goes.2.1 160 = .ok (.ifCond .ne 6, 3) := by decide +kernel
theorem d_R_goes_163 : decode M_R_goes.2.1 163 = .ok (.goto 85, 3) := by decide +kernel
theorem d_R_goes_166 : decode M_R_goes.2.1 166 = .ok (.iconst 0, 1) := by decide +kernel
theorem d_R_goes_167 : decode M_R_goes.2.1 167 = .ok (.istore 7, 2) := by decide +kernel
theorem d_R_goes_169 : decode M_R_goes.2.1 169 = .ok (.iconst 0, 1) := by decide +kernel
theorem d_R_goes_170 : decode M_R_goes.2.1 170 = .ok (.istore 8, 2) := by decide +kernel
theorem d_R_goes_172 : decode M_R_goes.2.1 172 = .ok (.iload 8, 2) := by decide +kernel
theorem d_R_goes_174 : decode M_R_goes.2.1 174 = .ok (.iload 5, 2) := by decide +kernel
theorem d_R_goes_176 : decode M_R_goes.2.1 176 = .ok (.if_icmp .ge 58, 3) := by decide +kernel
theorem d_R_goes_179 : decode M_R_goes.2.1 179 = .ok (.iload 7, 2) := by decide +kernel
theorem d_R_goes_181 : decode M_R_goes.2.1 181 = .ok (.ifCond .ne 40, 3) := by decide +kernel
theorem d_R_goes_184 : decode M_R_goes.2.1 184 = .ok (.aload_n 1, 1) := by decide +kernel
theorem d_R_goes_185 : decode M_R_goes.2.1 185 = .ok (.iload_n 2, 1) := by decide +kernel
theorem d_R_goes_186 : decode M_R_goes.2.1 186 = .ok (.bipush 7, 2) := by decide +kernel
theorem d_R_goes_188 : decode M_R_goes.2.1 188 = .ok (.iconst 4, 1) := by decide +kernel
theorem d_R_goes_189 : decode M_R_goes.2.1 189 = .ok (.iload 8, 2) := by decide +kernel
theorem d_R_goes_191 : decode M_R_goes.2.1 191 = .ok (.imul, 1) := by decide +kernel
theorem d_R_goes_192 : decode M_R_goes.2.1 192 = .ok (.iadd, 1) := by decide +kernel
theorem d_R_goes_193 : decode M_R_goes.2.1 193 = .ok (.invokestatic 180, 3) := by decide +kernel
theorem d_R_goes_196 : decode M_R_goes.2.1 196 = .ok (.iaload, 1) := by decide +kernel
theorem d_R_goes_197 : decode M_R_goes.2.1 197 = .ok (.iconst 4, 1) := by decide +kernel
theorem d_R_goes_198 : decode M_R_goes.2.1 198 = .ok (.if_icmp .ne 27, 3) := by decide +kernel
theorem d_R_goes_201 : decode M_R_goes.2.1 201 = .ok (.aload_n 1, 1) := by decide +kernel
theorem d_R_goes_202 : decode M_R_goes.2.1 202 = .ok (.iload_n 2, 1) := by decide +kernel
theorem d_R_goes_203 : decode M_R_goes.2.1 203 = .ok (.bipush 7, 2) := by decide +kernel
theorem d_R_goes_205 : decode M_R_goes.2.1 205 = .ok (.iconst 4, 1) := by decide +kernel
theorem d_R_goes_206 : decode M_R_goes.2.1 206 = .ok (.iload 8, 2) := by decide +kernel
theorem d_R_goes_208 : decode M_R_goes.2.1 208 = .ok (.imul, 1) := by decide +kernel
theorem d_R_goes_209 : decode M_R_goes.2.1 209 = .ok (.iadd, 1) := by decide +kernel
theorem d_R_goes_210 : decode M_R_goes.2.1 210 = .ok (.iconst 1, 1) := by decide +kernel
theorem d_R_goes_211 : decode M_R_goes.2.1 211 = .ok (.iadd, 1) := by decide +kernel
theorem d_R_goes_212 : decode M_R_goes.2.1 212 = .ok (.invokestatic 180, 3) := by decide +kernel
theorem d_R_goes_215 : decode M_R_goes.2.1 215 = .ok (.iaload, 1) := by decide +kernel
theorem d_R_goes_216 : decode M_R_goes.2.1 216 = .ok (.iload 6, 2) := by decide +kernel
theorem d_R_goes_218 : decode M_R_goes.2.1 218 = .ok (.if_icmp .ne 7, 3) := by decide +kernel
theorem d_R_goes_221 : decode M_R_goes.2.1 221 = .ok (.iconst 1, 1) := by decide +kernel
theorem d_R_goes_222 : decode M_R_goes.2.1 222 = .ok (.goto 4, 3) := by decide +kernel
theorem d_R_goes_225 : decode M_R_goes.2.1 225 = .ok (.iconst 0, 1) := by decide +kernel
theorem d_R_goes_226 : decode M_R_goes.2.1 226 = .ok (.istore 7, 2) := by decide +kernel
theorem d_R_goes_228 : decode M_R_goes.2.1 228 = .ok (.iinc 8 1, 3) := by decide +kernel
theorem d_R_goes_231 : decode M_R_goes.2.1 231 = .ok (.goto (-59), 3) := by decide +kernel
theorem d_R_goes_234 : decode M_R_goes.2.1 234 = .ok (.iload 7, 2) := by decide +kernel
theorem d_R_goes_236 : decode M_R_goes.2.1 236 = .ok (.ifCond .ne 12, 3) := by decide +kernel
theorem d_R_goes_239 : decode M_R_goes.2.1 239 = .ok (.aload_n 0, 1) := by decide +kernel
theorem d_R_goes_240 : decode M_R_goes.2.1 240 = .ok (.iload_n 2, 1) := by decide +kernel
theorem d_R_goes_241 : decode M_R_goes.2.1 241 = .ok (.iconst (-1), 1) := by decide +kernel
theorem d_R_goes_242 : decode M_R_goes.2.1 242 = .ok (.iconst 1, 1) := by decide +kernel
theorem d_R_goes_243 : decode M_R_goes.2.1 243 = .ok (.iload 6, 2) := by decide +kernel
theorem d_R_goes_245 : decode M_R_goes.2.1 245 = .ok (.invokevirtual 220, 3) := by decide +kernel
theorem d_R_goes_248 : decode M_R_goes.2.1 248 = .ok (.iinc 6 1, 3) := by decide +kernel
theorem d_R_goes_251 : decode M_R_goes.2.1 251 = .ok (.goto (-110), 3) := by decide +kernel
theorem d_R_goes_254 : decode M_R_goes.2.1 254 = .ok (.iconst 0, 1) := by decide +kernel
theorem d_R_goes_255 : decode M_R_goes.2.1 255 = .ok (.istore 6, 2) := by decide +kernel
theorem d_R_goes_257 : decode M_R_goes.2.1 257 = .ok (.iload 6, 2) := by decide +kernel
theorem d_R_goes_259 : decode M_R_goes.2.1 259 = .ok (.iload 5, 2) := by decide +kernel
theorem d_R_goes_261 : decode M_R_goes.2.1 261 = .ok (.if_icmp .ge 141, 3) := by decide +kernel
theorem d_R_goes_264 : decode M_R_goes.2.1 264 = .ok (.iload_n 2, 1) := by decide +kernel
theorem d_R_goes_265 : decode M_R_goes.2.1 265 = .ok (.bipush 7, 2) := by decide +kernel
theorem d_R_goes_267 : decode M_R_goes.2.1 267 = .ok (.iconst 4, 1) := by decide +kernel
theorem d_R_goes_268 : decode M_R_goes.2.1 268 = .ok (.iload 6, 2) := by decide +kernel
theorem d_R_goes_270 : decode M_R_goes.2.1 270 = .ok (.imul, 1) := by decide +kernel
theorem d_R_goes_271 : decode M_R_goes.2.1 271 = .ok (.iadd, 1) := by decide +kernel
theorem d_R_goes_272 : decode M_R_goes.2.1 272 = .ok (.invokestatic 180, 3) := by decide +kernel
theorem d_R_goes_275 : decode M_R_goes.2.1 275 = .ok (.istore 7, 2) := by decide +kernel
theorem d_R_goes_277 : decode M_R_goes.2.1 277 = .ok (.iload_n 3, 1) := by decide +kernel
theorem d_R_goes_278 : decode M_R_goes.2.1 278 = .ok (.ifCond .lt 34, 3) := by decide +kernel
theorem d_R_goes_281 : decode M_R_goes.2.1 281 = .ok (.aload_n 1, 1) := by decide +kernel
theorem d_R_goes_282 : decode M_R_goes.2.1 282 = .ok (.iload 7, 2) := by decide +kernel
theorem d_R_goes_284 : decode M_R_goes.2.1 284 = .ok (.iconst 1, 1) := by decide +kernel
theorem d_R_goes_285 : decode M_R_goes.2.1 285 = .ok (.iadd, 1) := by decide +kernel
theorem d_R_goes_286 : decode M_R_goes.2.1 286 = .ok (.iaload, 1) := by decide +kernel
theorem d_R_goes_287 : decode M_R_goes.2.1 287 = .ok (.iload_n 3, 1) := by decide +kernel
theorem d_R_goes_288 : decode M_R_goes.2.1 288 = .ok (.if_icmp .eq 108, 3) := by decide +kernel
theorem d_R_goes_291 : decode M_R_goes.2.1 291 = .ok (.aload_n 1, 1) := by decide +kernel
theorem d_R_goes_292 : decode M_R_goes.2.1 292 = .ok (.iload 7, 2) := by decide +kernel
theorem d_R_goes_294 : decode M_R_goes.2.1 294 = .ok (.iaload, 1) := by decide +kernel
theorem d_R_goes_295 : decode M_R_goes.2.1 295 = .ok (.iconst 1, 1) := by decide +kernel
theorem d_R_goes_296 : decode M_R_goes.2.1 296 = .ok (.if_icmp .ne 16, 3) := by decide +kernel
theorem d_R_goes_299 : decode M_R_goes.2.1 299 = .ok (.aload_n 1, 1) := by decide +kernel
theorem d_R_goes_300 : decode M_R_goes.2.1 300 = .ok (.iload 7, 2) := by decide +kernel
theorem d_R_goes_302 : decode M_R_goes.2.1 302 = .ok (.iconst 3, 1) := by decide +kernel
theorem d_R_goes_303 : decode M_R_goes.2.1 303 = .ok (.iadd, 1) := by decide +kernel
theorem d_R_goes_304 : decode M_R_goes.2.1 304 = .ok (.iaload, 1) := by decide +kernel
theorem d_R_goes_305 : decode M_R_goes.2.1 305 = .ok (.iload_n 3, 1) := by decide +kernel
theorem d_R_goes_306 : decode M_R_goes.2.1 306 = .ok (.if_icmp .ne 6, 3) := by decide +kernel
theorem d_R_goes_309 : decode M_R_goes.2.1 309 = .ok (.goto 87, 3) := by decide +kernel
theorem d_R_goes_312 : decode M_R_goes.2.1 312 = .ok (.aload_n 0, 1) := by decide +kernel
theorem d_R_goes_313 : decode M_R_goes.2.1 313 = .ok (.aload_n 1, 1) := by decide +kernel
theorem d_R_goes_314 : decode M_R_goes.2.1 314 = .ok (.iload_n 2, 1) := by decide +kernel
theorem d_R_goes_315 : decode M_R_goes.2.1 315 = .ok (.iload 4, 2) := by decide +kernel
theorem d_R_goes_317 : decode M_R_goes.2.1 317 = .ok (.aload_n 1, 1) := by decide +kernel
theorem d_R_goes_318 : decode M_R_goes.2.1 318 = .ok (.iload 7, 2) := by decide +kernel
theorem d_R_goes_320 : decode M_R_goes.2.1 320 = .ok (.iaload, 1) := by decide +kernel
theorem d_R_goes_321 : decode M_R_goes.2.1 321 = .ok (.aload_n 1, 1) := by decide +kernel
theorem d_R_goes_322 : decode M_R_goes.2.1 322 = .ok (.iload 7, 2) := by decide +kernel
theorem d_R_goes_324 : decode M_R_goes.2.1 324 = .ok (.iconst 1, 1) := by decide +kernel
theorem d_R_goes_325 : decode M_R_goes.2.1 325 = .ok (.iadd, 1) := by decide +kernel
theorem d_R_goes_326 : decode M_R_goes.2.1 326 = .ok (.iaload, 1) := by decide +kernel
theorem d_R_goes_327 : decode M_R_goes.2.1 327 = .ok (.aload_n 1, 1) := by decide +kernel
theorem d_R_goes_328 : decode M_R_goes.2.1 328 = .ok (.iload 7, 2) := by decide +kernel
theorem d_R_goes_330 : decode M_R_goes.2.1 330 = .ok (.iconst 2, 1) := by decide +kernel
theorem d_R_goes_331 : decode M_R_goes.2.1 331 = .ok (.iadd, 1) := by decide +kernel
theorem d_R_goes_332 : decode M_R_goes.2.1 332 = .ok (.iaload, 1) := by decide +kernel
theorem d_R_goes_333 : decode M_R_goes.2.1 333 = .ok (.aload_n 1, 1) := by decide +kernel
theorem d_R_goes_334 : decode M_R_goes.2.1 334 = .ok (.iload 7, 2) := by decide +kernel
theorem d_R_goes_336 : decode M_R_goes.2.1 336 = .ok (.iconst 3, 1) := by decide +kernel
theorem d_R_goes_337 : decode M_R_goes.2.1 337 = .ok (.iadd, 1) := by decide +kernel
theorem d_R_goes_338 : decode M_R_goes.2.1 338 = .ok (.iaload, 1) := by decide +kernel
theorem d_R_goes_339 : decode M_R_goes.2.1 339 = .ok (.invokevirtual 224, 3) := by decide +kernel
theorem d_R_goes_342 : decode M_R_goes.2.1 342 = .ok (.istore 8, 2) := by decide +kernel
theorem d_R_goes_344 : decode M_R_goes.2.1 344 = .ok (.iload 8, 2) := by decide +kernel
theorem d_R_goes_346 : decode M_R_goes.2.1 346 = .ok (.ifCond .le 21, 3) := by decide +kernel
theorem d_R_goes_349 : decode M_R_goes.2.1 349 = .ok (.aload_n 0, 1) := by decide +kernel
theorem d_R_goes_350 : decode M_R_goes.2.1 350 = .ok (.iload_n 2, 1) := by decide +kernel
theorem d_R_goes_351 : decode M_R_goes.2.1 351 = .ok (.iload 6, 2) := by decide +kernel
theorem d_R_goes_353 : decode M_R_goes.2.1 353 = .ok (.iload 8, 2) := by decide +kernel
theorem d_R_goes_355 : decode M_R_goes.2.1 355 = .ok (.aload_n 1, 1) := by decide +kernel
theorem d_R_goes_356 : decode M_R_goes.2.1 356 = .ok (.iload 7, 2) := by decide +kernel
theorem d_R_goes_358 : decode M_R_goes.2.1 358 = .ok (.iconst 1, 1) := by decide +kernel
theorem d_R_goes_359 : decode M_R_goes.2.1 359 = .ok (.iadd, 1) := by decide +kernel
theorem d_R_goes_360 : decode M_R_goes.2.1 360 = .ok (.iaload, 1) := by decide +kernel
theorem d_R_goes_361 : decode M_R_goes.2.1 361 = .ok (.invokevirtual 220, 3) := by decide +kernel
theorem d_R_goes_364 : decode M_R_goes.2.1 364 = .ok (.goto 32, 3) := by decide +kernel
theorem d_R_goes_367 : decode M_R_goes.2.1 367 = .ok (.aload_n 0, 1) := by decide +kernel
theorem d_R_goes_368 : decode M_R_goes.2.1 368 = .ok (.iload_n 2, 1) := by decide +kernel
theorem d_R_goes_369 : decode M_R_goes.2.1 369 = .ok (.iload 6, 2) := by decide +kernel
theorem d_R_goes_371 : decode M_R_goes.2.1 371 = .ok (.aload_n 1, 1) := by decide +kernel
theorem d_R_goes_372 : decode M_R_goes.2.1 372 = .ok (.iload 7, 2) := by decide +kernel
theorem d_R_goes_374 : decode M_R_goes.2.1 374 = .ok (.iaload, 1) := by decide +kernel
theorem d_R_goes_375 : decode M_R_goes.2.1 375 = .ok (.aload_n 1, 1) := by decide +kernel
theorem d_R_goes_376 : decode M_R_goes.2.1 376 = .ok (.iload 7, 2) := by decide +kernel
theorem d_R_goes_378 : decode M_R_goes.2.1 378 = .ok (.iconst 1, 1) := by decide +kernel
theorem d_R_goes_379 : decode M_R_goes.2.1 379 = .ok (.iadd, 1) := by decide +kernel
theorem d_R_goes_380 : decode M_R_goes.2.1 380 = .ok (.iaload, 1) := by decide +kernel
theorem d_R_goes_381 : decode M_R_goes.2.1 381 = .ok (.aload_n 1, 1) := by decide +kernel
theorem d_R_goes_382 : decode M_R_goes.2.1 382 = .ok (.iload 7, 2) := by decide +kernel
theorem d_R_goes_384 : decode M_R_goes.2.1 384 = .ok (.iconst 2, 1) := by decide +kernel
theorem d_R_goes_385 : decode M_R_goes.2.1 385 = .ok (.iadd, 1) := by decide +kernel
theorem d_R_goes_386 : decode M_R_goes.2.1 386 = .ok (.iaload, 1) := by decide +kernel
theorem d_R_goes_387 : decode M_R_goes.2.1 387 = .ok (.aload_n 1, 1) := by decide +kernel
theorem d_R_goes_388 : decode M_R_goes.2.1 388 = .ok (.iload 7, 2) := by decide +kernel
theorem d_R_goes_390 : decode M_R_goes.2.1 390 = .ok (.iconst 3, 1) := by decide +kernel
theorem d_R_goes_391 : decode M_R_goes.2.1 391 = .ok (.iadd, 1) := by decide +kernel
theorem d_R_goes_392 : decode M_R_goes.2.1 392 = .ok (.iaload, 1) := by decide +kernel
theorem d_R_goes_393 : decode M_R_goes.2.1 393 = .ok (.invokevirtual 228, 3) := by decide +kernel
theorem d_R_goes_396 : decode M_R_goes.2.1 396 = .ok (.iinc 6 1, 3) := by decide +kernel
theorem d_R_goes_399 : decode M_R_goes.2.1 399 = .ok (.goto (-142), 3) := by decide +kernel
theorem d_R_goes_402 : decode M_R_goes.2.1 402 = .ok (.return_, 1) := by decide +kernel
theorem d_R_knows_0 : decode M_R_knows.2.1 0 = .ok (.aload_n 0, 1) := by decide +kernel
theorem d_R_knows_1 : decode M_R_knows.2.1 1 = .ok (.getfield 71, 3) := by decide +kernel
theorem d_R_knows_4 : decode M_R_knows.2.1 4 = .ok (.bipush 24, 2) := by decide +kernel
theorem d_R_knows_6 : decode M_R_knows.2.1 6 = .ok (.iload_n 1, 1) := by decide +kernel
theorem d_R_knows_7 : decode M_R_knows.2.1 7 = .ok (.imul, 1) := by decide +kernel
theorem d_R_knows_8 : decode M_R_knows.2.1 8 = .ok (.iload_n 2, 1) := by decide +kernel
theorem d_R_knows_9 : decode M_R_knows.2.1 9 = .ok (.iadd, 1) := by decide +kernel
theorem d_R_knows_10 : decode M_R_knows.2.1 10 = .ok (.iaload, 1) := by decide +kernel
theorem d_R_knows_11 : decode M_R_knows.2.1 11 = .ok (.bipush (-3), 2) := by decide +kernel
theorem d_R_knows_13 : decode M_R_knows.2.1 13 = .ok (.if_icmp .eq 7, 3) := by decide +kernel
theorem d_R_knows_16 : decode M_R_knows.2.1 16 = .ok (.iconst 1, 1) := by decide +kernel
theorem d_R_knows_17 : decode M_R_knows.2.1 17 = .ok (.goto 4, 3) := by decide +kernel
theorem d_R_knows_20 : decode M_R_knows.2.1 20 = .ok (.iconst 0, 1) := by decide +kernel
theorem d_R_knows_21 : decode M_R_knows.2.1 21 = .ok (.ireturn, 1) := by decide +kernel
theorem d_R_notes_0 : decode M_R_notes.2.1 0 = .ok (.aload_n 0, 1) := by decide +kernel
theorem d_R_notes_1 : decode M_R_notes.2.1 1 = .ok (.getfield 95, 3) := by decide +kernel
theorem d_R_notes_4 : decode M_R_notes.2.1 4 = .ok (.aload_n 0, 1) := by decide +kernel
theorem d_R_notes_5 : decode M_R_notes.2.1 5 = .ok (.getfield 200, 3) := by decide +kernel
theorem d_R_notes_8 : decode M_R_notes.2.1 8 = .ok (.iload_n 1, 1) := by decide +kernel
theorem d_R_notes_9 : decode M_R_notes.2.1 9 = .ok (.iastore, 1) := by decide +kernel
theorem d_R_notes_10 : decode M_R_notes.2.1 10 = .ok (.aload_n 0, 1) := by decide +kernel
theorem d_R_notes_11 : decode M_R_notes.2.1 11 = .ok (.getfield 98, 3) := by decide +kernel
theorem d_R_notes_14 : decode M_R_notes.2.1 14 = .ok (.aload_n 0, 1) := by decide +kernel
theorem d_R_notes_15 : decode M_R_notes.2.1 15 = .ok (.getfield 200, 3) := by decide +kernel
theorem d_R_notes_18 : decode M_R_notes.2.1 18 = .ok (.iload_n 2, 1) := by decide +kernel
theorem d_R_notes_19 : decode M_R_notes.2.1 19 = .ok (.iastore, 1) := by decide +kernel
theorem d_R_notes_20 : decode M_R_notes.2.1 20 = .ok (.aload_n 0, 1) := by decide +kernel
theorem d_R_notes_21 : decode M_R_notes.2.1 21 = .ok (.getfield 101, 3) := by decide +kernel
theorem d_R_notes_24 : decode M_R_notes.2.1 24 = .ok (.aload_n 0, 1) := by decide +kernel
theorem d_R_notes_25 : decode M_R_notes.2.1 25 = .ok (.getfield 200, 3) := by decide +kernel
theorem d_R_notes_28 : decode M_R_notes.2.1 28 = .ok (.iload_n 3, 1) := by decide +kernel
theorem d_R_notes_29 : decode M_R_notes.2.1 29 = .ok (.iastore, 1) := by decide +kernel
theorem d_R_notes_30 : decode M_R_notes.2.1 30 = .ok (.aload_n 0, 1) := by decide +kernel
theorem d_R_notes_31 : decode M_R_notes.2.1 31 = .ok (.getfield 104, 3) := by decide +kernel
theorem d_R_notes_34 : decode M_R_notes.2.1 34 = .ok (.aload_n 0, 1) := by decide +kernel
theorem d_R_notes_35 : decode M_R_notes.2.1 35 = .ok (.getfield 200, 3) := by decide +kernel
theorem d_R_notes_38 : decode M_R_notes.2.1 38 = .ok (.iload 4, 2) := by decide +kernel
theorem d_R_notes_40 : decode M_R_notes.2.1 40 = .ok (.iastore, 1) := by decide +kernel
theorem d_R_notes_41 : decode M_R_notes.2.1 41 = .ok (.aload_n 0, 1) := by decide +kernel
theorem d_R_notes_42 : decode M_R_notes.2.1 42 = .ok (.dup, 1) := by decide +kernel
theorem d_R_notes_43 : decode M_R_notes.2.1 43 = .ok (.getfield 200, 3) := by decide +kernel
theorem d_R_notes_46 : decode M_R_notes.2.1 46 = .ok (.iconst 1, 1) := by decide +kernel
theorem d_R_notes_47 : decode M_R_notes.2.1 47 = .ok (.iadd, 1) := by decide +kernel
theorem d_R_notes_48 : decode M_R_notes.2.1 48 = .ok (.putfield 200, 3) := by decide +kernel
theorem d_R_notes_51 : decode M_R_notes.2.1 51 = .ok (.return_, 1) := by decide +kernel
theorem d_R_wrong_0 : decode M_R_wrong.2.1 0 = .ok (.iconst 1, 1) := by decide +kernel
theorem d_R_wrong_1 : decode M_R_wrong.2.1 1 = .ok (.iload 5, 2) := by decide +kernel
theorem d_R_wrong_3 : decode M_R_wrong.2.1 3 = .ok (.ishl, 1) := by decide +kernel
theorem d_R_wrong_4 : decode M_R_wrong.2.1 4 = .ok (.iload 4, 2) := by decide +kernel
theorem d_R_wrong_6 : decode M_R_wrong.2.1 6 = .ok (.iconst 1, 1) := by decide +kernel
theorem d_R_wrong_7 : decode M_R_wrong.2.1 7 = .ok (.if_icmp .ne 10, 3) := by decide +kernel
theorem d_R_wrong_10 : decode M_R_wrong.2.1 10 = .ok (.iconst 1, 1) := by decide +kernel
theorem d_R_wrong_11 : decode M_R_wrong.2.1 11 = .ok (.iload 7, 2) := by decide +kernel
theorem d_R_wrong_13 : decode M_R_wrong.2.1 13 = .ok (.ishl, 1) := by decide +kernel
theorem d_R_wrong_14 : decode M_R_wrong.2.1 14 = .ok (.goto 4, 3) := by decide +kernel
theorem d_R_wrong_17 : decode M_R_wrong.2.1 17 = .ok (.iconst 0, 1) := by decide +kernel
theorem d_R_wrong_18 : decode M_R_wrong.2.1 18 = .ok (.ior, 1) := by decide +kernel
theorem d_R_wrong_19 : decode M_R_wrong.2.1 19 = .ok (.istore 8, 2) := by decide +kernel
theorem d_R_wrong_21 : decode M_R_wrong.2.1 21 = .ok (.iload 8, 2) := by decide +kernel
theorem d_R_wrong_23 : decode M_R_wrong.2.1 23 = .ok (.iload_n 3, 1) := by decide +kernel
theorem d_R_wrong_24 : decode M_R_wrong.2.1 24 = .ok (.iconst (-1), 1) := by decide +kernel
theorem d_R_wrong_25 : decode M_R_wrong.2.1 25 = .ok (.ixor, 1) := by decide +kernel
theorem d_R_wrong_26 : decode M_R_wrong.2.1 26 = .ok (.iand, 1) := by decide +kernel
theorem d_R_wrong_27 : decode M_R_wrong.2.1 27 = .ok (.ifCond .eq 5, 3) := by decide +kernel
theorem d_R_wrong_30 : decode M_R_wrong.2.1 30 = .ok (.iconst 2, 1) := by decide +kernel
theorem d_R_wrong_31 : decode M_R_wrong.2.1 31 = .ok (.ireturn, 1) := by decide +kernel
theorem d_R_wrong_32 : decode M_R_wrong.2.1 32 = .ok (.iload 4, 2) := by decide +kernel
theorem d_R_wrong_34 : decode M_R_wrong.2.1 34 = .ok (.iconst 4, 1) := by decide +kernel
theorem d_R_wrong_35 : decode M_R_wrong.2.1 35 = .ok (.if_icmp .eq 15, 3) := by decide +kernel
theorem d_R_wrong_38 : decode M_R_wrong.2.1 38 = .ok (.iload 8, 2) := by decide +kernel
theorem d_R_wrong_40 : decode M_R_wrong.2.1 40 = .ok (.aload_n 0, 1) := by decide +kernel
theorem d_R_wrong_41 : decode M_R_wrong.2.1 41 = .ok (.getfield 210, 3) := by decide +kernel
theorem d_R_wrong_44 : decode M_R_wrong.2.1 44 = .ok (.iand, 1) := by decide +kernel
theorem d_R_wrong_45 : decode M_R_wrong.2.1 45 = .ok (.ifCond .eq 5, 3) := by decide +kernel
theorem d_R_wrong_48 : decode M_R_wrong.2.1 48 = .ok (.iconst 1, 1) := by decide +kernel
theorem d_R_wrong_49 : decode M_R_wrong.2.1 49 = .ok (.ireturn, 1) := by decide +kernel
theorem d_R_wrong_50 : decode M_R_wrong.2.1 50 = .ok (.iload 4, 2) := by decide +kernel
theorem d_R_wrong_52 : decode M_R_wrong.2.1 52 = .ok (.iconst 4, 1) := by decide +kernel
theorem d_R_wrong_53 : decode M_R_wrong.2.1 53 = .ok (.if_icmp .ne 18, 3) := by decide +kernel
theorem d_R_wrong_56 : decode M_R_wrong.2.1 56 = .ok (.aload_n 0, 1) := by decide +kernel
theorem d_R_wrong_57 : decode M_R_wrong.2.1 57 = .ok (.getfield 210, 3) := by decide +kernel
theorem d_R_wrong_60 : decode M_R_wrong.2.1 60 = .ok (.iload 5, 2) := by decide +kernel
theorem d_R_wrong_62 : decode M_R_wrong.2.1 62 = .ok (.ishr, 1) := by decide +kernel
theorem d_R_wrong_63 : decode M_R_wrong.2.1 63 = .ok (.iconst 1, 1) := by decide +kernel
theorem d_R_wrong_64 : decode M_R_wrong.2.1 64 = .ok (.iand, 1) := by decide +kernel
theorem d_R_wrong_65 : decode M_R_wrong.2.1 65 = .ok (.ifCond .ne 6, 3) := by decide +kernel
theorem d_R_wrong_68 : decode M_R_wrong.2.1 68 = .ok (.bipush 6, 2) := by decide +kernel
theorem d_R_wrong_70 : decode M_R_wrong.2.1 70 = .ok (.ireturn, 1) := by decide +kernel
theorem d_R_wrong_71 : decode M_R_wrong.2.1 71 = .ok (.iload 4, 2) := by decide +kernel
theorem d_R_wrong_73 : decode M_R_wrong.2.1 73 = .ok (.iconst 4, 1) := by decide +kernel
theorem d_R_wrong_74 : decode M_R_wrong.2.1 74 = .ok (.if_icmp .ne 22, 3) := by decide +kernel
theorem d_R_wrong_77 : decode M_R_wrong.2.1 77 = .ok (.aload_n 0, 1) := by decide +kernel
theorem d_R_wrong_78 : decode M_R_wrong.2.1 78 = .ok (.aload_n 1, 1) := by decide +kernel
theorem d_R_wrong_79 : decode M_R_wrong.2.1 79 = .ok (.iload 5, 2) := by decide +kernel
theorem d_R_wrong_81 : decode M_R_wrong.2.1 81 = .ok (.aload_n 1, 1) := by decide +kernel
theorem d_R_wrong_82 : decode M_R_wrong.2.1 82 = .ok (.iload_n 2, 1) := by decide +kernel
theorem d_R_wrong_83 : decode M_R_wrong.2.1 83 = .ok (.iconst 0, 1) := by decide +kernel
theorem d_R_wrong_84 : decode M_R_wrong.2.1 84 = .ok (.invokestatic 180, 3) := by decide +kernel
theorem d_R_wrong_87 : decode M_R_wrong.2.1 87 = .ok (.iaload, 1) := by decide +kernel
theorem d_R_wrong_88 : decode M_R_wrong.2.1 88 = .ok (.invokevirtual 232, 3) := by decide +kernel
theorem d_R_wrong_91 : decode M_R_wrong.2.1 91 = .ok (.ifCond .ne 5, 3) := by decide +kernel
theorem d_R_wrong_94 : decode M_R_wrong.2.1 94 = .ok (.iconst 5, 1) := by decide +kernel
theorem d_R_wrong_95 : decode M_R_wrong.2.1 95 = .ok (.ireturn, 1) := by decide +kernel
theorem d_R_wrong_96 : decode M_R_wrong.2.1 96 = .ok (.iload 4, 2) := by decide +kernel
theorem d_R_wrong_98 : decode M_R_wrong.2.1 98 = .ok (.iconst 1, 1) := by decide +kernel
theorem d_R_wrong_99 : decode M_R_wrong.2.1 99 = .ok (.if_icmp .eq 9, 3) := by decide +kernel
theorem d_R_wrong_102 : decode M_R_wrong.2.1 102 = .ok (.iload 4, 2) := by decide +kernel
theorem d_R_wrong_104 : decode M_R_wrong.2.1 104 = .ok (.iconst 2, 1) := by decide +kernel
theorem d_R_wrong_105 : decode M_R_wrong.2.1 105 = .ok (.if_icmp .ne 16, 3) := by decide +kernel
theorem d_R_wrong_108 : decode M_R_wrong.2.1 108 = .ok (.aload_n 0, 1) := by decide +kernel
theorem d_R_wrong_109 : decode M_R_wrong.2.1 109 = .ok (.iload 5, 2) := by decide +kernel
theorem d_R_wrong_111 : decode M_R_wrong.2.1 111 = .ok (.iload 6, 2) := by decide +kernel
theorem d_R_wrong_113 : decode M_R_wrong.2.1 113 = .ok (.invokevirtual 216, 3) := by decide +kernel
theorem d_R_wrong_116 : decode M_R_wrong.2.1 116 = .ok (.ifCond .ne 5, 3) := by decide +kernel
theorem d_R_wrong_119 : decode M_R_wrong.2.1 119 = .ok (.iconst 3, 1) := by decide +kernel
theorem d_R_wrong_120 : decode M_R_wrong.2.1 120 = .ok (.ireturn, 1) := by decide +kernel
theorem d_R_wrong_121 : decode M_R_wrong.2.1 121 = .ok (.iload 4, 2) := by decide +kernel
theorem d_R_wrong_123 : decode M_R_wrong.2.1 123 = .ok (.ifCond .ne 14, 3) := by decide +kernel
theorem d_R_wrong_126 : decode M_R_wrong.2.1 126 = .ok (.aload_n 0, 1) := by decide +kernel
theorem d_R_wrong_127 : decode M_R_wrong.2.1 127 = .ok (.iload 5, 2) := by decide +kernel
theorem d_R_wrong_129 : decode M_R_wrong.2.1 129 = .ok (.iload 6, 2) := by decide +kernel
theorem d_R_wrong_131 : decode M_R_wrong.2.1 131 = .ok (.invokevirtual 216, 3) := by decide +kernel
theorem d_R_wrong_134 : decode M_R_wrong.2.1 134 = .ok (.ifCond .ne 20, 3) := by decide +kernel
theorem d_R_wrong_137 : decode M_R_wrong.2.1 137 = .ok (.iload 4, 2) := by decide +kernel
theorem d_R_wrong_139 : decode M_R_wrong.2.1 139 = .ok (.iconst 1, 1) := by decide +kernel
theorem d_R_wrong_140 : decode M_R_wrong.2.1 140 = .ok (.if_icmp .ne 16, 3) := by decide +kernel
theorem d_R_wrong_143 : decode M_R_wrong.2.1 143 = .ok (.aload_n 0, 1) := by decide +kernel
theorem d_R_wrong_144 : decode M_R_wrong.2.1 144 = .ok (.iload 7, 2) := by decide +kernel
theorem d_R_wrong_146 : decode M_R_wrong.2.1 146 = .ok (.iload 6, 2) := by decide +kernel
theorem d_R_wrong_148 : decode M_R_wrong.2.1 148 = .ok (.invokevirtual 216, 3) := by decide +kernel
theorem d_R_wrong_151 : decode M_R_wrong.2.1 151 = .ok (.ifCond .eq 5, 3) := by decide +kernel
theorem d_R_wrong_154 : decode M_R_wrong.2.1 154 = .ok (.iconst 4, 1) := by decide +kernel
theorem d_R_wrong_155 : decode M_R_wrong.2.1 155 = .ok (.ireturn, 1) := by decide +kernel
theorem d_R_wrong_156 : decode M_R_wrong.2.1 156 = .ok (.iconst 0, 1) := by decide +kernel
theorem d_R_wrong_157 : decode M_R_wrong.2.1 157 = .ok (.ireturn, 1) := by decide +kernel
theorem d_R_lets_0 : decode M_R_lets.2.1 0 = .ok (.bipush 16, 2) := by decide +kernel
theorem d_R_lets_2 : decode M_R_lets.2.1 2 = .ok (.bipush 65, 2) := by decide +kernel
theorem d_R_lets_4 : decode M_R_lets.2.1 4 = .ok (.iload_n 2, 1) := by decide +kernel
theorem d_R_lets_5 : decode M_R_lets.2.1 5 = .ok (.imul, 1) := by decide +kernel
theorem d_R_lets_6 : decode M_R_lets.2.1 6 = .ok (.iadd, 1) := by decide +kernel
theorem d_R_lets_7 : decode M_R_lets.2.1 7 = .ok (.istore 4, 2) := by decide +kernel
theorem d_R_lets_9 : decode M_R_lets.2.1 9 = .ok (.aload_n 1, 1) := by decide +kernel
theorem d_R_lets_10 : decode M_R_lets.2.1 10 = .ok (.iload 4, 2) := by decide +kernel
theorem d_R_lets_12 : decode M_R_lets.2.1 12 = .ok (.iaload, 1) := by decide +kernel
theorem d_R_lets_13 : decode M_R_lets.2.1 13 = .ok (.ifCond .ge 5, 3) := by decide +kernel
theorem d_R_lets_16 : decode M_R_lets.2.1 16 = .ok (.iconst 0, 1) := by decide +kernel
theorem d_R_lets_17 : decode M_R_lets.2.1 17 = .ok (.ireturn, 1) := by decide +kernel
theorem d_R_lets_18 : decode M_R_lets.2.1 18 = .ok (.iinc 4 1, 3) := by decide +kernel
theorem d_R_lets_21 : decode M_R_lets.2.1 21 = .ok (.iconst 0, 1) := by decide +kernel
theorem d_R_lets_22 : decode M_R_lets.2.1 22 = .ok (.istore 5, 2) := by decide +kernel
theorem d_R_lets_24 : decode M_R_lets.2.1 24 = .ok (.aload_n 1, 1) := by decide +kernel
theorem d_R_lets_25 : decode M_R_lets.2.1 25 = .ok (.iload 4, 2) := by decide +kernel
theorem d_R_lets_27 : decode M_R_lets.2.1 27 = .ok (.iaload, 1) := by decide +kernel
theorem d_R_lets_28 : decode M_R_lets.2.1 28 = .ok (.ifCond .eq 272, 3) := by decide +kernel
theorem d_R_lets_31 : decode M_R_lets.2.1 31 = .ok (.aload_n 1, 1) := by decide +kernel
theorem d_R_lets_32 : decode M_R_lets.2.1 32 = .ok (.iload 4, 2) := by decide +kernel
theorem d_R_lets_34 : decode M_R_lets.2.1 34 = .ok (.iaload, 1) := by decide +kernel
theorem d_R_lets_35 : decode M_R_lets.2.1 35 = .ok (.istore 6, 2) := by decide +kernel
theorem d_R_lets_37 : decode M_R_lets.2.1 37 = .ok (.iload 6, 2) := by decide +kernel
theorem d_R_lets_39 : decode M_R_lets.2.1 39 = .ok (.iconst 5, 1) := by decide +kernel
theorem d_R_lets_40 : decode M_R_lets.2.1 40 = .ok (.if_icmp .ge 143, 3) := by decide +kernel
theorem d_R_lets_43 : decode M_R_lets.2.1 43 = .ok (.aload_n 0, 1) := by decide +kernel
theorem d_R_lets_44 : decode M_R_lets.2.1 44 = .ok (.getfield 114, 3) := by decide +kernel
theorem d_R_lets_47 : decode M_R_lets.2.1 47 = .ok (.iload 5, 2) := by decide +kernel
theorem d_R_lets_49 : decode M_R_lets.2.1 49 = .ok (.iload 6, 2) := by decide +kernel
theorem d_R_lets_51 : decode M_R_lets.2.1 51 = .ok (.iconst 1, 1) := by decide +kernel
theorem d_R_lets_52 : decode M_R_lets.2.1 52 = .ok (.if_icmp .ne 22, 3) := by decide +kernel
theorem d_R_lets_55 : decode M_R_lets.2.1 55 = .ok (.aload_n 0, 1) := by decide +kernel
theorem d_R_lets_56 : decode M_R_lets.2.1 56 = .ok (.aload_n 1, 1) := by decide +kernel
theorem d_R_lets_57 : decode M_R_lets.2.1 57 = .ok (.iload 4, 2) := by decide +kernel
theorem d_R_lets_59 : decode M_R_lets.2.1 59 = .ok (.iconst 1, 1) := by decide +kernel
theorem d_R_lets_60 : decode M_R_lets.2.1 60 = .ok (.iadd, 1) := by decide +kernel
theorem d_R_lets_61 : decode M_R_lets.2.1 61 = .ok (.iaload, 1) := by decide +kernel
theorem d_R_lets_62 : decode M_R_lets.2.1 62 = .ok (.aload_n 1, 1) := by decide +kernel
theorem d_R_lets_63 : decode M_R_lets.2.1 63 = .ok (.iload 4, 2) := by decide +kernel
theorem d_R_lets_65 : decode M_R_lets.2.1 65 = .ok (.iconst 2, 1) := by decide +kernel
theorem d_R_lets_66 : decode M_R_lets.2.1 66 = .ok (.iadd, 1) := by decide +kernel
theorem d_R_lets_67 : decode M_R_lets.2.1 67 = .ok (.iaload, 1) := by decide +kernel
theorem d_R_lets_68 : decode M_R_lets.2.1 68 = .ok (.invokevirtual 216, 3) := by decide +kernel
theorem d_R_lets_71 : decode M_R_lets.2.1 71 = .ok (.goto 83, 3) := by decide +kernel
theorem d_R_lets_74 : decode M_R_lets.2.1 74 = .ok (.iload 6, 2) := by decide +kernel
theorem d_R_lets_76 : decode M_R_lets.2.1 76 = .ok (.iconst 2, 1) := by decide +kernel
theorem d_R_lets_77 : decode M_R_lets.2.1 77 = .ok (.if_icmp .ne 28, 3) := by decide +kernel
theorem d_R_lets_80 : decode M_R_lets.2.1 80 = .ok (.aload_n 0, 1) := by decide +kernel
theorem d_R_lets_81 : decode M_R_lets.2.1 81 = .ok (.getfield 210, 3) := by decide +kernel
theorem d_R_lets_84 : decode M_R_lets.2.1 84 = .ok (.aload_n 1, 1) := by decide +kernel
theorem d_R_lets_85 : decode M_R_lets.2.1 85 = .ok (.iload 4, 2) := by decide +kernel
theorem d_R_lets_87 : decode M_R_lets.2.1 87 = .ok (.iconst 1, 1) := by decide +kernel
theorem d_R_lets_88 : decode M_R_lets.2.1 88 = .ok (.iadd, 1) := by decide +kernel
theorem d_R_lets_89 : decode M_R_lets.2.1 89 = .ok (.iaload, 1) := by decide +kernel
theorem d_R_lets_90 : decode M_R_lets.2.1 90 = .ok (.ishr, 1) := by decide +kernel
theorem d_R_lets_91 : decode M_R_lets.2.1 91 = .ok (.iconst 1, 1) := by decide +kernel
theorem d_R_lets_92 : decode M_R_lets.2.1 92 = .ok (.iand, 1) := by decide +kernel
theorem d_R_lets_93 : decode M_R_lets.2.1 93 = .ok (.iconst 1, 1) := by decide +kernel
theorem d_R_lets_94 : decode M_R_lets.2.1 94 = .ok (.if_icmp .ne 7, 3) := by decide +kernel
theorem d_R_lets_97 : decode M_R_lets.2.1 97 = .ok (.iconst 1, 1) := by decide +kernel
theorem d_R_lets_98 : decode M_R_lets.2.1 98 = .ok (.goto 56, 3) := by decide +kernel
theorem d_R_lets_101 : decode M_R_lets.2.1 101 = .ok (.iconst 0, 1) := by decide +kernel
theorem d_R_lets_102 : decode M_R_lets.2.1 102 = .ok (.goto 52, 3) := by decide +kernel
theorem d_R_lets_105 : decode M_R_lets.2.1 105 = .ok (.iload 6, 2) := by decide +kernel
theorem d_R_lets_107 : decode M_R_lets.2.1 107 = .ok (.iconst 3, 1) := by decide +kernel
theorem d_R_lets_108 : decode M_R_lets.2.1 108 = .ok (.if_icmp .ne 31, 3) := by decide +kernel
theorem d_R_lets_111 : decode M_R_lets.2.1 111 = .ok (.aload_n 0, 1) := by decide +kernel
theorem d_R_lets_112 : decode M_R_lets.2.1 112 = .ok (.aload_n 1, 1) := by decide +kernel
theorem d_R_lets_113 : decode M_R_lets.2.1 113 = .ok (.iload 4, 2) := by decide +kernel
theorem d_R_lets_115 : decode M_R_lets.2.1 115 = .ok (.iconst 1, 1) := by decide +kernel
theorem d_R_lets_116 : decode M_R_lets.2.1 116 = .ok (.iadd, 1) := by decide +kernel
theorem d_R_lets_117 : decode M_R_lets.2.1 117 = .ok (.iaload, 1) := by decide +kernel
theorem d_R_lets_118 : decode M_R_lets.2.1 118 = .ok (.iload_n 3, 1) := by decide +kernel
theorem d_R_lets_119 : decode M_R_lets.2.1 119 = .ok (.invokevirtual 236, 3) := by decide +kernel
theorem d_R_lets_122 : decode M_R_lets.2.1 122 = .ok (.aload_n 1, 1) := by decide +kernel
theorem d_R_lets_123 : decode M_R_lets.2.1 123 = .ok (.iload 4, 2) := by decide +kernel
theorem d_R_lets_125 : decode M_R_lets.2.1 125 = .ok (.iconst 2, 1) := by decide +kernel
theorem d_R_lets_126 : decode M_R_lets.2.1 126 = .ok (.iadd, 1) := by decide +kernel
theorem d_R_lets_127 : decode M_R_lets.2.1 127 = .ok (.iaload, 1) := by decide +kernel
theorem d_R_lets_128 : decode M_R_lets.2.1 128 = .ok (.if_icmp .lt 7, 3) := by decide +kernel
theorem d_R_lets_131 : decode M_R_lets.2.1 131 = .ok (.iconst 1, 1) := by decide +kernel
theorem d_R_lets_132 : decode M_R_lets.2.1 132 = .ok (.goto 22, 3) := by decide +kernel
theorem d_R_lets_135 : decode M_R_lets.2.1 135 = .ok (.iconst 0, 1) := by decide +kernel
theorem d_R_lets_136 : decode M_R_lets.2.1 136 = .ok (.goto 18, 3) := by decide +kernel
theorem d_R_lets_139 : decode M_R_lets.2.1 139 = .ok (.iload_n 3, 1) := by decide +kernel
theorem d_R_lets_140 : decode M_R_lets.2.1 140 = .ok (.aload_n 1, 1) := by decide +kernel
theorem d_R_lets_141 : decode M_R_lets.2.1 141 = .ok (.iload 4, 2) := by decide +kernel
theorem d_R_lets_143 : decode M_R_lets.2.1 143 = .ok (.iconst 1, 1) := by decide +kernel
theorem d_R_lets_144 : decode M_R_lets.2.1 144 = .ok (.iadd, 1) := by decide +kernel
theorem d_R_lets_145 : decode M_R_lets.2.1 145 = .ok (.iaload, 1) := by decide +kernel
theorem d_R_lets_146 : decode M_R_lets.2.1 146 = .ok (.if_icmp .lt 7, 3) := by decide +kernel
theorem d_R_lets_149 : decode M_R_lets.2.1 149 = .ok (.iconst 1, 1) := by decide +kernel
theorem d_R_lets_150 : decode M_R_lets.2.1 150 = .ok (.goto 4, 3) := by decide +kernel
theorem d_R_lets_153 : decode M_R_lets.2.1 153 = .ok (.iconst 0, 1) := by decide +kernel
theorem d_R_lets_154 : decode M_R_lets.2.1 154 = .ok (.bastore, 1) := by decide +kernel
theorem d_R_lets_155 : decode M_R_lets.2.1 155 = .ok (.iinc 5 1, 3) := by decide +kernel
theorem d_R_lets_158 : decode M_R_lets.2.1 158 = .ok (.iload 4, 2) := by decide +kernel
theorem d_R_lets_160 : decode M_R_lets.2.1 160 = .ok (.iload 6, 2) := by decide +kernel
theorem d_R_lets_162 : decode M_R_lets.2.1 162 = .ok (.iconst 1, 1) := by decide +kernel
theorem d_R_lets_163 : decode M_R_lets.2.1 163 = .ok (.if_icmp .eq 9, 3) := by decide +kernel
theorem d_R_lets_166 : decode M_R_lets.2.1 166 = .ok (.iload 6, 2) := by decide +kernel
theorem d_R_lets_168 : decode M_R_lets.2.1 168 = .ok (.iconst 3, 1) := by decide +kernel
theorem d_R_lets_169 : decode M_R_lets.2.1 169 = .ok (.if_icmp .ne 7, 3) := by decide +kernel
theorem d_R_lets_172 : decode M_R_lets.2.1 172 = .ok (.iconst 3, 1) := by decide +kernel
theorem d_R_lets_173 : decode M_R_lets.2.1 173 = .ok (.goto 4, 3) := by decide +kernel
theorem d_R_lets_176 : decode M_R_lets.2.1 176 = .ok (.iconst 2, 1) := by decide +kernel
theorem d_R_lets_177 : decode M_R_lets.2.1 177 = .ok (.iadd, 1) := by decide +kernel
theorem d_R_lets_178 : decode M_R_lets.2.1 178 = .ok (.istore 4, 2) := by decide +kernel
theorem d_R_lets_180 : decode M_R_lets.2.1 180 = .ok (.goto (-156), 3) := by decide +kernel
theorem d_R_lets_183 : decode M_R_lets.2.1 183 = .ok (.iinc 4 1, 3) := by decide +kernel
theorem d_R_lets_186 : decode M_R_lets.2.1 186 = .ok (.iload 6, 2) := by decide +kernel
theorem d_R_lets_188 : decode M_R_lets.2.1 188 = .ok (.bipush 7, 2) := by decide +kernel
theorem d_R_lets_190 : decode M_R_lets.2.1 190 = .ok (.if_icmp .ne 32, 3) := by decide +kernel
theorem d_R_lets_193 : decode M_R_lets.2.1 193 = .ok (.aload_n 0, 1) := by decide +kernel
theorem d_R_lets_194 : decode M_R_lets.2.1 194 = .ok (.getfield 114, 3) := by decide +kernel
theorem d_R_lets_197 : decode M_R_lets.2.1 197 = .ok (.iload 5, 2) := by decide +kernel
theorem d_R_lets_199 : decode M_R_lets.2.1 199 = .ok (.iconst 1, 1) := by decide +kernel
theorem d_R_lets_200 : decode M_R_lets.2.1 200 = .ok (.isub, 1) := by decide +kernel
theorem d_R_lets_201 : decode M_R_lets.2.1 201 = .ok (.aload_n 0, 1) := by decide +kernel
theorem d_R_lets_202 : decode M_R_lets.2.1 202 = .ok (.getfield 114, 3) := by decide +kernel
theorem d_R_lets_205 : decode M_R_lets.2.1 205 = .ok (.iload 5, 2) := by decide +kernel
theorem d_R_lets_207 : decode M_R_lets.2.1 207 = .ok (.iconst 1, 1) := by decide +kernel
theorem d_R_lets_208 : decode M_R_lets.2.1 208 = .ok (.isub, 1) := by decide +kernel
theorem d_R_lets_209 : decode M_R_lets.2.1 209 = .ok (.baload, 1) := by decide +kernel
theorem d_R_lets_210 : decode M_R_lets.2.1 210 = .ok (.ifCond .ne 7, 3) := by decide +kernel
theorem d_R_lets_213 : decode M_R_lets.2.1 213 = .ok (.iconst 1, 1) := by decide +kernel
theorem d_R_lets_214 : decode M_R_lets.2.1 214 = .ok (.goto 4, 3) := by decide +kernel
theorem d_R_lets_217 : decode M_R_lets.2.1 217 = .ok (.iconst 0, 1) := by decide +kernel
theorem d_R_lets_218 : decode M_R_lets.2.1 218 = .ok (.bastore, 1) := by decide +kernel
theorem d_R_lets_219 : decode M_R_lets.2.1 219 = .ok (.goto (-195), 3) := by decide +kernel
theorem d_R_lets_222 : decode M_R_lets.2.1 222 = .ok (.iinc 5 (-1), 3) := by decide +kernel
theorem d_R_lets_225 : decode M_R_lets.2.1 225 = .ok (.aload_n 0, 1) := by decide +kernel
theorem d_R_lets_226 : decode M_R_lets.2.1 226 = .ok (.getfield 114, 3) := by decide +kernel
theorem d_R_lets_229 : decode M_R_lets.2.1 229 = .ok (.iload 5, 2) := by decide +kernel
theorem d_R_lets_231 : decode M_R_lets.2.1 231 = .ok (.iconst 1, 1) := by decide +kernel
theorem d_R_lets_232 : decode M_R_lets.2.1 232 = .ok (.isub, 1) := by decide +kernel
theorem d_R_lets_233 : decode M_R_lets.2.1 233 = .ok (.iload 6, 2) := by decide +kernel
theorem d_R_lets_235 : decode M_R_lets.2.1 235 = .ok (.iconst 5, 1) := by decide +kernel
theorem d_R_lets_236 : decode M_R_lets.2.1 236 = .ok (.if_icmp .ne 33, 3) := by decide +kernel
theorem d_R_lets_239 : decode M_R_lets.2.1 239 = .ok (.aload_n 0, 1) := by decide +kernel
theorem d_R_lets_240 : decode M_R_lets.2.1 240 = .ok (.getfield 114, 3) := by decide +kernel
theorem d_R_lets_243 : decode M_R_lets.2.1 243 = .ok (.iload 5, 2) := by decide +kernel
theorem d_R_lets_245 : decode M_R_lets.2.1 245 = .ok (.iconst 1, 1) := by decide +kernel
theorem d_R_lets_246 : decode M_R_lets.2.1 246 = .ok (.isub, 1) := by decide +kernel
theorem d_R_lets_247 : decode M_R_lets.2.1 247 = .ok (.baload, 1) := by decide +kernel
theorem d_R_lets_248 : decode M_R_lets.2.1 248 = .ok (.ifCond .eq 17, 3) := by decide +kernel
theorem d_R_lets_251 : decode M_R_lets.2.1 251 = .ok (.aload_n 0, 1) := by decide +kernel
theorem d_R_lets_252 : decode M_R_lets.2.1 252 = .ok (.getfield 114, 3) := by decide +kernel
theorem d_R_lets_255 : decode M_R_lets.2.1 255 = .ok (.iload 5, 2) := by decide +kernel
theorem d_R_lets_257 : decode M_R_lets.2.1 257 = .ok (.baload, 1) := by decide +kernel
theorem d_R_lets_258 : decode M_R_lets.2.1 258 = .ok (.ifCond .eq 7, 3) := by decide +kernel
theorem d_R_lets_261 : decode M_R_lets.2.1 261 = .ok (.iconst 1, 1) := by decide +kernel
theorem d_R_lets_262 : decode M_R_lets.2.1 262 = .ok (.goto 34, 3) := by decide +kernel
theorem d_R_lets_265 : decode M_R_lets.2.1 265 = .ok (.iconst 0, 1) := by decide +kernel
theorem d_R_lets_266 : decode M_R_lets.2.1 266 = .ok (.goto 30, 3) := by decide +kernel
theorem d_R_lets_269 : decode M_R_lets.2.1 269 = .ok (.aload_n 0, 1) := by decide +kernel
theorem d_R_lets_270 : decode M_R_lets.2.1 270 = .ok (.getfield 114, 3) := by decide +kernel
theorem d_R_lets_273 : decode M_R_lets.2.1 273 = .ok (.iload 5, 2) := by decide +kernel
theorem d_R_lets_275 : decode M_R_lets.2.1 275 = .ok (.iconst 1, 1) := by decide +kernel
theorem d_R_lets_276 : decode M_R_lets.2.1 276 = .ok (.isub, 1) := by decide +kernel
theorem d_R_lets_277 : decode M_R_lets.2.1 277 = .ok (.baload, 1) := by decide +kernel
theorem d_R_lets_278 : decode M_R_lets.2.1 278 = .ok (.ifCond .ne 13, 3) := by decide +kernel
theorem d_R_lets_281 : decode M_R_lets.2.1 281 = .ok (.aload_n 0, 1) := by decide +kernel
theorem d_R_lets_282 : decode M_R_lets.2.1 282 = .ok (.getfield 114, 3) := by decide +kernel
theorem d_R_lets_285 : decode M_R_lets.2.1 285 = .ok (.iload 5, 2) := by decide +kernel
theorem d_R_lets_287 : decode M_R_lets.2.1 287 = .ok (.baload, 1) := by decide +kernel
theorem d_R_lets_288 : decode M_R_lets.2.1 288 = .ok (.ifCond .eq 7, 3) := by decide +kernel
theorem d_R_lets_291 : decode M_R_lets.2.1 291 = .ok (.iconst 1, 1) := by decide +kernel
theorem d_R_lets_292 : decode M_R_lets.2.1 292 = .ok (.goto 4, 3) := by decide +kernel
theorem d_R_lets_295 : decode M_R_lets.2.1 295 = .ok (.iconst 0, 1) := by decide +kernel
theorem d_R_lets_296 : decode M_R_lets.2.1 296 = .ok (.bastore, 1) := by decide +kernel
theorem d_R_lets_297 : decode M_R_lets.2.1 297 = .ok (.goto (-273), 3) := by decide +kernel
theorem d_R_lets_300 : decode M_R_lets.2.1 300 = .ok (.aload_n 0, 1) := by decide +kernel
theorem d_R_lets_301 : decode M_R_lets.2.1 301 = .ok (.getfield 114, 3) := by decide +kernel
theorem d_R_lets_304 : decode M_R_lets.2.1 304 = .ok (.iconst 0, 1) := by decide +kernel
theorem d_R_lets_305 : decode M_R_lets.2.1 305 = .ok (.baload, 1) := by decide +kernel
theorem d_R_lets_306 : decode M_R_lets.2.1 306 = .ok (.ireturn, 1) := by decide +kernel
theorem d_R_heatOf_0 : decode M_R_heatOf.2.1 0 = .ok (.iconst 0, 1) := by decide +kernel
theorem d_R_heatOf_1 : decode M_R_heatOf.2.1 1 = .ok (.istore_n 3, 1) := by decide +kernel
theorem d_R_heatOf_2 : decode M_R_heatOf.2.1 2 = .ok (.iconst 1, 1) := by decide +kernel
theorem d_R_heatOf_3 : decode M_R_heatOf.2.1 3 = .ok (.istore 4, 2) := by decide +kernel
theorem d_R_heatOf_5 : decode M_R_heatOf.2.1 5 = .ok (.iload 4, 2) := by decide +kernel
theorem d_R_heatOf_7 : decode M_R_heatOf.2.1 7 = .ok (.iload_n 2, 1) := by decide +kernel
theorem d_R_heatOf_8 : decode M_R_heatOf.2.1 8 = .ok (.if_icmp .ge 28, 3) := by decide +kernel
theorem d_R_heatOf_11 : decode M_R_heatOf.2.1 11 = .ok (.iload_n 3, 1) := by decide +kernel
theorem d_R_heatOf_12 : decode M_R_heatOf.2.1 12 = .ok (.iconst 3, 1) := by decide +kernel
theorem d_R_heatOf_13 : decode M_R_heatOf.2.1 13 = .ok (.imul, 1) := by decide +kernel
theorem d_R_heatOf_14 : decode M_R_heatOf.2.1 14 = .ok (.iconst 4, 1) := by decide +kernel
theorem d_R_heatOf_15 : decode M_R_heatOf.2.1 15 = .ok (.idiv, 1) := by decide +kernel
theorem d_R_heatOf_16 : decode M_R_heatOf.2.1 16 = .ok (.aload_n 0, 1) := by decide +kernel
theorem d_R_heatOf_17 : decode M_R_heatOf.2.1 17 = .ok (.getfield 26, 3) := by decide +kernel
theorem d_R_heatOf_20 : decode M_R_heatOf.2.1 20 = .ok (.bipush 27, 2) := by decide +kernel
theorem d_R_heatOf_22 : decode M_R_heatOf.2.1 22 = .ok (.iload_n 1, 1) := by decide +kernel
theorem d_R_heatOf_23 : decode M_R_heatOf.2.1 23 = .ok (.imul, 1) := by decide +kernel
theorem d_R_heatOf_24 : decode M_R_heatOf.2.1 24 = .ok (.iload 4, 2) := by decide +kernel
theorem d_R_heatOf_26 : decode M_R_heatOf.2.1 26 = .ok (.iadd, 1) := by decide +kernel
theorem d_R_heatOf_27 : decode M_R_heatOf.2.1 27 = .ok (.iaload, 1) := by decide +kernel
theorem d_R_heatOf_28 : decode M_R_heatOf.2.1 28 = .ok (.iadd, 1) := by decide +kernel
theorem d_R_heatOf_29 : decode M_R_heatOf.2.1 29 = .ok (.istore_n 3, 1) := by decide +kernel
theorem d_R_heatOf_30 : decode M_R_heatOf.2.1 30 = .ok (.iinc 4 1, 3) := by decide +kernel
theorem d_R_heatOf_33 : decode M_R_heatOf.2.1 33 = .ok (.goto (-28), 3) := by decide +kernel
theorem d_R_heatOf_36 : decode M_R_heatOf.2.1 36 = .ok (.iload_n 3, 1) := by decide +kernel
theorem d_R_heatOf_37 : decode M_R_heatOf.2.1 37 = .ok (.ireturn, 1) := by decide +kernel
theorem d_R_does_0 : decode M_R_does.2.1 0 = .ok (.aload_n 0, 1) := by decide +kernel
theorem d_R_does_1 : decode M_R_does.2.1 1 = .ok (.getfield 107, 3) := by decide +kernel
theorem d_R_does_4 : decode M_R_does.2.1 4 = .ok (.bipush 6, 2) := by decide +kernel
theorem d_R_does_6 : decode M_R_does.2.1 6 = .ok (.iload_n 1, 1) := by decide +kernel
theorem d_R_does_7 : decode M_R_does.2.1 7 = .ok (.imul, 1) := by decide +kernel
theorem d_R_does_8 : decode M_R_does.2.1 8 = .ok (.iload_n 2, 1) := by decide +kernel
theorem d_R_does_9 : decode M_R_does.2.1 9 = .ok (.iadd, 1) := by decide +kernel
theorem d_R_does_10 : decode M_R_does.2.1 10 = .ok (.iconst 1, 1) := by decide +kernel
theorem d_R_does_11 : decode M_R_does.2.1 11 = .ok (.bastore, 1) := by decide +kernel
theorem d_R_does_12 : decode M_R_does.2.1 12 = .ok (.iload_n 3, 1) := by decide +kernel
theorem d_R_does_13 : decode M_R_does.2.1 13 = .ok (.iconst 3, 1) := by decide +kernel
theorem d_R_does_14 : decode M_R_does.2.1 14 = .ok (.if_icmp .ge 21, 3) := by decide +kernel
theorem d_R_does_17 : decode M_R_does.2.1 17 = .ok (.aload_n 0, 1) := by decide +kernel
theorem d_R_does_18 : decode M_R_does.2.1 18 = .ok (.getfield 83, 3) := by decide +kernel
theorem d_R_does_21 : decode M_R_does.2.1 21 = .ok (.iload 5, 2) := by decide +kernel
theorem d_R_does_23 : decode M_R_does.2.1 23 = .ok (.iaload, 1) := by decide +kernel
theorem d_R_does_24 : decode M_R_does.2.1 24 = .ok (.ifCond .ge 11, 3) := by decide +kernel
theorem d_R_does_27 : decode M_R_does.2.1 27 = .ok (.aload_n 0, 1) := by decide +kernel
theorem d_R_does_28 : decode M_R_does.2.1 28 = .ok (.getfield 83, 3) := by decide +kernel
theorem d_R_does_31 : decode M_R_does.2.1 31 = .ok (.iload 5, 2) := by decide +kernel
theorem d_R_does_33 : decode M_R_does.2.1 33 = .ok (.iload_n 1, 1) := by decide +kernel
theorem d_R_does_34 : decode M_R_does.2.1 34 = .ok (.iastore, 1) := by decide +kernel
theorem d_R_does_35 : decode M_R_does.2.1 35 = .ok (.iload_n 3, 1) := by decide +kernel
theorem d_R_does_36 : decode M_R_does.2.1 36 = .ok (.tableswitch 194 0 5 #[40, 86, 194, 146, 162, 180], 40) := by decide +kernel
theorem d_R_does_76 : decode M_R_does.2.1 76 = .ok (.aload_n 0, 1) := by decide +kernel
theorem d_R_does_77 : decode M_R_does.2.1 77 = .ok (.getfield 71, 3) := by decide +kernel
theorem d_R_does_80 : decode M_R_does.2.1 80 = .ok (.bipush 24, 2) := by decide +kernel
theorem d_R_does_82 : decode M_R_does.2.1 82 = .ok (.iload 4, 2) := by decide +kernel
theorem d_R_does_84 : decode M_R_does.2.1 84 = .ok (.imul, 1) := by decide +kernel
theorem d_R_does_85 : decode M_R_does.2.1 85 = .ok (.iload 5, 2) := by decide +kernel
theorem d_R_does_87 : decode M_R_does.2.1 87 = .ok (.iadd, 1) := by decide +kernel
theorem d_R_does_88 : decode M_R_does.2.1 88 = .ok (.iload_n 1, 1) := by decide +kernel
theorem d_R_does_89 : decode M_R_does.2.1 89 = .ok (.iastore, 1) := by decide +kernel
theorem d_R_does_90 : decode M_R_does.2.1 90 = .ok (.aload_n 0, 1) := by decide +kernel
theorem d_R_does_91 : decode M_R_does.2.1 91 = .ok (.getfield 74, 3) := by decide +kernel
theorem d_R_does_94 : decode M_R_does.2.1 94 = .ok (.bipush 24, 2) := by decide +kernel
theorem d_R_does_96 : decode M_R_does.2.1 96 = .ok (.iload 4, 2) := by decide +kernel
theorem d_R_does_98 : decode M_R_does.2.1 98 = .ok (.imul, 1) := by decide +kernel
theorem d_R_does_99 : decode M_R_does.2.1 99 = .ok (.iload 5, 2) := by decide +kernel
theorem d_R_does_101 : decode M_R_does.2.1 101 = .ok (.iadd, 1) := by decide +kernel
theorem d_R_does_102 : decode M_R_does.2.1 102 = .ok (.bipush (-2), 2) := by decide +kernel
theorem d_R_does_104 : decode M_R_does.2.1 104 = .ok (.iastore, 1) := by decide +kernel
theorem d_R_does_105 : decode M_R_does.2.1 105 = .ok (.aload_n 0, 1) := by decide +kernel
theorem d_R_does_106 : decode M_R_does.2.1 106 = .ok (.getfield 77, 3) := by decide +kernel
theorem d_R_does_109 : decode M_R_does.2.1 109 = .ok (.bipush 24, 2) := by decide +kernel
theorem d_R_does_111 : decode M_R_does.2.1 111 = .ok (.iload 4, 2) := by decide +kernel
theorem d_R_does_113 : decode M_R_does.2.1 113 = .ok (.imul, 1) := by decide +kernel
theorem d_R_does_114 : decode M_R_does.2.1 114 = .ok (.iload 5, 2) := by decide +kernel
theorem d_R_does_116 : decode M_R_does.2.1 116 = .ok (.iadd, 1) := by decide +kernel
theorem d_R_does_117 : decode M_R_does.2.1 117 = .ok (.iconst 0, 1) := by decide +kernel
theorem d_R_does_118 : decode M_R_does.2.1 118 = .ok (.iastore, 1) := by decide +kernel
theorem d_R_does_119 : decode M_R_does.2.1 119 = .ok (.goto 111, 3) := by decide +kernel
theorem d_R_does_122 : decode M_R_does.2.1 122 = .ok (.aload_n 0, 1) := by decide +kernel
theorem d_R_does_123 : decode M_R_does.2.1 123 = .ok (.getfield 71, 3) := by decide +kernel
theorem d_R_does_126 : decode M_R_does.2.1 126 = .ok (.bipush 24, 2) := by decide +kernel
theorem d_R_does_128 : decode M_R_does.2.1 128 = .ok (.iload 6, 2) := by decide +kernel
theorem d_R_does_130 : decode M_R_does.2.1 130 = .ok (.imul, 1) := by decide +kernel
theorem d_R_does_131 : decode M_R_does.2.1 131 = .ok (.iload 5, 2) := by decide +kernel
theorem d_R_does_133 : decode M_R_does.2.1 133 = .ok (.iadd, 1) := by decide +kernel
theorem d_R_does_134 : decode M_R_does.2.1 134 = .ok (.iload_n 1, 1) := by decide +kernel
theorem d_R_does_135 : decode M_R_does.2.1 135 = .ok (.iastore, 1) := by decide +kernel
theorem d_R_does_136 : decode M_R_does.2.1 136 = .ok (.aload_n 0, 1) := by decide +kernel
theorem d_R_does_137 : decode M_R_does.2.1 137 = .ok (.getfield 74, 3) := by decide +kernel
theorem d_R_does_140 : decode M_R_does.2.1 140 = .ok (.bipush 24, 2) := by decide +kernel
theorem d_R_does_142 : decode M_R_does.2.1 142 = .ok (.iload 6, 2) := by decide +kernel
theorem d_R_does_144 : decode M_R_does.2.1 144 = .ok (.imul, 1) := by decide +kernel
theorem d_R_does_145 : decode M_R_does.2.1 145 = .ok (.iload 5, 2) := by decide +kernel
theorem d_R_does_147 : decode M_R_does.2.1 147 = .ok (.iadd, 1) := by decide +kernel
theorem d_R_does_148 : decode M_R_does.2.1 148 = .ok (.iload 4, 2) := by decide +kernel
theorem d_R_does_150 : decode M_R_does.2.1 150 = .ok (.iastore, 1) := by decide +kernel
theorem d_R_does_151 : decode M_R_does.2.1 151 = .ok (.aload_n 0, 1) := by decide +kernel
theorem d_R_does_152 : decode M_R_does.2.1 152 = .ok (.getfield 77, 3) := by decide +kernel
theorem d_R_does_155 : decode M_R_does.2.1 155 = .ok (.bipush 24, 2) := by decide +kernel
theorem d_R_does_157 : decode M_R_does.2.1 157 = .ok (.iload 6, 2) := by decide +kernel
theorem d_R_does_159 : decode M_R_does.2.1 159 = .ok (.imul, 1) := by decide +kernel
theorem d_R_does_160 : decode M_R_does.2.1 160 = .ok (.iload 5, 2) := by decide +kernel
theorem d_R_does_162 : decode M_R_does.2.1 162 = .ok (.iadd, 1) := by decide +kernel
theorem d_R_does_163 : decode M_R_does.2.1 163 = .ok (.aload_n 0, 1) := by decide +kernel
theorem d_R_does_164 : decode M_R_does.2.1 164 = .ok (.getfield 77, 3) := by decide +kernel
theorem d_R_does_167 : decode M_R_does.2.1 167 = .ok (.bipush 24, 2) := by decide +kernel
theorem d_R_does_169 : decode M_R_does.2.1 169 = .ok (.iload 4, 2) := by decide +kernel
theorem d_R_does_171 : decode M_R_does.2.1 171 = .ok (.imul, 1) := by decide +kernel
theorem d_R_does_172 : decode M_R_does.2.1 172 = .ok (.iload 5, 2) := by decide +kernel
theorem d_R_does_174 : decode M_R_does.2.1 174 = .ok (.iadd, 1) := by decide +kernel
theorem d_R_does_175 : decode M_R_does.2.1 175 = .ok (.iaload, 1) := by decide +kernel
theorem d_R_does_176 : decode M_R_does.2.1 176 = .ok (.iconst 1, 1) := by decide +kernel
theorem d_R_does_177 : decode M_R_does.2.1 177 = .ok (.iadd, 1) := by decide +kernel
theorem d_R_does_178 : decode M_R_does.2.1 178 = .ok (.iastore, 1) := by decide +kernel
theorem d_R_does_179 : decode M_R_does.2.1 179 = .ok (.goto 51, 3) := by decide +kernel
theorem d_R_does_182 : decode M_R_does.2.1 182 = .ok (.aload_n 0, 1) := by decide +kernel
theorem d_R_does_183 : decode M_R_does.2.1 183 = .ok (.dup, 1) := by decide +kernel
theorem d_R_does_184 : decode M_R_does.2.1 184 = .ok (.getfield 210, 3) := by decide +kernel
theorem d_R_does_187 : decode M_R_does.2.1 187 = .ok (.iconst 1, 1) := by decide +kernel
theorem d_R_does_188 : decode M_R_does.2.1 188 = .ok (.iload 4, 2) := by decide +kernel
theorem d_R_does_190 : decode M_R_does.2.1 190 = .ok (.ishl, 1) := by decide +kernel
theorem d_R_does_191 : decode M_R_does.2.1 191 = .ok (.ior, 1) := by decide +kernel
theorem d_R_does_192 : decode M_R_does.2.1 192 = .ok (.putfield 210, 3) := by decide +kernel
theorem d_R_does_195 : decode M_R_does.2.1 195 = .ok (.goto 35, 3) := by decide +kernel
theorem d_R_does_198 : decode M_R_does.2.1 198 = .ok (.aload_n 0, 1) := by decide +kernel
theorem d_R_does_199 : decode M_R_does.2.1 199 = .ok (.dup, 1) := by decide +kernel
theorem d_R_does_200 : decode M_R_does.2.1 200 = .ok (.getfield 210, 3) := by decide +kernel
theorem d_R_does_203 : decode M_R_does.2.1 203 = .ok (.iconst 1, 1) := by decide +kernel
theorem d_R_does_204 : decode M_R_does.2.1 204 = .ok (.iload 4, 2) := by decide +kernel
theorem d_R_does_206 : decode M_R_does.2.1 206 = .ok (.ishl, 1) := by decide +kernel
theorem d_R_does_207 : decode M_R_does.2.1 207 = .ok (.iconst (-1), 1) := by decide +kernel
theorem d_R_does_208 : decode M_R_does.2.1 208 = .ok (.ixor, 1) := by decide +kernel
theorem d_R_does_209 : decode M_R_does.2.1 209 = .ok (.iand, 1) := by decide +kernel
theorem d_R_does_210 : decode M_R_does.2.1 210 = .ok (.putfield 210, 3) := by decide +kernel
theorem d_R_does_213 : decode M_R_does.2.1 213 = .ok (.goto 17, 3) := by decide +kernel
theorem d_R_does_216 : decode M_R_does.2.1 216 = .ok (.aload_n 0, 1) := by decide +kernel
theorem d_R_does_217 : decode M_R_does.2.1 217 = .ok (.getfield 80, 3) := by decide +kernel
theorem d_R_does_220 : decode M_R_does.2.1 220 = .ok (.iload 4, 2) := by decide +kernel
theorem d_R_does_222 : decode M_R_does.2.1 222 = .ok (.dup2, 1) := by decide +kernel
theorem d_R_does_223 : decode M_R_does.2.1 223 = .ok (.iaload, 1) := by decide +kernel
theorem d_R_does_224 : decode M_R_does.2.1 224 = .ok (.iconst 1, 1) := by decide +kernel
theorem d_R_does_225 : decode M_R_does.2.1 225 = .ok (.iadd, 1) := by decide +kernel
theorem d_R_does_226 : decode M_R_does.2.1 226 = .ok (.iastore, 1) := by decide +kernel
theorem d_R_does_227 : decode M_R_does.2.1 227 = .ok (.goto 3, 3) := by decide +kernel
theorem d_R_does_230 : decode M_R_does.2.1 230 = .ok (.return_, 1) := by decide +kernel
theorem d_R_faults_0 : decode M_R_faults.2.1 0 = .ok (.aload_n 0, 1) := by decide +kernel
theorem d_R_faults_1 : decode M_R_faults.2.1 1 = .ok (.invokevirtual 239, 3) := by decide +kernel
theorem d_R_faults_4 : decode M_R_faults.2.1 4 = .ok (.aload_n 0, 1) := by decide +kernel
theorem d_R_faults_5 : decode M_R_faults.2.1 5 = .ok (.getfield 200, 3) := by decide +kernel
theorem d_R_faults_8 : decode M_R_faults.2.1 8 = .ok (.ireturn, 1) := by decide +kernel
theorem d_R_fault_0 : decode M_R_fault.2.1 0 = .ok (.aload_n 0, 1) := by decide +kernel
theorem d_R_fault_1 : decode M_R_fault.2.1 1 = .ok (.invokevirtual 239, 3) := by decide +kernel
theorem d_R_fault_4 : decode M_R_fault.2.1 4 = .ok (.iload_n 1, 1) := by decide +kernel
theorem d_R_fault_5 : decode M_R_fault.2.1 5 = .ok (.iconst 0, 1) := by decide +kernel
theorem d_R_fault_6 : decode M_R_fault.2.1 6 = .ok (.aload_n 0, 1) := by decide +kernel
theorem d_R_fault_7 : decode M_R_fault.2.1 7 = .ok (.getfield 200, 3) := by decide +kernel
theorem d_R_fault_10 : decode M_R_fault.2.1 10 = .ok (.iconst 1, 1) := by decide +kernel
theorem d_R_fault_11 : decode M_R_fault.2.1 11 = .ok (.isub, 1) := by decide +kernel
theorem d_R_fault_12 : decode M_R_fault.2.1 12 = .ok (.invokestatic 153, 3) := by decide +kernel
theorem d_R_fault_15 : decode M_R_fault.2.1 15 = .ok (.ifCond .eq 12, 3) := by decide +kernel
theorem d_R_fault_18 : decode M_R_fault.2.1 18 = .ok (.iload_n 2, 1) := by decide +kernel
theorem d_R_fault_19 : decode M_R_fault.2.1 19 = .ok (.iconst 0, 1) := by decide +kernel
theorem d_R_fault_20 : decode M_R_fault.2.1 20 = .ok (.iconst 3, 1) := by decide +kernel
theorem d_R_fault_21 : decode M_R_fault.2.1 21 = .ok (.invokestatic 153, 3) := by decide +kernel
theorem d_R_fault_24 : decode M_R_fault.2.1 24 = .ok (.ifCond .ne 5, 3) := by decide +kernel
theorem d_R_fault_27 : decode M_R_fault.2.1 27 = .ok (.iconst (-1), 1) := by decide +kernel
theorem d_R_fault_28 : decode M_R_fault.2.1 28 = .ok (.ireturn, 1) := by decide +kernel
theorem d_R_fault_29 : decode M_R_fault.2.1 29 = .ok (.iload_n 2, 1) := by decide +kernel
theorem d_R_fault_30 : decode M_R_fault.2.1 30 = .ok (.ifCond .ne 12, 3) := by decide +kernel
theorem d_R_fault_33 : decode M_R_fault.2.1 33 = .ok (.aload_n 0, 1) := by decide +kernel
theorem d_R_fault_34 : decode M_R_fault.2.1 34 = .ok (.getfield 95, 3) := by decide +kernel
theorem d_R_fault_37 : decode M_R_fault.2.1 37 = .ok (.iload_n 1, 1) := by decide +kernel
theorem d_R_fault_38 : decode M_R_fault.2.1 38 = .ok (.iaload, 1) := by decide +kernel
theorem d_R_fault_39 : decode M_R_fault.2.1 39 = .ok (.goto 37, 3) := by decide +kernel
theorem d_R_fault_42 : decode M_R_fault.2.1 42 = .ok (.iload_n 2, 1) := by decide +kernel
theorem d_R_fault_43 : decode M_R_fault.2.1 43 = .ok (.iconst 1, 1) := by decide +kernel
theorem d_R_fault_44 : decode M_R_fault.2.1 44 = .ok (.if_icmp .ne 12, 3) := by decide +kernel
theorem d_R_fault_47 : decode M_R_fault.2.1 47 = .ok (.aload_n 0, 1) := by decide +kernel
theorem d_R_fault_48 : decode M_R_fault.2.1 48 = .ok (.getfield 98, 3) := by decide +kernel
theorem d_R_fault_51 : decode M_R_fault.2.1 51 = .ok (.iload_n 1, 1) := by decide +kernel
theorem d_R_fault_52 : decode M_R_fault.2.1 52 = .ok (.iaload, 1) := by decide +kernel
theorem d_R_fault_53 : decode M_R_fault.2.1 53 = .ok (.goto 23, 3) := by decide +kernel
theorem d_R_fault_56 : decode M_R_fault.2.1 56 = .ok (.iload_n 2, 1) := by decide +kernel
theorem d_R_fault_57 : decode M_R_fault.2.1 57 = .ok (.iconst 2, 1) := by decide +kernel
theorem d_R_fault_58 : decode M_R_fault.2.1 58 = .ok (.if_icmp .ne 12, 3) := by decide +kernel
theorem d_R_fault_61 : decode M_R_fault.2.1 61 = .ok (.aload_n 0, 1) := by decide +kernel
theorem d_R_fault_62 : decode M_R_fault.2.1 62 = .ok (.getfield 101, 3) := by decide +kernel
theorem d_R_fault_65 : decode M_R_fault.2.1 65 = .ok (.iload_n 1, 1) := by decide +kernel
theorem d_R_fault_66 : decode M_R_fault.2.1 66 = .ok (.iaload, 1) := by decide +kernel
theorem d_R_fault_67 : decode M_R_fault.2.1 67 = .ok (.goto 9, 3) := by decide +kernel
theorem d_R_fault_70 : decode M_R_fault.2.1 70 = .ok (.aload_n 0, 1) := by decide +kernel
theorem d_R_fault_71 : decode M_R_fault.2.1 71 = .ok (.getfield 104, 3) := by decide +kernel
theorem d_R_fault_74 : decode M_R_fault.2.1 74 = .ok (.iload_n 1, 1) := by decide +kernel
theorem d_R_fault_75 : decode M_R_fault.2.1 75 = .ok (.iaload, 1) := by decide +kernel
theorem d_R_fault_76 : decode M_R_fault.2.1 76 = .ok (.ireturn, 1) := by decide +kernel
theorem d_R_since_0 : decode M_R_since.2.1 0 = .ok (.aload_n 0, 1) := by decide +kernel
theorem d_R_since_1 : decode M_R_since.2.1 1 = .ok (.iload_n 1, 1) := by decide +kernel
theorem d_R_since_2 : decode M_R_since.2.1 2 = .ok (.invokevirtual 184, 3) := by decide +kernel
theorem d_R_since_5 : decode M_R_since.2.1 5 = .ok (.ifCond .eq 11, 3) := by decide +kernel
theorem d_R_since_8 : decode M_R_since.2.1 8 = .ok (.aload_n 0, 1) := by decide +kernel
theorem d_R_since_9 : decode M_R_since.2.1 9 = .ok (.iload_n 2, 1) := by decide +kernel
theorem d_R_since_10 : decode M_R_since.2.1 10 = .ok (.invokevirtual 187, 3) := by decide +kernel
theorem d_R_since_13 : decode M_R_since.2.1 13 = .ok (.ifCond .ne 5, 3) := by decide +kernel
theorem d_R_since_16 : decode M_R_since.2.1 16 = .ok (.iconst (-1), 1) := by decide +kernel
theorem d_R_since_17 : decode M_R_since.2.1 17 = .ok (.ireturn, 1) := by decide +kernel
theorem d_R_since_18 : decode M_R_since.2.1 18 = .ok (.aload_n 0, 1) := by decide +kernel
theorem d_R_since_19 : decode M_R_since.2.1 19 = .ok (.invokevirtual 239, 3) := by decide +kernel
theorem d_R_since_22 : decode M_R_since.2.1 22 = .ok (.aload_n 0, 1) := by decide +kernel
theorem d_R_since_23 : decode M_R_since.2.1 23 = .ok (.getfield 71, 3) := by decide +kernel
theorem d_R_since_26 : decode M_R_since.2.1 26 = .ok (.bipush 24, 2) := by decide +kernel
theorem d_R_since_28 : decode M_R_since.2.1 28 = .ok (.iload_n 1, 1) := by decide +kernel
theorem d_R_since_29 : decode M_R_since.2.1 29 = .ok (.imul, 1) := by decide +kernel
theorem d_R_since_30 : decode M_R_since.2.1 30 = .ok (.iload_n 2, 1) := by decide +kernel
theorem d_R_since_31 : decode M_R_since.2.1 31 = .ok (.iadd, 1) := by decide +kernel
theorem d_R_since_32 : decode M_R_since.2.1 32 = .ok (.iaload, 1) := by decide +kernel
theorem d_R_since_33 : decode M_R_since.2.1 33 = .ok (.ireturn, 1) := by decide +kernel
theorem d_R_teller_0 : decode M_R_teller.2.1 0 = .ok (.aload_n 0, 1) := by decide +kernel
theorem d_R_teller_1 : decode M_R_teller.2.1 1 = .ok (.iload_n 1, 1) := by decide +kernel
theorem d_R_teller_2 : decode M_R_teller.2.1 2 = .ok (.invokevirtual 184, 3) := by decide +kernel
theorem d_R_teller_5 : decode M_R_teller.2.1 5 = .ok (.ifCond .eq 11, 3) := by decide +kernel
theorem d_R_teller_8 : decode M_R_teller.2.1 8 = .ok (.aload_n 0, 1) := by decide +kernel
theorem d_R_teller_9 : decode M_R_teller.2.1 9 = .ok (.iload_n 2, 1) := by decide +kernel
theorem d_R_teller_10 : decode M_R_teller.2.1 10 = .ok (.invokevirtual 187, 3) := by decide +kernel
theorem d_R_teller_13 : decode M_R_teller.2.1 13 = .ok (.ifCond .ne 5, 3) := by decide +kernel
theorem d_R_teller_16 : decode M_R_teller.2.1 16 = .ok (.iconst (-1), 1) := by decide +kernel
theorem d_R_teller_17 : decode M_R_teller.2.1 17 = .ok (.ireturn, 1) := by decide +kernel
theorem d_R_teller_18 : decode M_R_teller.2.1 18 = .ok (.aload_n 0, 1) := by decide +kernel
theorem d_R_teller_19 : decode M_R_teller.2.1 19 = .ok (.invokevirtual 239, 3) := by decide +kernel
theorem d_R_teller_22 : decode M_R_teller.2.1 22 = .ok (.aload_n 0, 1) := by decide +kernel
theorem d_R_teller_23 : decode M_R_teller.2.1 23 = .ok (.getfield 74, 3) := by decide +kernel
theorem d_R_teller_26 : decode M_R_teller.2.1 26 = .ok (.bipush 24, 2) := by decide +kernel
theorem d_R_teller_28 : decode M_R_teller.2.1 28 = .ok (.iload_n 1, 1) := by decide +kernel
theorem d_R_teller_29 : decode M_R_teller.2.1 29 = .ok (.imul, 1) := by decide +kernel
theorem d_R_teller_30 : decode M_R_teller.2.1 30 = .ok (.iload_n 2, 1) := by decide +kernel
theorem d_R_teller_31 : decode M_R_teller.2.1 31 = .ok (.iadd, 1) := by decide +kernel
theorem d_R_teller_32 : decode M_R_teller.2.1 32 = .ok (.iaload, 1) := by decide +kernel
theorem d_R_teller_33 : decode M_R_teller.2.1 33 = .ok (.ireturn, 1) := by decide +kernel
theorem d_R_tellings_0 : decode M_R_tellings.2.1 0 = .ok (.aload_n 0, 1) := by decide +kernel
theorem d_R_tellings_1 : decode M_R_tellings.2.1 1 = .ok (.iload_n 1, 1) := by decide +kernel
theorem d_R_tellings_2 : decode M_R_tellings.2.1 2 = .ok (.invokevirtual 184, 3) := by decide +kernel
theorem d_R_tellings_5 : decode M_R_tellings.2.1 5 = .ok (.ifCond .eq 11, 3) := by decide +kernel
theorem d_R_tellings_8 : decode M_R_tellings.2.1 8 = .ok (.aload_n 0, 1) := by decide +kernel
theorem d_R_tellings_9 : decode M_R_tellings.2.1 9 = .ok (.iload_n 2, 1) := by decide +kernel
theorem d_R_tellings_10 : decode M_R_tellings.2.1 10 = .ok (.invokevirtual 187, 3) := by decide +kernel
theorem d_R_tellings_13 : decode M_R_tellings.2.1 13 = .ok (.ifCond .ne 5, 3) := by decide +kernel
theorem d_R_tellings_16 : decode M_R_tellings.2.1 16 = .ok (.iconst (-1), 1) := by decide +kernel
theorem d_R_tellings_17 : decode M_R_tellings.2.1 17 = .ok (.ireturn, 1) := by decide +kernel
theorem d_R_tellings_18 : decode M_R_tellings.2.1 18 = .ok (.aload_n 0, 1) := by decide +kernel
theorem d_R_tellings_19 : decode M_R_tellings.2.1 19 = .ok (.invokevirtual 239, 3) := by decide +kernel
theorem d_R_tellings_22 : decode M_R_tellings.2.1 22 = .ok (.aload_n 0, 1) := by decide +kernel
theorem d_R_tellings_23 : decode M_R_tellings.2.1 23 = .ok (.getfield 77, 3) := by decide +kernel
theorem d_R_tellings_26 : decode M_R_tellings.2.1 26 = .ok (.bipush 24, 2) := by decide +kernel
theorem d_R_tellings_28 : decode M_R_tellings.2.1 28 = .ok (.iload_n 1, 1) := by decide +kernel
theorem d_R_tellings_29 : decode M_R_tellings.2.1 29 = .ok (.imul, 1) := by decide +kernel
theorem d_R_tellings_30 : decode M_R_tellings.2.1 30 = .ok (.iload_n 2, 1) := by decide +kernel
theorem d_R_tellings_31 : decode M_R_tellings.2.1 31 = .ok (.iadd, 1) := by decide +kernel
theorem d_R_tellings_32 : decode M_R_tellings.2.1 32 = .ok (.iaload, 1) := by decide +kernel
theorem d_R_tellings_33 : decode M_R_tellings.2.1 33 = .ok (.ireturn, 1) := by decide +kernel
theorem d_R_shown_0 : decode M_R_shown.2.1 0 = .ok (.aload_n 0, 1) := by decide +kernel
theorem d_R_shown_1 : decode M_R_shown.2.1 1 = .ok (.iload_n 1, 1) := by decide +kernel
theorem d_R_shown_2 : decode M_R_shown.2.1 2 = .ok (.invokevirtual 187, 3) := by decide +kernel
theorem d_R_shown_5 : decode M_R_shown.2.1 5 = .ok (.ifCond .ne 5, 3) := by decide +kernel
theorem d_R_shown_8 : decode M_R_shown.2.1 8 = .ok (.iconst (-1), 1) := by decide +kernel
theorem d_R_shown_9 : decode M_R_shown.2.1 9 = .ok (.ireturn, 1) := by decide +kernel
theorem d_R_shown_10 : decode M_R_shown.2.1 10 = .ok (.aload_n 0, 1) := by decide +kernel
theorem d_R_shown_11 : decode M_R_shown.2.1 11 = .ok (.invokevirtual 239, 3) := by decide +kernel
theorem d_R_shown_14 : decode M_R_shown.2.1 14 = .ok (.aload_n 0, 1) := by decide +kernel
theorem d_R_shown_15 : decode M_R_shown.2.1 15 = .ok (.getfield 83, 3) := by decide +kernel
theorem d_R_shown_18 : decode M_R_shown.2.1 18 = .ok (.iload_n 1, 1) := by decide +kernel
theorem d_R_shown_19 : decode M_R_shown.2.1 19 = .ok (.iaload, 1) := by decide +kernel
theorem d_R_shown_20 : decode M_R_shown.2.1 20 = .ok (.ireturn, 1) := by decide +kernel
theorem d_R_stands_0 : decode M_R_stands.2.1 0 = .ok (.aload_n 0, 1) := by decide +kernel
theorem d_R_stands_1 : decode M_R_stands.2.1 1 = .ok (.iload_n 1, 1) := by decide +kernel
theorem d_R_stands_2 : decode M_R_stands.2.1 2 = .ok (.invokevirtual 193, 3) := by decide +kernel
theorem d_R_stands_5 : decode M_R_stands.2.1 5 = .ok (.ifCond .eq 20, 3) := by decide +kernel
theorem d_R_stands_8 : decode M_R_stands.2.1 8 = .ok (.aload_n 0, 1) := by decide +kernel
theorem d_R_stands_9 : decode M_R_stands.2.1 9 = .ok (.iload_n 2, 1) := by decide +kernel
theorem d_R_stands_10 : decode M_R_stands.2.1 10 = .ok (.invokevirtual 184, 3) := by decide +kernel
theorem d_R_stands_13 : decode M_R_stands.2.1 13 = .ok (.ifCond .eq 12, 3) := by decide +kernel
theorem d_R_stands_16 : decode M_R_stands.2.1 16 = .ok (.iload_n 3, 1) := by decide +kernel
theorem d_R_stands_17 : decode M_R_stands.2.1 17 = .ok (.iconst 0, 1) := by decide +kernel
theorem d_R_stands_18 : decode M_R_stands.2.1 18 = .ok (.iconst 2, 1) := by decide +kernel
theorem d_R_stands_19 : decode M_R_stands.2.1 19 = .ok (.invokestatic 153, 3) := by decide +kernel
theorem d_R_stands_22 : decode M_R_stands.2.1 22 = .ok (.ifCond .ne 5, 3) := by decide +kernel
theorem d_R_stands_25 : decode M_R_stands.2.1 25 = .ok (.iconst (-1), 1) := by decide +kernel
theorem d_R_stands_26 : decode M_R_stands.2.1 26 = .ok (.ireturn, 1) := by decide +kernel
theorem d_R_stands_27 : decode M_R_stands.2.1 27 = .ok (.aload_n 0, 1) := by decide +kernel
theorem d_R_stands_28 : decode M_R_stands.2.1 28 = .ok (.invokevirtual 239, 3) := by decide +kernel
theorem d_R_stands_31 : decode M_R_stands.2.1 31 = .ok (.iload_n 3, 1) := by decide +kernel
theorem d_R_stands_32 : decode M_R_stands.2.1 32 = .ok (.ifCond .ne 16, 3) := by decide +kernel
theorem d_R_stands_35 : decode M_R_stands.2.1 35 = .ok (.aload_n 0, 1) := by decide +kernel
theorem d_R_stands_36 : decode M_R_stands.2.1 36 = .ok (.getfield 86, 3) := by decide +kernel
theorem d_R_stands_39 : decode M_R_stands.2.1 39 = .ok (.iload_n 1, 1) := by decide +kernel
theorem d_R_stands_40 : decode M_R_stands.2.1 40 = .ok (.iaload, 1) := by decide +kernel
theorem d_R_stands_41 : decode M_R_stands.2.1 41 = .ok (.iload_n 2, 1) := by decide +kernel
theorem d_R_stands_42 : decode M_R_stands.2.1 42 = .ok (.ishr, 1) := by decide +kernel
theorem d_R_stands_43 : decode M_R_stands.2.1 43 = .ok (.iconst 1, 1) := by decide +kernel
theorem d_R_stands_44 : decode M_R_stands.2.1 44 = .ok (.iand, 1) := by decide +kernel
theorem d_R_stands_45 : decode M_R_stands.2.1 45 = .ok (.goto 33, 3) := by decide +kernel
theorem d_R_stands_48 : decode M_R_stands.2.1 48 = .ok (.iload_n 3, 1) := by decide +kernel
theorem d_R_stands_49 : decode M_R_stands.2.1 49 = .ok (.iconst 1, 1) := by decide +kernel
theorem d_R_stands_50 : decode M_R_stands.2.1 50 = .ok (.if_icmp .ne 17, 3) := by decide +kernel
theorem d_R_stands_53 : decode M_R_stands.2.1 53 = .ok (.aload_n 0, 1) := by decide +kernel
theorem d_R_stands_54 : decode M_R_stands.2.1 54 = .ok (.getfield 89, 3) := by decide +kernel
theorem d_R_stands_57 : decode M_R_stands.2.1 57 = .ok (.bipush 12, 2) := by decide +kernel
theorem d_R_stands_59 : decode M_R_stands.2.1 59 = .ok (.iload_n 1, 1) := by decide +kernel
theorem d_R_stands_60 : decode M_R_stands.2.1 60 = .ok (.imul, 1) := by decide +kernel
theorem d_R_stands_61 : decode M_R_stands.2.1 61 = .ok (.iload_n 2, 1) := by decide +kernel
theorem d_R_stands_62 : decode M_R_stands.2.1 62 = .ok (.iadd, 1) := by decide +kernel
theorem d_R_stands_63 : decode M_R_stands.2.1 63 = .ok (.iaload, 1) := by decide +kernel
theorem d_R_stands_64 : decode M_R_stands.2.1 64 = .ok (.goto 14, 3) := by decide +kernel
theorem d_R_stands_67 : decode M_R_stands.2.1 67 = .ok (.aload_n 0, 1) := by decide +kernel
theorem d_R_stands_68 : decode M_R_stands.2.1 68 = .ok (.getfield 92, 3) := by decide +kernel
theorem d_R_stands_71 : decode M_R_stands.2.1 71 = .ok (.bipush 12, 2) := by decide +kernel
theorem d_R_stands_73 : decode M_R_stands.2.1 73 = .ok (.iload_n 1, 1) := by decide +kernel
theorem d_R_stands_74 : decode M_R_stands.2.1 74 = .ok (.imul, 1) := by decide +kernel
theorem d_R_stands_75 : decode M_R_stands.2.1 75 = .ok (.iload_n 2, 1) := by decide +kernel
theorem d_R_stands_76 : decode M_R_stands.2.1 76 = .ok (.iadd, 1) := by decide +kernel
theorem d_R_stands_77 : decode M_R_stands.2.1 77 = .ok (.iaload, 1) := by decide +kernel
theorem d_R_stands_78 : decode M_R_stands.2.1 78 = .ok (.ireturn, 1) := by decide +kernel
theorem d_R_leave_0 : decode M_R_leave.2.1 0 = .ok (.aload_n 0, 1) := by decide +kernel
theorem d_R_leave_1 : decode M_R_leave.2.1 1 = .ok (.iload_n 1, 1) := by decide +kernel
theorem d_R_leave_2 : decode M_R_leave.2.1 2 = .ok (.invokevirtual 184, 3) := by decide +kernel
theorem d_R_leave_5 : decode M_R_leave.2.1 5 = .ok (.ifCond .eq 13, 3) := by decide +kernel
theorem d_R_leave_8 : decode M_R_leave.2.1 8 = .ok (.iload_n 2, 1) := by decide +kernel
theorem d_R_leave_9 : decode M_R_leave.2.1 9 = .ok (.iconst 1, 1) := by decide +kernel
theorem d_R_leave_10 : decode M_R_leave.2.1 10 = .ok (.bipush 26, 2) := by decide +kernel
theorem d_R_leave_12 : decode M_R_leave.2.1 12 = .ok (.invokestatic 153, 3) := by decide +kernel
theorem d_R_leave_15 : decode M_R_leave.2.1 15 = .ok (.ifCond .ne 5, 3) := by decide +kernel
theorem d_R_leave_18 : decode M_R_leave.2.1 18 = .ok (.iconst (-1), 1) := by decide +kernel
theorem d_R_leave_19 : decode M_R_leave.2.1 19 = .ok (.ireturn, 1) := by decide +kernel
theorem d_R_leave_20 : decode M_R_leave.2.1 20 = .ok (.aload_n 0, 1) := by decide +kernel
theorem d_R_leave_21 : decode M_R_leave.2.1 21 = .ok (.invokevirtual 239, 3) := by decide +kernel
theorem d_R_leave_24 : decode M_R_leave.2.1 24 = .ok (.iconst 0, 1) := by decide +kernel
theorem d_R_leave_25 : decode M_R_leave.2.1 25 = .ok (.istore_n 3, 1) := by decide +kernel
theorem d_R_leave_26 : decode M_R_leave.2.1 26 = .ok (.iload_n 3, 1) := by decide +kernel
theorem d_R_leave_27 : decode M_R_leave.2.1 27 = .ok (.sipush 600, 3) := by decide +kernel
theorem d_R_leave_30 : decode M_R_leave.2.1 30 = .ok (.if_icmp .ge 21, 3) := by decide +kernel
theorem d_R_leave_33 : decode M_R_leave.2.1 33 = .ok (.aload_n 0, 1) := by decide +kernel
theorem d_R_leave_34 : decode M_R_leave.2.1 34 = .ok (.getfield 111, 3) := by decide +kernel
theorem d_R_leave_37 : decode M_R_leave.2.1 37 = .ok (.iload_n 3, 1) := by decide +kernel
theorem d_R_leave_38 : decode M_R_leave.2.1 38 = .ok (.aload_n 0, 1) := by decide +kernel
theorem d_R_leave_39 : decode M_R_leave.2.1 39 = .ok (.getfield 107, 3) := by decide +kernel
theorem d_R_leave_42 : decode M_R_leave.2.1 42 = .ok (.iload_n 3, 1) := by decide +kernel
theorem d_R_leave_43 : decode M_R_leave.2.1 43 = .ok (.baload, 1) := by decide +kernel
theorem d_R_leave_44 : decode M_R_leave.2.1 44 = .ok (.bastore, 1) := by decide +kernel
theorem d_R_leave_45 : decode M_R_leave.2.1 45 = .ok (.iinc 3 1, 3) := by decide +kernel
theorem d_R_leave_48 : decode M_R_leave.2.1 48 = .ok (.goto (-22), 3) := by decide +kernel
theorem d_R_leave_51 : decode M_R_leave.2.1 51 = .ok (.aload_n 0, 1) := by decide +kernel
theorem d_R_leave_52 : decode M_R_leave.2.1 52 = .ok (.aload_n 0, 1) := by decide +kernel
theorem d_R_leave_53 : decode M_R_leave.2.1 53 = .ok (.getfield 9, 3) := by decide +kernel
theorem d_R_leave_56 : decode M_R_leave.2.1 56 = .ok (.iload_n 1, 1) := by decide +kernel
theorem d_R_leave_57 : decode M_R_leave.2.1 57 = .ok (.iload_n 2, 1) := by decide +kernel
theorem d_R_leave_58 : decode M_R_leave.2.1 58 = .ok (.invokevirtual 196, 3) := by decide +kernel
theorem d_R_leave_61 : decode M_R_leave.2.1 61 = .ok (.iconst 0, 1) := by decide +kernel
theorem d_R_leave_62 : decode M_R_leave.2.1 62 = .ok (.istore_n 3, 1) := by decide +kernel
theorem d_R_leave_63 : decode M_R_leave.2.1 63 = .ok (.iconst 0, 1) := by decide +kernel
theorem d_R_leave_64 : decode M_R_leave.2.1 64 = .ok (.istore 4, 2) := by decide +kernel
theorem d_R_leave_66 : decode M_R_leave.2.1 66 = .ok (.iload 4, 2) := by decide +kernel
theorem d_R_leave_68 : decode M_R_leave.2.1 68 = .ok (.sipush 600, 3) := by decide +kernel
theorem d_R_leave_71 : decode M_R_leave.2.1 71 = .ok (.if_icmp .ge 37, 3) := by decide +kernel
theorem d_R_leave_74 : decode M_R_leave.2.1 74 = .ok (.iload_n 3, 1) := by decide +kernel
theorem d_R_leave_75 : decode M_R_leave.2.1 75 = .ok (.aload_n 0, 1) := by decide +kernel
theorem d_R_leave_76 : decode M_R_leave.2.1 76 = .ok (.getfield 111, 3) := by decide +kernel
theorem d_R_leave_79 : decode M_R_leave.2.1 79 = .ok (.iload 4, 2) := by decide +kernel
theorem d_R_leave_81 : decode M_R_leave.2.1 81 = .ok (.baload, 1) := by decide +kernel
theorem d_R_leave_82 : decode M_R_leave.2.1 82 = .ok (.ifCond .eq 17, 3) := by decide +kernel
theorem d_R_leave_85 : decode M_R_leave.2.1 85 = .ok (.aload_n 0, 1) := by decide +kernel
theorem d_R_leave_86 : decode M_R_leave.2.1 86 = .ok (.getfield 107, 3) := by decide +kernel
theorem d_R_leave_89 : decode M_R_leave.2.1 89 = .ok (.iload 4, 2) := by decide +kernel
theorem d_R_leave_91 : decode M_R_leave.2.1 91 = .ok (.baload, 1) := by decide +kernel
theorem d_R_leave_92 : decode M_R_leave.2.1 92 = .ok (.ifCond .ne 7, 3) := by decide +kernel
theorem d_R_leave_95 : decode M_R_leave.2.1 95 = .ok (.iconst 1, 1) := by decide +kernel
theorem d_R_leave_96 : decode M_R_leave.2.1 96 = .ok (.goto 4, 3) := by decide +kernel
theorem d_R_leave_99 : decode M_R_leave.2.1 99 = .ok (.iconst 0, 1) := by decide +kernel
theorem d_R_leave_100 : decode M_R_leave.2.1 100 = .ok (.iadd, 1) := by decide +kernel
theorem d_R_leave_101 : decode M_R_leave.2.1 101 = .ok (.istore_n 3, 1) := by decide +kernel
theorem d_R_leave_102 : decode M_R_leave.2.1 102 = .ok (.iinc 4 1, 3) := by decide +kernel
theorem d_R_leave_105 : decode M_R_leave.2.1 105 = .ok (.goto (-39), 3) := by decide +kernel
theorem d_R_leave_108 : decode M_R_leave.2.1 108 = .ok (.iload_n 3, 1) := by decide +kernel
theorem d_R_leave_109 : decode M_R_leave.2.1 109 = .ok (.ireturn, 1) := by decide +kernel
theorem d_R_rule_0 : decode M_R_rule.2.1 0 = .ok (.aload_n 0, 1) := by decide +kernel
theorem d_R_rule_1 : decode M_R_rule.2.1 1 = .ok (.iload_n 1, 1) := by decide +kernel
theorem d_R_rule_2 : decode M_R_rule.2.1 2 = .ok (.invokevirtual 184, 3) := by decide +kernel
theorem d_R_rule_5 : decode M_R_rule.2.1 5 = .ok (.ifCond .eq 10, 3) := by decide +kernel
theorem d_R_rule_8 : decode M_R_rule.2.1 8 = .ok (.iload_n 2, 1) := by decide +kernel
theorem d_R_rule_9 : decode M_R_rule.2.1 9 = .ok (.invokestatic 255, 3) := by decide +kernel
theorem d_R_rule_12 : decode M_R_rule.2.1 12 = .ok (.ifCond .ne 5, 3) := by decide +kernel
theorem d_R_rule_15 : decode M_R_rule.2.1 15 = .ok (.iconst (-1), 1) := by decide +kernel
theorem d_R_rule_16 : decode M_R_rule.2.1 16 = .ok (.ireturn, 1) := by decide +kernel
theorem d_R_rule_17 : decode M_R_rule.2.1 17 = .ok (.aload_n 0, 1) := by decide +kernel
theorem d_R_rule_18 : decode M_R_rule.2.1 18 = .ok (.iload_n 2, 1) := by decide +kernel
theorem d_R_rule_19 : decode M_R_rule.2.1 19 = .ok (.iconst 1, 1) := by decide +kernel
theorem d_R_rule_20 : decode M_R_rule.2.1 20 = .ok (.invokevirtual 258, 3) := by decide +kernel
theorem d_R_rule_23 : decode M_R_rule.2.1 23 = .ok (.istore_n 3, 1) := by decide +kernel
theorem d_R_rule_24 : decode M_R_rule.2.1 24 = .ok (.iload_n 3, 1) := by decide +kernel
theorem d_R_rule_25 : decode M_R_rule.2.1 25 = .ok (.ifCond .eq 5, 3) := by decide +kernel
theorem d_R_rule_28 : decode M_R_rule.2.1 28 = .ok (.iload_n 3, 1) := by decide +kernel
theorem d_R_rule_29 : decode M_R_rule.2.1 29 = .ok (.ireturn, 1) := by decide +kernel
theorem d_R_rule_30 : decode M_R_rule.2.1 30 = .ok (.aload_n 0, 1) := by decide +kernel
theorem d_R_rule_31 : decode M_R_rule.2.1 31 = .ok (.iload_n 2, 1) := by decide +kernel
theorem d_R_rule_32 : decode M_R_rule.2.1 32 = .ok (.invokevirtual 261, 3) := by decide +kernel
theorem d_R_rule_35 : decode M_R_rule.2.1 35 = .ok (.istore 4, 2) := by decide +kernel
theorem d_R_rule_37 : decode M_R_rule.2.1 37 = .ok (.iload 4, 2) := by decide +kernel
theorem d_R_rule_39 : decode M_R_rule.2.1 39 = .ok (.ifCond .ge 9, 3) := by decide +kernel
theorem d_R_rule_42 : decode M_R_rule.2.1 42 = .ok (.bipush (-99), 2) := by decide +kernel
theorem d_R_rule_44 : decode M_R_rule.2.1 44 = .ok (.iload 4, 2) := by decide +kernel
theorem d_R_rule_46 : decode M_R_rule.2.1 46 = .ok (.iadd, 1) := by decide +kernel
theorem d_R_rule_47 : decode M_R_rule.2.1 47 = .ok (.ireturn, 1) := by decide +kernel
theorem d_R_rule_48 : decode M_R_rule.2.1 48 = .ok (.iload 4, 2) := by decide +kernel
theorem d_R_rule_50 : decode M_R_rule.2.1 50 = .ok (.bipush 40, 2) := by decide +kernel
theorem d_R_rule_52 : decode M_R_rule.2.1 52 = .ok (.if_icmp .le 6, 3) := by decide +kernel
theorem d_R_rule_55 : decode M_R_rule.2.1 55 = .ok (.bipush (-2), 2) := by decide +kernel
theorem d_R_rule_57 : decode M_R_rule.2.1 57 = .ok (.ireturn, 1) := by decide +kernel
theorem d_R_rule_58 : decode M_R_rule.2.1 58 = .ok (.aload_n 0, 1) := by decide +kernel
theorem d_R_rule_59 : decode M_R_rule.2.1 59 = .ok (.iconst 0, 1) := by decide +kernel
theorem d_R_rule_60 : decode M_R_rule.2.1 60 = .ok (.putfield 163, 3) := by decide +kernel
theorem d_R_rule_63 : decode M_R_rule.2.1 63 = .ok (.bipush 16, 2) := by decide +kernel
theorem d_R_rule_65 : decode M_R_rule.2.1 65 = .ok (.bipush 65, 2) := by decide +kernel
theorem d_R_rule_67 : decode M_R_rule.2.1 67 = .ok (.iload_n 1, 1) := by decide +kernel
theorem d_R_rule_68 : decode M_R_rule.2.1 68 = .ok (.imul, 1) := by decide +kernel
theorem d_R_rule_69 : decode M_R_rule.2.1 69 = .ok (.iadd, 1) := by decide +kernel
theorem d_R_rule_70 : decode M_R_rule.2.1 70 = .ok (.istore 5, 2) := by decide +kernel
theorem d_R_rule_72 : decode M_R_rule.2.1 72 = .ok (.aload_n 0, 1) := by decide +kernel
theorem d_R_rule_73 : decode M_R_rule.2.1 73 = .ok (.getfield 9, 3) := by decide +kernel
theorem d_R_rule_76 : decode M_R_rule.2.1 76 = .ok (.iload 5, 2) := by decide +kernel
theorem d_R_rule_78 : decode M_R_rule.2.1 78 = .ok (.iload 4, 2) := by decide +kernel
theorem d_R_rule_80 : decode M_R_rule.2.1 80 = .ok (.iastore, 1) := by decide +kernel
theorem d_R_rule_81 : decode M_R_rule.2.1 81 = .ok (.iconst 0, 1) := by decide +kernel
theorem d_R_rule_82 : decode M_R_rule.2.1 82 = .ok (.istore 6, 2) := by decide +kernel
theorem d_R_rule_84 : decode M_R_rule.2.1 84 = .ok (.iload 6, 2) := by decide +kernel
theorem d_R_rule_86 : decode M_R_rule.2.1 86 = .ok (.aload_n 0, 1) := by decide +kernel
theorem d_R_rule_87 : decode M_R_rule.2.1 87 = .ok (.getfield 19, 3) := by decide +kernel
theorem d_R_rule_90 : decode M_R_rule.2.1 90 = .ok (.iload_n 2, 1) := by decide +kernel
theorem d_R_rule_91 : decode M_R_rule.2.1 91 = .ok (.iaload, 1) := by decide +kernel
theorem d_R_rule_92 : decode M_R_rule.2.1 92 = .ok (.if_icmp .ge 28, 3) := by decide +kernel
theorem d_R_rule_95 : decode M_R_rule.2.1 95 = .ok (.aload_n 0, 1) := by decide +kernel
theorem d_R_rule_96 : decode M_R_rule.2.1 96 = .ok (.getfield 9, 3) := by decide +kernel
theorem d_R_rule_99 : decode M_R_rule.2.1 99 = .ok (.iload 5, 2) := by decide +kernel
theorem d_R_rule_101 : decode M_R_rule.2.1 101 = .ok (.iconst 1, 1) := by decide +kernel
theorem d_R_rule_102 : decode M_R_rule.2.1 102 = .ok (.iadd, 1) := by decide +kernel
theorem d_R_rule_103 : decode M_R_rule.2.1 103 = .ok (.iload 6, 2) := by decide +kernel
theorem d_R_rule_105 : decode M_R_rule.2.1 105 = .ok (.iadd, 1) := by decide +kernel
theorem d_R_rule_106 : decode M_R_rule.2.1 106 = .ok (.aload_n 0, 1) := by decide +kernel
theorem d_R_rule_107 : decode M_R_rule.2.1 107 = .ok (.iload_n 2, 1) := by decide +kernel
theorem d_R_rule_108 : decode M_R_rule.2.1 108 = .ok (.iload 6, 2) := by decide +kernel
theorem d_R_rule_110 : decode M_R_rule.2.1 110 = .ok (.invokevirtual 242, 3) := by decide +kernel
theorem d_R_rule_113 : decode M_R_rule.2.1 113 = .ok (.iastore, 1) := by decide +kernel
theorem d_R_rule_114 : decode M_R_rule.2.1 114 = .ok (.iinc 6 1, 3) := by decide +kernel
theorem d_R_rule_117 : decode M_R_rule.2.1 117 = .ok (.goto (-33), 3) := by decide +kernel
theorem d_R_rule_120 : decode M_R_rule.2.1 120 = .ok (.iload 4, 2) := by decide +kernel
theorem d_R_rule_122 : decode M_R_rule.2.1 122 = .ok (.ireturn, 1) := by decide +kernel
theorem d_R_isTape_0 : decode M_R_isTape.2.1 0 = .ok (.iload_n 0, 1) := by decide +kernel
theorem d_R_isTape_1 : decode M_R_isTape.2.1 1 = .ok (.iconst 0, 1) := by decide +kernel
theorem d_R_isTape_2 : decode M_R_isTape.2.1 2 = .ok (.iconst 5, 1) := by decide +kernel
theorem d_R_isTape_3 : decode M_R_isTape.2.1 3 = .ok (.invokestatic 153, 3) := by decide +kernel
theorem d_R_isTape_6 : decode M_R_isTape.2.1 6 = .ok (.ireturn, 1) := by decide +kernel
theorem d_R_wrongRow_0 : decode M_R_wrongRow.2.1 0 = .ok (.aload_n 0, 1) := by decide +kernel
theorem d_R_wrongRow_1 : decode M_R_wrongRow.2.1 1 = .ok (.getfield 16, 3) := by decide +kernel
theorem d_R_wrongRow_4 : decode M_R_wrongRow.2.1 4 = .ok (.iload_n 1, 1) := by decide +kernel
theorem d_R_wrongRow_5 : decode M_R_wrongRow.2.1 5 = .ok (.iaload, 1) := by decide +kernel
theorem d_R_wrongRow_6 : decode M_R_wrongRow.2.1 6 = .ok (.ifCond .ne 12, 3) := by decide +kernel
theorem d_R_wrongRow_9 : decode M_R_wrongRow.2.1 9 = .ok (.aload_n 0, 1) := by decide +kernel
theorem d_R_wrongRow_10 : decode M_R_wrongRow.2.1 10 = .ok (.bipush (-11), 2) := by decide +kernel
theorem d_R_wrongRow_12 : decode M_R_wrongRow.2.1 12 = .ok (.invokevirtual 252, 3) := by decide +kernel
theorem d_R_wrongRow_15 : decode M_R_wrongRow.2.1 15 = .ok (.goto 23, 3) := by decide +kernel
theorem d_R_wrongRow_18 : decode M_R_wrongRow.2.1 18 = .ok (.aload_n 0, 1) := by decide +kernel
theorem d_R_wrongRow_19 : decode M_R_wrongRow.2.1 19 = .ok (.getfield 16, 3) := by decide +kernel
theorem d_R_wrongRow_22 : decode M_R_wrongRow.2.1 22 = .ok (.iload_n 1, 1) := by decide +kernel
theorem d_R_wrongRow_23 : decode M_R_wrongRow.2.1 23 = .ok (.iaload, 1) := by decide +kernel
theorem d_R_wrongRow_24 : decode M_R_wrongRow.2.1 24 = .ok (.iload_n 2, 1) := by decide +kernel
theorem d_R_wrongRow_25 : decode M_R_wrongRow.2.1 25 = .ok (.if_icmp .eq 12, 3) := by decide +kernel
theorem d_R_wrongRow_28 : decode M_R_wrongRow.2.1 28 = .ok (.aload_n 0, 1) := by decide +kernel
theorem d_R_wrongRow_29 : decode M_R_wrongRow.2.1 29 = .ok (.bipush (-12), 2) := by decide +kernel
theorem d_R_wrongRow_31 : decode M_R_wrongRow.2.1 31 = .ok (.invokevirtual 252, 3) := by decide +kernel
theorem d_R_wrongRow_34 : decode M_R_wrongRow.2.1 34 = .ok (.goto 4, 3) := by decide +kernel
theorem d_R_wrongRow_37 : decode M_R_wrongRow.2.1 37 = .ok (.iconst 0, 1) := by decide +kernel
theorem d_R_wrongRow_38 : decode M_R_wrongRow.2.1 38 = .ok (.ireturn, 1) := by decide +kernel
theorem d_R_host_0 : decode M_R_host.2.1 0 = .ok (.aload_n 0, 1) := by decide +kernel
theorem d_R_host_1 : decode M_R_host.2.1 1 = .ok (.dup, 1) := by decide +kernel
theorem d_R_host_2 : decode M_R_host.2.1 2 = .ok (.getfield 150, 3) := by decide +kernel
theorem d_R_host_5 : decode M_R_host.2.1 5 = .ok (.iconst 1, 1) := by decide +kernel
theorem d_R_host_6 : decode M_R_host.2.1 6 = .ok (.iadd, 1) := by decide +kernel
theorem d_R_host_7 : decode M_R_host.2.1 7 = .ok (.putfield 150, 3) := by decide +kernel
theorem d_R_host_10 : decode M_R_host.2.1 10 = .ok (.iload_n 1, 1) := by decide +kernel
theorem d_R_host_11 : decode M_R_host.2.1 11 = .ok (.ireturn, 1) := by decide +kernel
theorem d_R_orders_0 : decode M_R_orders.2.1 0 = .ok (.iconst 0, 1) := by decide +kernel
theorem d_R_orders_1 : decode M_R_orders.2.1 1 = .ok (.istore_n 2, 1) := by decide +kernel
theorem d_R_orders_2 : decode M_R_orders.2.1 2 = .ok (.iconst 0, 1) := by decide +kernel
theorem d_R_orders_3 : decode M_R_orders.2.1 3 = .ok (.istore_n 3, 1) := by decide +kernel
theorem d_R_orders_4 : decode M_R_orders.2.1 4 = .ok (.iconst 0, 1) := by decide +kernel
theorem d_R_orders_5 : decode M_R_orders.2.1 5 = .ok (.istore 4, 2) := by decide +kernel
theorem d_R_orders_7 : decode M_R_orders.2.1 7 = .ok (.iload 4, 2) := by decide +kernel
theorem d_R_orders_9 : decode M_R_orders.2.1 9 = .ok (.aload_n 0, 1) := by decide +kernel
theorem d_R_orders_10 : decode M_R_orders.2.1 10 = .ok (.getfield 19, 3) := by decide +kernel
theorem d_R_orders_13 : decode M_R_orders.2.1 13 = .ok (.iload_n 1, 1) := by decide +kernel
theorem d_R_orders_14 : decode M_R_orders.2.1 14 = .ok (.iaload, 1) := by decide +kernel
theorem d_R_orders_15 : decode M_R_orders.2.1 15 = .ok (.if_icmp .ge 192, 3) := by decide +kernel
theorem d_R_orders_18 : decode M_R_orders.2.1 18 = .ok (.aload_n 0, 1) := by decide +kernel
theorem d_R_orders_19 : decode M_R_orders.2.1 19 = .ok (.iload_n 1, 1) := by decide +kernel
theorem d_R_orders_20 : decode M_R_orders.2.1 20 = .ok (.iload 4, 2) := by decide +kernel
theorem d_R_orders_22 : decode M_R_orders.2.1 22 = .ok (.invokevirtual 242, 3) := by decide +kernel
theorem d_R_orders_25 : decode M_R_orders.2.1 25 = .ok (.istore 5, 2) := by decide +kernel
theorem d_R_orders_27 : decode M_R_orders.2.1 27 = .ok (.iload 5, 2) := by decide +kernel
theorem d_R_orders_29 : decode M_R_orders.2.1 29 = .ok (.invokestatic 245, 3) := by decide +kernel
theorem d_R_orders_32 : decode M_R_orders.2.1 32 = .ok (.istore 6, 2) := by decide +kernel
theorem d_R_orders_34 : decode M_R_orders.2.1 34 = .ok (.iload 5, 2) := by decide +kernel
theorem d_R_orders_36 : decode M_R_orders.2.1 36 = .ok (.iconst 0, 1) := by decide +kernel
theorem d_R_orders_37 : decode M_R_orders.2.1 37 = .ok (.bipush 7, 2) := by decide +kernel
theorem d_R_orders_39 : decode M_R_orders.2.1 39 = .ok (.invokestatic 153, 3) := by decide +kernel
theorem d_R_orders_42 : decode M_R_orders.2.1 42 = .ok (.ifCond .eq 21, 3) := by decide +kernel
theorem d_R_orders_45 : decode M_R_orders.2.1 45 = .ok (.iload 4, 2) := by decide +kernel
theorem d_R_orders_47 : decode M_R_orders.2.1 47 = .ok (.iload 6, 2) := by decide +kernel
theorem d_R_orders_49 : decode M_R_orders.2.1 49 = .ok (.iadd, 1) := by decide +kernel
theorem d_R_orders_50 : decode M_R_orders.2.1 50 = .ok (.aload_n 0, 1) := by decide +kernel
theorem d_R_orders_51 : decode M_R_orders.2.1 51 = .ok (.getfield 19, 3) := by decide +kernel
theorem d_R_orders_54 : decode M_R_orders.2.1 54 = .ok (.iload_n 1, 1) := by decide +kernel
theorem d_R_orders_55 : decode M_R_orders.2.1 55 = .ok (.iaload, 1) := by decide +kernel
theorem d_R_orders_56 : decode M_R_orders.2.1 56 = .ok (.if_icmp .ge 7, 3) := by decide +kernel
theorem d_R_orders_59 : decode M_R_orders.2.1 59 = .ok (.iconst 1, 1) := by decide +kernel
theorem d_R_orders_60 : decode M_R_orders.2.1 60 = .ok (.goto 4, 3) := by decide +kernel
theorem d_R_orders_63 : decode M_R_orders.2.1 63 = .ok (.iconst 0, 1) := by decide +kernel
theorem d_R_orders_64 : decode M_R_orders.2.1 64 = .ok (.istore 7, 2) := by decide +kernel
theorem d_R_orders_66 : decode M_R_orders.2.1 66 = .ok (.iload 7, 2) := by decide +kernel
theorem d_R_orders_68 : decode M_R_orders.2.1 68 = .ok (.ifCond .eq 82, 3) := by decide +kernel
theorem d_R_orders_71 : decode M_R_orders.2.1 71 = .ok (.iload 5, 2) := by decide +kernel
theorem d_R_orders_73 : decode M_R_orders.2.1 73 = .ok (.ifCond .ne 16, 3) := by decide +kernel
theorem d_R_orders_76 : decode M_R_orders.2.1 76 = .ok (.iload_n 3, 1) := by decide +kernel
theorem d_R_orders_77 : decode M_R_orders.2.1 77 = .ok (.iconst 1, 1) := by decide +kernel
theorem d_R_orders_78 : decode M_R_orders.2.1 78 = .ok (.if_icmp .ne 7, 3) := by decide +kernel
theorem d_R_orders_81 : decode M_R_orders.2.1 81 = .ok (.iconst 1, 1) := by decide +kernel
theorem d_R_orders_82 : decode M_R_orders.2.1 82 = .ok (.goto 66, 3) := by decide +kernel
theorem d_R_orders_85 : decode M_R_orders.2.1 85 = .ok (.iconst 0, 1) := by decide +kernel
theorem d_R_orders_86 : decode M_R_orders.2.1 86 = .ok (.goto 62, 3) := by decide +kernel
theorem d_R_orders_89 : decode M_R_orders.2.1 89 = .ok (.iload 5, 2) := by decide +kernel
theorem d_R_orders_91 : decode M_R_orders.2.1 91 = .ok (.iconst 5, 1) := by decide +kernel
theorem d_R_orders_92 : decode M_R_orders.2.1 92 = .ok (.if_icmp .ge 27, 3) := by decide +kernel
theorem d_R_orders_95 : decode M_R_orders.2.1 95 = .ok (.aload_n 0, 1) := by decide +kernel
theorem d_R_orders_96 : decode M_R_orders.2.1 96 = .ok (.iload_n 1, 1) := by decide +kernel
theorem d_R_orders_97 : decode M_R_orders.2.1 97 = .ok (.iload 4, 2) := by decide +kernel
theorem d_R_orders_99 : decode M_R_orders.2.1 99 = .ok (.invokevirtual 249, 3) := by decide +kernel
theorem d_R_orders_102 : decode M_R_orders.2.1 102 = .ok (.ifCond .eq 13, 3) := by decide +kernel
theorem d_R_orders_105 : decode M_R_orders.2.1 105 = .ok (.iload_n 3, 1) := by decide +kernel
theorem d_R_orders_106 : decode M_R_orders.2.1 106 = .ok (.bipush 8, 2) := by decide +kernel
theorem d_R_orders_108 : decode M_R_orders.2.1 108 = .ok (.if_icmp .ge 7, 3) := by decide +kernel
theorem d_R_orders_111 : decode M_R_orders.2.1 111 = .ok (.iconst 1, 1) := by decide +kernel
theorem d_R_orders_112 : decode M_R_orders.2.1 112 = .ok (.goto 36, 3) := by decide +kernel
theorem d_R_orders_115 : decode M_R_orders.2.1 115 = .ok (.iconst 0, 1) := by decide +kernel
theorem d_R_orders_116 : decode M_R_orders.2.1 116 = .ok (.goto 32, 3) := by decide +kernel
theorem d_R_orders_119 : decode M_R_orders.2.1 119 = .ok (.iload 5, 2) := by decide +kernel
theorem d_R_orders_121 : decode M_R_orders.2.1 121 = .ok (.bipush 7, 2) := by decide +kernel
theorem d_R_orders_123 : decode M_R_orders.2.1 123 = .ok (.if_icmp .ne 15, 3) := by decide +kernel
theorem d_R_orders_126 : decode M_R_orders.2.1 126 = .ok (.iload_n 3, 1) := by decide +kernel
theorem d_R_orders_127 : decode M_R_orders.2.1 127 = .ok (.ifCond .le 7, 3) := by decide +kernel
theorem d_R_orders_130 : decode M_R_orders.2.1 130 = .ok (.iconst 1, 1) := by decide +kernel
theorem d_R_orders_131 : decode M_R_orders.2.1 131 = .ok (.goto 17, 3) := by decide +kernel
theorem d_R_orders_134 : decode M_R_orders.2.1 134 = .ok (.iconst 0, 1) := by decide +kernel
theorem d_R_orders_135 : decode M_R_orders.2.1 135 = .ok (.goto 13, 3) := by decide +kernel
theorem d_R_orders_138 : decode M_R_orders.2.1 138 = .ok (.iload_n 3, 1) := by decide +kernel
theorem d_R_orders_139 : decode M_R_orders.2.1 139 = .ok (.iconst 1, 1) := by decide +kernel
theorem d_R_orders_140 : decode M_R_orders.2.1 140 = .ok (.if_icmp .le 7, 3) := by decide +kernel
theorem d_R_orders_143 : decode M_R_orders.2.1 143 = .ok (.iconst 1, 1) := by decide +kernel
theorem d_R_orders_144 : decode M_R_orders.2.1 144 = .ok (.goto 4, 3) := by decide +kernel
theorem d_R_orders_147 : decode M_R_orders.2.1 147 = .ok (.iconst 0, 1) := by decide +kernel
theorem d_R_orders_148 : decode M_R_orders.2.1 148 = .ok (.istore 7, 2) := by decide +kernel
theorem d_R_orders_150 : decode M_R_orders.2.1 150 = .ok (.iload 7, 2) := by decide +kernel
theorem d_R_orders_152 : decode M_R_orders.2.1 152 = .ok (.ifCond .ne 8, 3) := by decide +kernel
theorem d_R_orders_155 : decode M_R_orders.2.1 155 = .ok (.iconst (-1), 1) := by decide +kernel
theorem d_R_orders_156 : decode M_R_orders.2.1 156 = .ok (.iload 4, 2) := by decide +kernel
theorem d_R_orders_158 : decode M_R_orders.2.1 158 = .ok (.isub, 1) := by decide +kernel
theorem d_R_orders_159 : decode M_R_orders.2.1 159 = .ok (.ireturn, 1) := by decide +kernel
theorem d_R_orders_160 : decode M_R_orders.2.1 160 = .ok (.iload 5, 2) := by decide +kernel
theorem d_R_orders_162 : decode M_R_orders.2.1 162 = .ok (.ifCond .ne 5, 3) := by decide +kernel
theorem d_R_orders_165 : decode M_R_orders.2.1 165 = .ok (.iload_n 2, 1) := by decide +kernel
theorem d_R_orders_166 : decode M_R_orders.2.1 166 = .ok (.ireturn, 1) := by decide +kernel
theorem d_R_orders_167 : decode M_R_orders.2.1 167 = .ok (.iload_n 3, 1) := by decide +kernel
theorem d_R_orders_168 : decode M_R_orders.2.1 168 = .ok (.iload 5, 2) := by decide +kernel
theorem d_R_orders_170 : decode M_R_orders.2.1 170 = .ok (.iconst 5, 1) := by decide +kernel
theorem d_R_orders_171 : decode M_R_orders.2.1 171 = .ok (.if_icmp .ge 7, 3) := by decide +kernel
theorem d_R_orders_174 : decode M_R_orders.2.1 174 = .ok (.iconst 1, 1) := by decide +kernel
theorem d_R_orders_175 : decode M_R_orders.2.1 175 = .ok (.goto 15, 3) := by decide +kernel
theorem d_R_orders_178 : decode M_R_orders.2.1 178 = .ok (.iload 5, 2) := by decide +kernel
theorem d_R_orders_180 : decode M_R_orders.2.1 180 = .ok (.bipush 7, 2) := by decide +kernel
theorem d_R_orders_182 : decode M_R_orders.2.1 182 = .ok (.if_icmp .ne 7, 3) := by decide +kernel
theorem d_R_orders_185 : decode M_R_orders.2.1 185 = .ok (.iconst 0, 1) := by decide +kernel
theorem d_R_orders_186 : decode M_R_orders.2.1 186 = .ok (.goto 4, 3) := by decide +kernel
theorem d_R_orders_189 : decode M_R_orders.2.1 189 = .ok (.iconst (-1), 1) := by decide +kernel
theorem d_R_orders_190 : decode M_R_orders.2.1 190 = .ok (.iadd, 1) := by decide +kernel
theorem d_R_orders_191 : decode M_R_orders.2.1 191 = .ok (.istore_n 3, 1) := by decide +kernel
theorem d_R_orders_192 : decode M_R_orders.2.1 192 = .ok (.iinc 2 1, 3) := by decide +kernel
theorem d_R_orders_195 : decode M_R_orders.2.1 195 = .ok (.iload 4, 2) := by decide +kernel
theorem d_R_orders_197 : decode M_R_orders.2.1 197 = .ok (.iload 6, 2) := by decide +kernel
theorem d_R_orders_199 : decode M_R_orders.2.1 199 = .ok (.iconst 1, 1) := by decide +kernel
theorem d_R_orders_200 : decode M_R_orders.2.1 200 = .ok (.iadd, 1) := by decide +kernel
theorem d_R_orders_201 : decode M_R_orders.2.1 201 = .ok (.iadd, 1) := by decide +kernel
theorem d_R_orders_202 : decode M_R_orders.2.1 202 = .ok (.istore 4, 2) := by decide +kernel
theorem d_R_orders_204 : decode M_R_orders.2.1 204 = .ok (.goto (-197), 3) := by decide +kernel
theorem d_R_orders_207 : decode M_R_orders.2.1 207 = .ok (.iconst (-1), 1) := by decide +kernel
theorem d_R_orders_208 : decode M_R_orders.2.1 208 = .ok (.aload_n 0, 1) := by decide +kernel
theorem d_R_orders_209 : decode M_R_orders.2.1 209 = .ok (.getfield 19, 3) := by decide +kernel
theorem d_R_orders_212 : decode M_R_orders.2.1 212 = .ok (.iload_n 1, 1) := by decide +kernel
theorem d_R_orders_213 : decode M_R_orders.2.1 213 = .ok (.iaload, 1) := by decide +kernel
theorem d_R_orders_214 : decode M_R_orders.2.1 214 = .ok (.isub, 1) := by decide +kernel
theorem d_R_orders_215 : decode M_R_orders.2.1 215 = .ok (.ireturn, 1) := by decide +kernel
theorem d_R_word_0 : decode M_R_word.2.1 0 = .ok (.aload_n 0, 1) := by decide +kernel
theorem d_R_word_1 : decode M_R_word.2.1 1 = .ok (.getfield 22, 3) := by decide +kernel
theorem d_R_word_4 : decode M_R_word.2.1 4 = .ok (.bipush 64, 2) := by decide +kernel
theorem d_R_word_6 : decode M_R_word.2.1 6 = .ok (.iload_n 1, 1) := by decide +kernel
theorem d_R_word_7 : decode M_R_word.2.1 7 = .ok (.imul, 1) := by decide +kernel
theorem d_R_word_8 : decode M_R_word.2.1 8 = .ok (.iload_n 2, 1) := by decide +kernel
theorem d_R_word_9 : decode M_R_word.2.1 9 = .ok (.iadd, 1) := by decide +kernel
theorem d_R_word_10 : decode M_R_word.2.1 10 = .ok (.laload, 1) := by decide +kernel
theorem d_R_word_11 : decode M_R_word.2.1 11 = .ok (.l2i, 1) := by decide +kernel
theorem d_R_word_12 : decode M_R_word.2.1 12 = .ok (.ireturn, 1) := by decide +kernel
theorem d_R_numbers_0 : decode M_R_numbers.2.1 0 = .ok (.iload_n 0, 1) := by decide +kernel
theorem d_R_numbers_1 : decode M_R_numbers.2.1 1 = .ok (.iconst 1, 1) := by decide +kernel
theorem d_R_numbers_2 : decode M_R_numbers.2.1 2 = .ok (.if_icmp .eq 8, 3) := by decide +kernel
theorem d_R_numbers_5 : decode M_R_numbers.2.1 5 = .ok (.iload_n 0, 1) := by decide +kernel
theorem d_R_numbers_6 : decode M_R_numbers.2.1 6 = .ok (.iconst 3, 1) := by decide +kernel
theorem d_R_numbers_7 : decode M_R_numbers.2.1 7 = .ok (.if_icmp .ne 7, 3) := by decide +kernel
theorem d_R_numbers_10 : decode M_R_numbers.2.1 10 = .ok (.iconst 2, 1) := by decide +kernel
theorem d_R_numbers_11 : decode M_R_numbers.2.1 11 = .ok (.goto 18, 3) := by decide +kernel
theorem d_R_numbers_14 : decode M_R_numbers.2.1 14 = .ok (.iload_n 0, 1) := by decide +kernel
theorem d_R_numbers_15 : decode M_R_numbers.2.1 15 = .ok (.iconst 2, 1) := by decide +kernel
theorem d_R_numbers_16 : decode M_R_numbers.2.1 16 = .ok (.if_icmp .eq 8, 3) := by decide +kernel
theorem d_R_numbers_19 : decode M_R_numbers.2.1 19 = .ok (.iload_n 0, 1) := by decide +kernel
theorem d_R_numbers_20 : decode M_R_numbers.2.1 20 = .ok (.iconst 4, 1) := by decide +kernel
theorem d_R_numbers_21 : decode M_R_numbers.2.1 21 = .ok (.if_icmp .ne 7, 3) := by decide +kernel
theorem d_R_numbers_24 : decode M_R_numbers.2.1 24 = .ok (.iconst 1, 1) := by decide +kernel
theorem d_R_numbers_25 : decode M_R_numbers.2.1 25 = .ok (.goto 4, 3) := by decide +kernel
theorem d_R_numbers_28 : decode M_R_numbers.2.1 28 = .ok (.iconst 0, 1) := by decide +kernel
theorem d_R_numbers_29 : decode M_R_numbers.2.1 29 = .ok (.ireturn, 1) := by decide +kernel
theorem d_R_names_0 : decode M_R_names.2.1 0 = .ok (.aload_n 0, 1) := by decide +kernel
theorem d_R_names_1 : decode M_R_names.2.1 1 = .ok (.iload_n 1, 1) := by decide +kernel
theorem d_R_names_2 : decode M_R_names.2.1 2 = .ok (.iload_n 2, 1) := by decide +kernel
theorem d_R_names_3 : decode M_R_names.2.1 3 = .ok (.iconst 1, 1) := by decide +kernel
theorem d_R_names_4 : decode M_R_names.2.1 4 = .ok (.iadd, 1) := by decide +kernel
theorem d_R_names_5 : decode M_R_names.2.1 5 = .ok (.invokevirtual 242, 3) := by decide +kernel
theorem d_R_names_8 : decode M_R_names.2.1 8 = .ok (.istore_n 3, 1) := by decide +kernel
theorem d_R_names_9 : decode M_R_names.2.1 9 = .ok (.aload_n 0, 1) := by decide +kernel
theorem d_R_names_10 : decode M_R_names.2.1 10 = .ok (.iload_n 1, 1) := by decide +kernel
theorem d_R_names_11 : decode M_R_names.2.1 11 = .ok (.iload_n 2, 1) := by decide +kernel
theorem d_R_names_12 : decode M_R_names.2.1 12 = .ok (.invokevirtual 242, 3) := by decide +kernel
theorem d_R_names_15 : decode M_R_names.2.1 15 = .ok (.tableswitch 67 1 3 #[25, 54, 60], 25) := by decide +kernel
theorem d_R_names_40 : decode M_R_names.2.1 40 = .ok (.aload_n 0, 1) := by decide +kernel
theorem d_R_names_41 : decode M_R_names.2.1 41 = .ok (.iload_n 3, 1) := by decide +kernel
theorem d_R_names_42 : decode M_R_names.2.1 42 = .ok (.invokevirtual 184, 3) := by decide +kernel
theorem d_R_names_45 : decode M_R_names.2.1 45 = .ok (.ifCond .eq 22, 3) := by decide +kernel
theorem d_R_names_48 : decode M_R_names.2.1 48 = .ok (.aload_n 0, 1) := by decide +kernel
theorem d_R_names_49 : decode M_R_names.2.1 49 = .ok (.aload_n 0, 1) := by decide +kernel
theorem d_R_names_50 : decode M_R_names.2.1 50 = .ok (.iload_n 1, 1) := by decide +kernel
theorem d_R_names_51 : decode M_R_names.2.1 51 = .ok (.iload_n 2, 1) := by decide +kernel
theorem d_R_names_52 : decode M_R_names.2.1 52 = .ok (.iconst 2, 1) := by decide +kernel
theorem d_R_names_53 : decode M_R_names.2.1 53 = .ok (.iadd, 1) := by decide +kernel
theorem d_R_names_54 : decode M_R_names.2.1 54 = .ok (.invokevirtual 242, 3) := by decide +kernel
theorem d_R_names_57 : decode M_R_names.2.1 57 = .ok (.invokevirtual 187, 3) := by decide +kernel
theorem d_R_names_60 : decode M_R_names.2.1 60 = .ok (.ifCond .eq 7, 3) := by decide +kernel
theorem d_R_names_63 : decode M_R_names.2.1 63 = .ok (.iconst 1, 1) := by decide +kernel
theorem d_R_names_64 : decode M_R_names.2.1 64 = .ok (.goto 4, 3) := by decide +kernel
theorem d_R_names_67 : decode M_R_names.2.1 67 = .ok (.iconst 0, 1) := by decide +kernel
theorem d_R_names_68 : decode M_R_names.2.1 68 = .ok (.ireturn, 1) := by decide +kernel
theorem d_R_names_69 : decode M_R_names.2.1 69 = .ok (.aload_n 0, 1) := by decide +kernel
theorem d_R_names_70 : decode M_R_names.2.1 70 = .ok (.iload_n 3, 1) := by decide +kernel
theorem d_R_names_71 : decode M_R_names.2.1 71 = .ok (.invokevirtual 184, 3) := by decide +kernel
theorem d_R_names_74 : decode M_R_names.2.1 74 = .ok (.ireturn, 1) := by decide +kernel
theorem d_R_names_75 : decode M_R_names.2.1 75 = .ok (.iload_n 3, 1) := by decide +kernel
theorem d_R_names_76 : decode M_R_names.2.1 76 = .ok (.iconst 0, 1) := by decide +kernel
theorem d_R_names_77 : decode M_R_names.2.1 77 = .ok (.iconst 2, 1) := by decide +kernel
theorem d_R_names_78 : decode M_R_names.2.1 78 = .ok (.invokestatic 153, 3) := by decide +kernel
theorem d_R_names_81 : decode M_R_names.2.1 81 = .ok (.ireturn, 1) := by decide +kernel
theorem d_R_names_82 : decode M_R_names.2.1 82 = .ok (.iconst 1, 1) := by decide +kernel
theorem d_R_names_83 : decode M_R_names.2.1 83 = .ok (.ireturn, 1) := by decide +kernel
theorem d_R_unrule_0 : decode M_R_unrule.2.1 0 = .ok (.aload_n 0, 1) := by decide +kernel
theorem d_R_unrule_1 : decode M_R_unrule.2.1 1 = .ok (.iload_n 1, 1) := by decide +kernel
theorem d_R_unrule_2 : decode M_R_unrule.2.1 2 = .ok (.invokevirtual 184, 3) := by decide +kernel
theorem d_R_unrule_5 : decode M_R_unrule.2.1 5 = .ok (.ifCond .ne 5, 3) := by decide +kernel
theorem d_R_unrule_8 : decode M_R_unrule.2.1 8 = .ok (.iconst (-1), 1) := by decide +kernel
theorem d_R_unrule_9 : decode M_R_unrule.2.1 9 = .ok (.ireturn, 1) := by decide +kernel
theorem d_R_unrule_10 : decode M_R_unrule.2.1 10 = .ok (.aload_n 0, 1) := by decide +kernel
theorem d_R_unrule_11 : decode M_R_unrule.2.1 11 = .ok (.iconst 0, 1) := by decide +kernel
theorem d_R_unrule_12 : decode M_R_unrule.2.1 12 = .ok (.putfield 163, 3) := by decide +kernel
theorem d_R_unrule_15 : decode M_R_unrule.2.1 15 = .ok (.aload_n 0, 1) := by decide +kernel
theorem d_R_unrule_16 : decode M_R_unrule.2.1 16 = .ok (.getfield 9, 3) := by decide +kernel
theorem d_R_unrule_19 : decode M_R_unrule.2.1 19 = .ok (.bipush 16, 2) := by decide +kernel
theorem d_R_unrule_21 : decode M_R_unrule.2.1 21 = .ok (.bipush 65, 2) := by decide +kernel
theorem d_R_unrule_23 : decode M_R_unrule.2.1 23 = .ok (.iload_n 1, 1) := by decide +kernel
theorem d_R_unrule_24 : decode M_R_unrule.2.1 24 = .ok (.imul, 1) := by decide +kernel
theorem d_R_unrule_25 : decode M_R_unrule.2.1 25 = .ok (.iadd, 1) := by decide +kernel
theorem d_R_unrule_26 : decode M_R_unrule.2.1 26 = .ok (.iaload, 1) := by decide +kernel
theorem d_R_unrule_27 : decode M_R_unrule.2.1 27 = .ok (.istore_n 2, 1) := by decide +kernel
theorem d_R_unrule_28 : decode M_R_unrule.2.1 28 = .ok (.aload_n 0, 1) := by decide +kernel
theorem d_R_unrule_29 : decode M_R_unrule.2.1 29 = .ok (.getfield 9, 3) := by decide +kernel
theorem d_R_unrule_32 : decode M_R_unrule.2.1 32 = .ok (.bipush 16, 2) := by decide +kernel
theorem d_R_unrule_34 : decode M_R_unrule.2.1 34 = .ok (.bipush 65, 2) := by decide +kernel
theorem d_R_unrule_36 : decode M_R_unrule.2.1 36 = .ok (.iload_n 1, 1) := by decide +kernel
theorem d_R_unrule_37 : decode M_R_unrule.2.1 37 = .ok (.imul, 1) := by decide +kernel
theorem d_R_unrule_38 : decode M_R_unrule.2.1 38 = .ok (.iadd, 1) := by decide +kernel
theorem d_R_unrule_39 : decode M_R_unrule.2.1 39 = .ok (.iconst (-1), 1) := by decide +kernel
theorem d_R_unrule_40 : decode M_R_unrule.2.1 40 = .ok (.iastore, 1) := by decide +kernel
theorem d_R_unrule_41 : decode M_R_unrule.2.1 41 = .ok (.iload_n 2, 1) := by decide +kernel
theorem d_R_unrule_42 : decode M_R_unrule.2.1 42 = .ok (.ifCond .ge 7, 3) := by decide +kernel
theorem d_R_unrule_45 : decode M_R_unrule.2.1 45 = .ok (.iconst 0, 1) := by decide +kernel
theorem d_R_unrule_46 : decode M_R_unrule.2.1 46 = .ok (.goto 4, 3) := by decide +kernel
theorem d_R_unrule_49 : decode M_R_unrule.2.1 49 = .ok (.iload_n 2, 1) := by decide +kernel
theorem d_R_unrule_50 : decode M_R_unrule.2.1 50 = .ok (.ireturn, 1) := by decide +kernel
theorem d_R_letters_0 : decode M_R_letters.2.1 0 = .ok (.iload_n 1, 1) := by decide +kernel
theorem d_R_letters_1 : decode M_R_letters.2.1 1 = .ok (.invokestatic 264, 3) := by decide +kernel
theorem d_R_letters_4 : decode M_R_letters.2.1 4 = .ok (.ifCond .eq 24, 3) := by decide +kernel
theorem d_R_letters_7 : decode M_R_letters.2.1 7 = .ok (.iload_n 2, 1) := by decide +kernel
theorem d_R_letters_8 : decode M_R_letters.2.1 8 = .ok (.iconst 1, 1) := by decide +kernel
theorem d_R_letters_9 : decode M_R_letters.2.1 9 = .ok (.bipush 26, 2) := by decide +kernel
theorem d_R_letters_11 : decode M_R_letters.2.1 11 = .ok (.invokestatic 153, 3) := by decide +kernel
theorem d_R_letters_14 : decode M_R_letters.2.1 14 = .ok (.ifCond .eq 14, 3) := by decide +kernel
theorem d_R_letters_17 : decode M_R_letters.2.1 17 = .ok (.iload_n 3, 1) := by decide +kernel
theorem d_R_letters_18 : decode M_R_letters.2.1 18 = .ok (.iconst 0, 1) := by decide +kernel
theorem d_R_letters_19 : decode M_R_letters.2.1 19 = .ok (.sipush 9999, 3) := by decide +kernel
theorem d_R_letters_22 : decode M_R_letters.2.1 22 = .ok (.invokestatic 153, 3) := by decide +kernel
theorem d_R_letters_25 : decode M_R_letters.2.1 25 = .ok (.ifCond .ne 5, 3) := by decide +kernel
theorem d_R_letters_28 : decode M_R_letters.2.1 28 = .ok (.iconst (-1), 1) := by decide +kernel
theorem d_R_letters_29 : decode M_R_letters.2.1 29 = .ok (.ireturn, 1) := by decide +kernel
theorem d_R_letters_30 : decode M_R_letters.2.1 30 = .ok (.aload_n 0, 1) := by decide +kernel
theorem d_R_letters_31 : decode M_R_letters.2.1 31 = .ok (.iconst 0, 1) := by decide +kernel
theorem d_R_letters_32 : decode M_R_letters.2.1 32 = .ok (.putfield 163, 3) := by decide +kernel
theorem d_R_letters_35 : decode M_R_letters.2.1 35 = .ok (.bipush 27, 2) := by decide +kernel
theorem d_R_letters_37 : decode M_R_letters.2.1 37 = .ok (.iload_n 1, 1) := by decide +kernel
theorem d_R_letters_38 : decode M_R_letters.2.1 38 = .ok (.imul, 1) := by decide +kernel
theorem d_R_letters_39 : decode M_R_letters.2.1 39 = .ok (.iload_n 2, 1) := by decide +kernel
theorem d_R_letters_40 : decode M_R_letters.2.1 40 = .ok (.iadd, 1) := by decide +kernel
theorem d_R_letters_41 : decode M_R_letters.2.1 41 = .ok (.istore 4, 2) := by decide +kernel
theorem d_R_letters_43 : decode M_R_letters.2.1 43 = .ok (.aload_n 0, 1) := by decide +kernel
theorem d_R_letters_44 : decode M_R_letters.2.1 44 = .ok (.getfield 26, 3) := by decide +kernel
theorem d_R_letters_47 : decode M_R_letters.2.1 47 = .ok (.iload 4, 2) := by decide +kernel
theorem d_R_letters_49 : decode M_R_letters.2.1 49 = .ok (.iaload, 1) := by decide +kernel
theorem d_R_letters_50 : decode M_R_letters.2.1 50 = .ok (.istore 5, 2) := by decide +kernel
theorem d_R_letters_52 : decode M_R_letters.2.1 52 = .ok (.aload_n 0, 1) := by decide +kernel
theorem d_R_letters_53 : decode M_R_letters.2.1 53 = .ok (.getfield 26, 3) := by decide +kernel
theorem d_R_letters_56 : decode M_R_letters.2.1 56 = .ok (.iload 4, 2) := by decide +kernel
theorem d_R_letters_58 : decode M_R_letters.2.1 58 = .ok (.iload_n 3, 1) := by decide +kernel
theorem d_R_letters_59 : decode M_R_letters.2.1 59 = .ok (.iastore, 1) := by decide +kernel
theorem d_R_letters_60 : decode M_R_letters.2.1 60 = .ok (.iload 5, 2) := by decide +kernel
theorem d_R_letters_62 : decode M_R_letters.2.1 62 = .ok (.ireturn, 1) := by decide +kernel
theorem d_R_isThread_0 : decode M_R_isThread.2.1 0 = .ok (.iload_n 0, 1) := by decide +kernel
theorem d_R_isThread_1 : decode M_R_isThread.2.1 1 = .ok (.iconst 0, 1) := by decide +kernel
theorem d_R_isThread_2 : decode M_R_isThread.2.1 2 = .ok (.iconst 2, 1) := by decide +kernel
theorem d_R_isThread_3 : decode M_R_isThread.2.1 3 = .ok (.invokestatic 153, 3) := by decide +kernel
theorem d_R_isThread_6 : decode M_R_isThread.2.1 6 = .ok (.ireturn, 1) := by decide +kernel
theorem d_R_heat_0 : decode M_R_heat.2.1 0 = .ok (.iload_n 1, 1) := by decide +kernel
theorem d_R_heat_1 : decode M_R_heat.2.1 1 = .ok (.invokestatic 264, 3) := by decide +kernel
theorem d_R_heat_4 : decode M_R_heat.2.1 4 = .ok (.ifCond .eq 22, 3) := by decide +kernel
theorem d_R_heat_7 : decode M_R_heat.2.1 7 = .ok (.iload_n 2, 1) := by decide +kernel
theorem d_R_heat_8 : decode M_R_heat.2.1 8 = .ok (.iconst 1, 1) := by decide +kernel
theorem d_R_heat_9 : decode M_R_heat.2.1 9 = .ok (.bipush 26, 2) := by decide +kernel
theorem d_R_heat_11 : decode M_R_heat.2.1 11 = .ok (.invokestatic 153, 3) := by decide +kernel
theorem d_R_heat_14 : decode M_R_heat.2.1 14 = .ok (.ifCond .eq 12, 3) := by decide +kernel
theorem d_R_heat_17 : decode M_R_heat.2.1 17 = .ok (.aload_n 0, 1) := by decide +kernel
theorem d_R_heat_18 : decode M_R_heat.2.1 18 = .ok (.iload_n 1, 1) := by decide +kernel
theorem d_R_heat_19 : decode M_R_heat.2.1 19 = .ok (.iload_n 2, 1) := by decide +kernel
theorem d_R_heat_20 : decode M_R_heat.2.1 20 = .ok (.invokevirtual 236, 3) := by decide +kernel
theorem d_R_heat_23 : decode M_R_heat.2.1 23 = .ok (.goto 4, 3) := by decide +kernel
theorem d_R_heat_26 : decode M_R_heat.2.1 26 = .ok (.iconst (-1), 1) := by decide +kernel
theorem d_R_heat_27 : decode M_R_heat.2.1 27 = .ok (.ireturn, 1) := by decide +kernel
theorem d_R_turn_0 : decode M_R_turn.2.1 0 = .ok (.iload_n 1, 1) := by decide +kernel
theorem d_R_turn_1 : decode M_R_turn.2.1 1 = .ok (.invokestatic 264, 3) := by decide +kernel
theorem d_R_turn_4 : decode M_R_turn.2.1 4 = .ok (.ifCond .eq 44, 3) := by decide +kernel
theorem d_R_turn_7 : decode M_R_turn.2.1 7 = .ok (.iload_n 2, 1) := by decide +kernel
theorem d_R_turn_8 : decode M_R_turn.2.1 8 = .ok (.iconst 1, 1) := by decide +kernel
theorem d_R_turn_9 : decode M_R_turn.2.1 9 = .ok (.bipush 15, 2) := by decide +kernel
theorem d_R_turn_11 : decode M_R_turn.2.1 11 = .ok (.invokestatic 153, 3) := by decide +kernel
theorem d_R_turn_14 : decode M_R_turn.2.1 14 = .ok (.ifCond .eq 34, 3) := by decide +kernel
theorem d_R_turn_17 : decode M_R_turn.2.1 17 = .ok (.aload_n 0, 1) := by decide +kernel
theorem d_R_turn_18 : decode M_R_turn.2.1 18 = .ok (.iload_n 3, 1) := by decide +kernel
theorem d_R_turn_19 : decode M_R_turn.2.1 19 = .ok (.invokevirtual 190, 3) := by decide +kernel
theorem d_R_turn_22 : decode M_R_turn.2.1 22 = .ok (.ifCond .eq 26, 3) := by decide +kernel
theorem d_R_turn_25 : decode M_R_turn.2.1 25 = .ok (.iload 4, 2) := by decide +kernel
theorem d_R_turn_27 : decode M_R_turn.2.1 27 = .ok (.iconst 1, 1) := by decide +kernel
theorem d_R_turn_28 : decode M_R_turn.2.1 28 = .ok (.bipush 26, 2) := by decide +kernel
