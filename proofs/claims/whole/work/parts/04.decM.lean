theorem dX9_thrown_0 : decode cX9_thrown 0 = .ok (.aload_n 0, 1) := by decide +kernel
theorem dX9_thrown_1 : decode cX9_thrown 1 = .ok (.getfield 1, 3) := by decide +kernel
theorem dX9_thrown_4 : decode cX9_thrown 4 = .ok (.ireturn, 1) := by decide +kernel
theorem dX9_in_0 : decode cX9_in 0 = .ok (.iload_n 1, 1) := by decide +kernel
theorem dX9_in_1 : decode cX9_in 1 = .ok (.iload_n 2, 1) := by decide +kernel
theorem dX9_in_2 : decode cX9_in 2 = .ok (.if_icmp .lt 12, 3) := by decide +kernel
theorem dX9_in_5 : decode cX9_in 5 = .ok (.iload_n 1, 1) := by decide +kernel
theorem dX9_in_6 : decode cX9_in 6 = .ok (.iload_n 3, 1) := by decide +kernel
theorem dX9_in_7 : decode cX9_in 7 = .ok (.if_icmp .gt 7, 3) := by decide +kernel
theorem dX9_in_10 : decode cX9_in 10 = .ok (.iconst 1, 1) := by decide +kernel
theorem dX9_in_11 : decode cX9_in 11 = .ok (.goto 4, 3) := by decide +kernel
theorem dX9_in_14 : decode cX9_in 14 = .ok (.iconst 0, 1) := by decide +kernel
theorem dX9_in_15 : decode cX9_in 15 = .ok (.ireturn, 1) := by decide +kernel
theorem dX9_init_0 : decode cX9_init 0 = .ok (.aload_n 0, 1) := by decide +kernel
theorem dX9_init_1 : decode cX9_init 1 = .ok (.invokespecial 7, 3) := by decide +kernel
theorem dX9_init_4 : decode cX9_init 4 = .ok (.aload_n 0, 1) := by decide +kernel
theorem dX9_init_5 : decode cX9_init 5 = .ok (.iconst 0, 1) := by decide +kernel
theorem dX9_init_6 : decode cX9_init 6 = .ok (.putfield 1, 3) := by decide +kernel
theorem dX9_init_9 : decode cX9_init 9 = .ok (.aload_n 0, 1) := by decide +kernel
theorem dX9_init_10 : decode cX9_init 10 = .ok (.iconst 0, 1) := by decide +kernel
theorem dX9_init_11 : decode cX9_init 11 = .ok (.putfield 13, 3) := by decide +kernel
theorem dX9_init_14 : decode cX9_init 14 = .ok (.aload_n 0, 1) := by decide +kernel
theorem dX9_init_15 : decode cX9_init 15 = .ok (.iconst 0, 1) := by decide +kernel
theorem dX9_init_16 : decode cX9_init 16 = .ok (.putfield 16, 3) := by decide +kernel
theorem dX9_init_19 : decode cX9_init 19 = .ok (.aload_n 0, 1) := by decide +kernel
theorem dX9_init_20 : decode cX9_init 20 = .ok (.iconst 0, 1) := by decide +kernel
theorem dX9_init_21 : decode cX9_init 21 = .ok (.putfield 19, 3) := by decide +kernel
theorem dX9_init_24 : decode cX9_init 24 = .ok (.aload_n 0, 1) := by decide +kernel
theorem dX9_init_25 : decode cX9_init 25 = .ok (.bipush 8, 2) := by decide +kernel
theorem dX9_init_27 : decode cX9_init 27 = .ok (.newarray .int, 2) := by decide +kernel
theorem dX9_init_29 : decode cX9_init 29 = .ok (.putfield 22, 3) := by decide +kernel
theorem dX9_init_32 : decode cX9_init 32 = .ok (.aload_n 0, 1) := by decide +kernel
theorem dX9_init_33 : decode cX9_init 33 = .ok (.bipush 8, 2) := by decide +kernel
theorem dX9_init_35 : decode cX9_init 35 = .ok (.newarray .boolean, 2) := by decide +kernel
theorem dX9_init_37 : decode cX9_init 37 = .ok (.putfield 26, 3) := by decide +kernel
theorem dX9_init_40 : decode cX9_init 40 = .ok (.aload_n 0, 1) := by decide +kernel
theorem dX9_init_41 : decode cX9_init 41 = .ok (.bipush 24, 2) := by decide +kernel
theorem dX9_init_43 : decode cX9_init 43 = .ok (.newarray .int, 2) := by decide +kernel
theorem dX9_init_45 : decode cX9_init 45 = .ok (.putfield 30, 3) := by decide +kernel
theorem dX9_init_48 : decode cX9_init 48 = .ok (.aload_n 0, 1) := by decide +kernel
theorem dX9_init_49 : decode cX9_init 49 = .ok (.bipush 24, 2) := by decide +kernel
theorem dX9_init_51 : decode cX9_init 51 = .ok (.newarray .int, 2) := by decide +kernel
theorem dX9_init_53 : decode cX9_init 53 = .ok (.putfield 33, 3) := by decide +kernel
theorem dX9_init_56 : decode cX9_init 56 = .ok (.aload_n 0, 1) := by decide +kernel
theorem dX9_init_57 : decode cX9_init 57 = .ok (.bipush 24, 2) := by decide +kernel
theorem dX9_init_59 : decode cX9_init 59 = .ok (.newarray .int, 2) := by decide +kernel
theorem dX9_init_61 : decode cX9_init 61 = .ok (.putfield 36, 3) := by decide +kernel
theorem dX9_init_64 : decode cX9_init 64 = .ok (.aload_n 0, 1) := by decide +kernel
theorem dX9_init_65 : decode cX9_init 65 = .ok (.bipush 24, 2) := by decide +kernel
theorem dX9_init_67 : decode cX9_init 67 = .ok (.newarray .int, 2) := by decide +kernel
theorem dX9_init_69 : decode cX9_init 69 = .ok (.putfield 39, 3) := by decide +kernel
theorem dX9_init_72 : decode cX9_init 72 = .ok (.aload_n 0, 1) := by decide +kernel
theorem dX9_init_73 : decode cX9_init 73 = .ok (.bipush 24, 2) := by decide +kernel
theorem dX9_init_75 : decode cX9_init 75 = .ok (.newarray .int, 2) := by decide +kernel
theorem dX9_init_77 : decode cX9_init 77 = .ok (.putfield 42, 3) := by decide +kernel
theorem dX9_init_80 : decode cX9_init 80 = .ok (.aload_n 0, 1) := by decide +kernel
theorem dX9_init_81 : decode cX9_init 81 = .ok (.bipush 24, 2) := by decide +kernel
theorem dX9_init_83 : decode cX9_init 83 = .ok (.newarray .int, 2) := by decide +kernel
theorem dX9_init_85 : decode cX9_init 85 = .ok (.putfield 45, 3) := by decide +kernel
theorem dX9_init_88 : decode cX9_init 88 = .ok (.aload_n 0, 1) := by decide +kernel
theorem dX9_init_89 : decode cX9_init 89 = .ok (.bipush 24, 2) := by decide +kernel
theorem dX9_init_91 : decode cX9_init 91 = .ok (.newarray .int, 2) := by decide +kernel
theorem dX9_init_93 : decode cX9_init 93 = .ok (.putfield 48, 3) := by decide +kernel
theorem dX9_init_96 : decode cX9_init 96 = .ok (.aload_n 0, 1) := by decide +kernel
theorem dX9_init_97 : decode cX9_init 97 = .ok (.bipush 20, 2) := by decide +kernel
theorem dX9_init_99 : decode cX9_init 99 = .ok (.newarray .int, 2) := by decide +kernel
theorem dX9_init_101 : decode cX9_init 101 = .ok (.putfield 51, 3) := by decide +kernel
theorem dX9_init_104 : decode cX9_init 104 = .ok (.aload_n 0, 1) := by decide +kernel
theorem dX9_init_105 : decode cX9_init 105 = .ok (.bipush 20, 2) := by decide +kernel
theorem dX9_init_107 : decode cX9_init 107 = .ok (.newarray .int, 2) := by decide +kernel
theorem dX9_init_109 : decode cX9_init 109 = .ok (.putfield 54, 3) := by decide +kernel
theorem dX9_init_112 : decode cX9_init 112 = .ok (.aload_n 0, 1) := by decide +kernel
theorem dX9_init_113 : decode cX9_init 113 = .ok (.bipush 20, 2) := by decide +kernel
theorem dX9_init_115 : decode cX9_init 115 = .ok (.newarray .int, 2) := by decide +kernel
theorem dX9_init_117 : decode cX9_init 117 = .ok (.putfield 57, 3) := by decide +kernel
theorem dX9_init_120 : decode cX9_init 120 = .ok (.aload_n 0, 1) := by decide +kernel
theorem dX9_init_121 : decode cX9_init 121 = .ok (.bipush 20, 2) := by decide +kernel
theorem dX9_init_123 : decode cX9_init 123 = .ok (.newarray .int, 2) := by decide +kernel
theorem dX9_init_125 : decode cX9_init 125 = .ok (.putfield 60, 3) := by decide +kernel
theorem dX9_init_128 : decode cX9_init 128 = .ok (.aload_n 0, 1) := by decide +kernel
theorem dX9_init_129 : decode cX9_init 129 = .ok (.bipush 20, 2) := by decide +kernel
theorem dX9_init_131 : decode cX9_init 131 = .ok (.newarray .int, 2) := by decide +kernel
theorem dX9_init_133 : decode cX9_init 133 = .ok (.putfield 63, 3) := by decide +kernel
theorem dX9_init_136 : decode cX9_init 136 = .ok (.aload_n 0, 1) := by decide +kernel
theorem dX9_init_137 : decode cX9_init 137 = .ok (.sipush 4800, 3) := by decide +kernel
theorem dX9_init_140 : decode cX9_init 140 = .ok (.newarray .int, 2) := by decide +kernel
theorem dX9_init_142 : decode cX9_init 142 = .ok (.putfield 66, 3) := by decide +kernel
theorem dX9_init_145 : decode cX9_init 145 = .ok (.aload_n 0, 1) := by decide +kernel
theorem dX9_init_146 : decode cX9_init 146 = .ok (.sipush 4800, 3) := by decide +kernel
theorem dX9_init_149 : decode cX9_init 149 = .ok (.newarray .boolean, 2) := by decide +kernel
theorem dX9_init_151 : decode cX9_init 151 = .ok (.putfield 69, 3) := by decide +kernel
theorem dX9_init_154 : decode cX9_init 154 = .ok (.aload_n 0, 1) := by decide +kernel
theorem dX9_init_155 : decode cX9_init 155 = .ok (.sipush 4800, 3) := by decide +kernel
theorem dX9_init_158 : decode cX9_init 158 = .ok (.newarray .int, 2) := by decide +kernel
theorem dX9_init_160 : decode cX9_init 160 = .ok (.putfield 72, 3) := by decide +kernel
theorem dX9_init_163 : decode cX9_init 163 = .ok (.aload_n 0, 1) := by decide +kernel
theorem dX9_init_164 : decode cX9_init 164 = .ok (.iconst 0, 1) := by decide +kernel
theorem dX9_init_165 : decode cX9_init 165 = .ok (.putfield 75, 3) := by decide +kernel
theorem dX9_init_168 : decode cX9_init 168 = .ok (.aload_n 0, 1) := by decide +kernel
theorem dX9_init_169 : decode cX9_init 169 = .ok (.iconst 0, 1) := by decide +kernel
theorem dX9_init_170 : decode cX9_init 170 = .ok (.putfield 78, 3) := by decide +kernel
theorem dX9_init_173 : decode cX9_init 173 = .ok (.aload_n 0, 1) := by decide +kernel
theorem dX9_init_174 : decode cX9_init 174 = .ok (.iconst 0, 1) := by decide +kernel
theorem dX9_init_175 : decode cX9_init 175 = .ok (.putfield 81, 3) := by decide +kernel
theorem dX9_init_178 : decode cX9_init 178 = .ok (.aload_n 0, 1) := by decide +kernel
theorem dX9_init_179 : decode cX9_init 179 = .ok (.iconst 0, 1) := by decide +kernel
theorem dX9_init_180 : decode cX9_init 180 = .ok (.putfield 84, 3) := by decide +kernel
theorem dX9_init_183 : decode cX9_init 183 = .ok (.aload_n 0, 1) := by decide +kernel
theorem dX9_init_184 : decode cX9_init 184 = .ok (.iconst 0, 1) := by decide +kernel
theorem dX9_init_185 : decode cX9_init 185 = .ok (.putfield 87, 3) := by decide +kernel
theorem dX9_init_188 : decode cX9_init 188 = .ok (.aload_n 0, 1) := by decide +kernel
theorem dX9_init_189 : decode cX9_init 189 = .ok (.iconst 0, 1) := by decide +kernel
theorem dX9_init_190 : decode cX9_init 190 = .ok (.putfield 90, 3) := by decide +kernel
theorem dX9_init_193 : decode cX9_init 193 = .ok (.aload_n 0, 1) := by decide +kernel
theorem dX9_init_194 : decode cX9_init 194 = .ok (.bipush 24, 2) := by decide +kernel
theorem dX9_init_196 : decode cX9_init 196 = .ok (.newarray .int, 2) := by decide +kernel
theorem dX9_init_198 : decode cX9_init 198 = .ok (.putfield 93, 3) := by decide +kernel
theorem dX9_init_201 : decode cX9_init 201 = .ok (.aload_n 0, 1) := by decide +kernel
theorem dX9_init_202 : decode cX9_init 202 = .ok (.bipush 24, 2) := by decide +kernel
theorem dX9_init_204 : decode cX9_init 204 = .ok (.newarray .int, 2) := by decide +kernel
theorem dX9_init_206 : decode cX9_init 206 = .ok (.putfield 96, 3) := by decide +kernel
theorem dX9_init_209 : decode cX9_init 209 = .ok (.aload_n 0, 1) := by decide +kernel
theorem dX9_init_210 : decode cX9_init 210 = .ok (.iconst 2, 1) := by decide +kernel
theorem dX9_init_211 : decode cX9_init 211 = .ok (.putfield 99, 3) := by decide +kernel
theorem dX9_init_214 : decode cX9_init 214 = .ok (.aload_n 0, 1) := by decide +kernel
theorem dX9_init_215 : decode cX9_init 215 = .ok (.iconst 1, 1) := by decide +kernel
theorem dX9_init_216 : decode cX9_init 216 = .ok (.putfield 102, 3) := by decide +kernel
theorem dX9_init_219 : decode cX9_init 219 = .ok (.aload_n 0, 1) := by decide +kernel
theorem dX9_init_220 : decode cX9_init 220 = .ok (.bipush 35, 2) := by decide +kernel
theorem dX9_init_222 : decode cX9_init 222 = .ok (.newarray .int, 2) := by decide +kernel
theorem dX9_init_224 : decode cX9_init 224 = .ok (.putfield 105, 3) := by decide +kernel
theorem dX9_init_227 : decode cX9_init 227 = .ok (.aload_n 0, 1) := by decide +kernel
theorem dX9_init_228 : decode cX9_init 228 = .ok (.bipush 35, 2) := by decide +kernel
theorem dX9_init_230 : decode cX9_init 230 = .ok (.newarray .int, 2) := by decide +kernel
theorem dX9_init_232 : decode cX9_init 232 = .ok (.putfield 108, 3) := by decide +kernel
theorem dX9_init_235 : decode cX9_init 235 = .ok (.aload_n 0, 1) := by decide +kernel
theorem dX9_init_236 : decode cX9_init 236 = .ok (.bipush 35, 2) := by decide +kernel
theorem dX9_init_238 : decode cX9_init 238 = .ok (.newarray .int, 2) := by decide +kernel
theorem dX9_init_240 : decode cX9_init 240 = .ok (.putfield 111, 3) := by decide +kernel
theorem dX9_init_243 : decode cX9_init 243 = .ok (.aload_n 0, 1) := by decide +kernel
theorem dX9_init_244 : decode cX9_init 244 = .ok (.iconst 4, 1) := by decide +kernel
theorem dX9_init_245 : decode cX9_init 245 = .ok (.newarray .int, 2) := by decide +kernel
theorem dX9_init_247 : decode cX9_init 247 = .ok (.putfield 114, 3) := by decide +kernel
theorem dX9_init_250 : decode cX9_init 250 = .ok (.aload_n 0, 1) := by decide +kernel
theorem dX9_init_251 : decode cX9_init 251 = .ok (.iconst 4, 1) := by decide +kernel
theorem dX9_init_252 : decode cX9_init 252 = .ok (.newarray .int, 2) := by decide +kernel
theorem dX9_init_254 : decode cX9_init 254 = .ok (.putfield 117, 3) := by decide +kernel
theorem dX9_init_257 : decode cX9_init 257 = .ok (.aload_n 0, 1) := by decide +kernel
theorem dX9_init_258 : decode cX9_init 258 = .ok (.iconst 2, 1) := by decide +kernel
theorem dX9_init_259 : decode cX9_init 259 = .ok (.newarray .int, 2) := by decide +kernel
theorem dX9_init_261 : decode cX9_init 261 = .ok (.putfield 120, 3) := by decide +kernel
theorem dX9_init_264 : decode cX9_init 264 = .ok (.aload_n 0, 1) := by decide +kernel
theorem dX9_init_265 : decode cX9_init 265 = .ok (.iconst 2, 1) := by decide +kernel
theorem dX9_init_266 : decode cX9_init 266 = .ok (.newarray .int, 2) := by decide +kernel
theorem dX9_init_268 : decode cX9_init 268 = .ok (.putfield 123, 3) := by decide +kernel
theorem dX9_init_271 : decode cX9_init 271 = .ok (.aload_n 0, 1) := by decide +kernel
theorem dX9_init_272 : decode cX9_init 272 = .ok (.iconst 0, 1) := by decide +kernel
theorem dX9_init_273 : decode cX9_init 273 = .ok (.putfield 126, 3) := by decide +kernel
theorem dX9_init_276 : decode cX9_init 276 = .ok (.aload_n 0, 1) := by decide +kernel
theorem dX9_init_277 : decode cX9_init 277 = .ok (.iconst 4, 1) := by decide +kernel
theorem dX9_init_278 : decode cX9_init 278 = .ok (.newarray .boolean, 2) := by decide +kernel
theorem dX9_init_280 : decode cX9_init 280 = .ok (.putfield 129, 3) := by decide +kernel
theorem dX9_init_283 : decode cX9_init 283 = .ok (.aload_n 0, 1) := by decide +kernel
theorem dX9_init_284 : decode cX9_init 284 = .ok (.bipush 8, 2) := by decide +kernel
theorem dX9_init_286 : decode cX9_init 286 = .ok (.newarray .int, 2) := by decide +kernel
theorem dX9_init_288 : decode cX9_init 288 = .ok (.putfield 132, 3) := by decide +kernel
theorem dX9_init_291 : decode cX9_init 291 = .ok (.aload_n 0, 1) := by decide +kernel
theorem dX9_init_292 : decode cX9_init 292 = .ok (.bipush 8, 2) := by decide +kernel
theorem dX9_init_294 : decode cX9_init 294 = .ok (.newarray .int, 2) := by decide +kernel
theorem dX9_init_296 : decode cX9_init 296 = .ok (.putfield 135, 3) := by decide +kernel
theorem dX9_init_299 : decode cX9_init 299 = .ok (.aload_n 0, 1) := by decide +kernel
theorem dX9_init_300 : decode cX9_init 300 = .ok (.bipush 8, 2) := by decide +kernel
theorem dX9_init_302 : decode cX9_init 302 = .ok (.newarray .int, 2) := by decide +kernel
theorem dX9_init_304 : decode cX9_init 304 = .ok (.putfield 138, 3) := by decide +kernel
theorem dX9_init_307 : decode cX9_init 307 = .ok (.aload_n 0, 1) := by decide +kernel
theorem dX9_init_308 : decode cX9_init 308 = .ok (.sipush 1600, 3) := by decide +kernel
theorem dX9_init_311 : decode cX9_init 311 = .ok (.newarray .int, 2) := by decide +kernel
theorem dX9_init_313 : decode cX9_init 313 = .ok (.putfield 141, 3) := by decide +kernel
theorem dX9_init_316 : decode cX9_init 316 = .ok (.aload_n 0, 1) := by decide +kernel
theorem dX9_init_317 : decode cX9_init 317 = .ok (.sipush 200, 3) := by decide +kernel
theorem dX9_init_320 : decode cX9_init 320 = .ok (.newarray .int, 2) := by decide +kernel
theorem dX9_init_322 : decode cX9_init 322 = .ok (.putfield 144, 3) := by decide +kernel
theorem dX9_init_325 : decode cX9_init 325 = .ok (.iconst 0, 1) := by decide +kernel
theorem dX9_init_326 : decode cX9_init 326 = .ok (.istore_n 1, 1) := by decide +kernel
theorem dX9_init_327 : decode cX9_init 327 = .ok (.iload_n 1, 1) := by decide +kernel
theorem dX9_init_328 : decode cX9_init 328 = .ok (.sipush 4800, 3) := by decide +kernel
theorem dX9_init_331 : decode cX9_init 331 = .ok (.if_icmp .ge 23, 3) := by decide +kernel
theorem dX9_init_334 : decode cX9_init 334 = .ok (.aload_n 0, 1) := by decide +kernel
theorem dX9_init_335 : decode cX9_init 335 = .ok (.getfield 66, 3) := by decide +kernel
theorem dX9_init_338 : decode cX9_init 338 = .ok (.iload_n 1, 1) := by decide +kernel
theorem dX9_init_339 : decode cX9_init 339 = .ok (.iconst (-1), 1) := by decide +kernel
theorem dX9_init_340 : decode cX9_init 340 = .ok (.iastore, 1) := by decide +kernel
theorem dX9_init_341 : decode cX9_init 341 = .ok (.aload_n 0, 1) := by decide +kernel
theorem dX9_init_342 : decode cX9_init 342 = .ok (.getfield 72, 3) := by decide +kernel
theorem dX9_init_345 : decode cX9_init 345 = .ok (.iload_n 1, 1) := by decide +kernel
theorem dX9_init_346 : decode cX9_init 346 = .ok (.iconst (-1), 1) := by decide +kernel
theorem dX9_init_347 : decode cX9_init 347 = .ok (.iastore, 1) := by decide +kernel
theorem dX9_init_348 : decode cX9_init 348 = .ok (.iinc 1 1, 3) := by decide +kernel
theorem dX9_init_351 : decode cX9_init 351 = .ok (.goto (-24), 3) := by decide +kernel
theorem dX9_init_354 : decode cX9_init 354 = .ok (.return_, 1) := by decide +kernel
theorem dX9_isOffice_0 : decode cX9_isOffice 0 = .ok (.aload_n 0, 1) := by decide +kernel
theorem dX9_isOffice_1 : decode cX9_isOffice 1 = .ok (.iload_n 1, 1) := by decide +kernel
theorem dX9_isOffice_2 : decode cX9_isOffice 2 = .ok (.iconst 0, 1) := by decide +kernel
theorem dX9_isOffice_3 : decode cX9_isOffice 3 = .ok (.aload_n 0, 1) := by decide +kernel
theorem dX9_isOffice_4 : decode cX9_isOffice 4 = .ok (.getfield 13, 3) := by decide +kernel
theorem dX9_isOffice_7 : decode cX9_isOffice 7 = .ok (.iconst 1, 1) := by decide +kernel
theorem dX9_isOffice_8 : decode cX9_isOffice 8 = .ok (.isub, 1) := by decide +kernel
theorem dX9_isOffice_9 : decode cX9_isOffice 9 = .ok (.invokevirtual 147, 3) := by decide +kernel
theorem dX9_isOffice_12 : decode cX9_isOffice 12 = .ok (.ireturn, 1) := by decide +kernel
theorem dX9_isPerson_0 : decode cX9_isPerson 0 = .ok (.aload_n 0, 1) := by decide +kernel
theorem dX9_isPerson_1 : decode cX9_isPerson 1 = .ok (.iload_n 1, 1) := by decide +kernel
theorem dX9_isPerson_2 : decode cX9_isPerson 2 = .ok (.iconst 0, 1) := by decide +kernel
theorem dX9_isPerson_3 : decode cX9_isPerson 3 = .ok (.aload_n 0, 1) := by decide +kernel
theorem dX9_isPerson_4 : decode cX9_isPerson 4 = .ok (.getfield 16, 3) := by decide +kernel
theorem dX9_isPerson_7 : decode cX9_isPerson 7 = .ok (.iconst 1, 1) := by decide +kernel
theorem dX9_isPerson_8 : decode cX9_isPerson 8 = .ok (.isub, 1) := by decide +kernel
theorem dX9_isPerson_9 : decode cX9_isPerson 9 = .ok (.invokevirtual 147, 3) := by decide +kernel
theorem dX9_isPerson_12 : decode cX9_isPerson 12 = .ok (.ireturn, 1) := by decide +kernel
theorem dX9_isYear_0 : decode cX9_isYear 0 = .ok (.aload_n 0, 1) := by decide +kernel
theorem dX9_isYear_1 : decode cX9_isYear 1 = .ok (.iload_n 1, 1) := by decide +kernel
theorem dX9_isYear_2 : decode cX9_isYear 2 = .ok (.iconst 0, 1) := by decide +kernel
theorem dX9_isYear_3 : decode cX9_isYear 3 = .ok (.sipush 199, 3) := by decide +kernel
theorem dX9_isYear_6 : decode cX9_isYear 6 = .ok (.invokevirtual 147, 3) := by decide +kernel
theorem dX9_isYear_9 : decode cX9_isYear 9 = .ok (.ireturn, 1) := by decide +kernel
theorem dX9_at_0 : decode cX9_at 0 = .ok (.sipush 200, 3) := by decide +kernel
theorem dX9_at_3 : decode cX9_at 3 = .ok (.iload_n 1, 1) := by decide +kernel
theorem dX9_at_4 : decode cX9_at 4 = .ok (.imul, 1) := by decide +kernel
theorem dX9_at_5 : decode cX9_at 5 = .ok (.iload_n 2, 1) := by decide +kernel
theorem dX9_at_6 : decode cX9_at 6 = .ok (.iadd, 1) := by decide +kernel
theorem dX9_at_7 : decode cX9_at 7 = .ok (.iconst 3, 1) := by decide +kernel
theorem dX9_at_8 : decode cX9_at 8 = .ok (.imul, 1) := by decide +kernel
theorem dX9_at_9 : decode cX9_at 9 = .ok (.iload_n 3, 1) := by decide +kernel
theorem dX9_at_10 : decode cX9_at 10 = .ok (.iadd, 1) := by decide +kernel
theorem dX9_at_11 : decode cX9_at 11 = .ok (.ireturn, 1) := by decide +kernel
theorem dX9_office_0 : decode cX9_office 0 = .ok (.aload_n 0, 1) := by decide +kernel
theorem dX9_office_1 : decode cX9_office 1 = .ok (.iload_n 1, 1) := by decide +kernel
theorem dX9_office_2 : decode cX9_office 2 = .ok (.iconst 1, 1) := by decide +kernel
theorem dX9_office_3 : decode cX9_office 3 = .ok (.iconst 3, 1) := by decide +kernel
theorem dX9_office_4 : decode cX9_office 4 = .ok (.invokevirtual 147, 3) := by decide +kernel
theorem dX9_office_7 : decode cX9_office 7 = .ok (.ifCond .ne 5, 3) := by decide +kernel
theorem dX9_office_10 : decode cX9_office 10 = .ok (.iconst (-1), 1) := by decide +kernel
theorem dX9_office_11 : decode cX9_office 11 = .ok (.ireturn, 1) := by decide +kernel
theorem dX9_office_12 : decode cX9_office 12 = .ok (.aload_n 0, 1) := by decide +kernel
theorem dX9_office_13 : decode cX9_office 13 = .ok (.getfield 13, 3) := by decide +kernel
theorem dX9_office_16 : decode cX9_office 16 = .ok (.bipush 8, 2) := by decide +kernel
theorem dX9_office_18 : decode cX9_office 18 = .ok (.if_icmp .ne 6, 3) := by decide +kernel
theorem dX9_office_21 : decode cX9_office 21 = .ok (.bipush (-2), 2) := by decide +kernel
theorem dX9_office_23 : decode cX9_office 23 = .ok (.ireturn, 1) := by decide +kernel
theorem dX9_office_24 : decode cX9_office 24 = .ok (.aload_n 0, 1) := by decide +kernel
theorem dX9_office_25 : decode cX9_office 25 = .ok (.getfield 22, 3) := by decide +kernel
theorem dX9_office_28 : decode cX9_office 28 = .ok (.aload_n 0, 1) := by decide +kernel
theorem dX9_office_29 : decode cX9_office 29 = .ok (.getfield 13, 3) := by decide +kernel
theorem dX9_office_32 : decode cX9_office 32 = .ok (.iload_n 1, 1) := by decide +kernel
theorem dX9_office_33 : decode cX9_office 33 = .ok (.iastore, 1) := by decide +kernel
theorem dX9_office_34 : decode cX9_office 34 = .ok (.aload_n 0, 1) := by decide +kernel
theorem dX9_office_35 : decode cX9_office 35 = .ok (.getfield 26, 3) := by decide +kernel
theorem dX9_office_38 : decode cX9_office 38 = .ok (.aload_n 0, 1) := by decide +kernel
theorem dX9_office_39 : decode cX9_office 39 = .ok (.getfield 13, 3) := by decide +kernel
theorem dX9_office_42 : decode cX9_office 42 = .ok (.iload_n 2, 1) := by decide +kernel
theorem dX9_office_43 : decode cX9_office 43 = .ok (.bastore, 1) := by decide +kernel
theorem dX9_office_44 : decode cX9_office 44 = .ok (.aload_n 0, 1) := by decide +kernel
theorem dX9_office_45 : decode cX9_office 45 = .ok (.dup, 1) := by decide +kernel
theorem dX9_office_46 : decode cX9_office 46 = .ok (.getfield 13, 3) := by decide +kernel
theorem dX9_office_49 : decode cX9_office 49 = .ok (.iconst 1, 1) := by decide +kernel
theorem dX9_office_50 : decode cX9_office 50 = .ok (.iadd, 1) := by decide +kernel
theorem dX9_office_51 : decode cX9_office 51 = .ok (.putfield 13, 3) := by decide +kernel
theorem dX9_office_54 : decode cX9_office 54 = .ok (.aload_n 0, 1) := by decide +kernel
theorem dX9_office_55 : decode cX9_office 55 = .ok (.getfield 13, 3) := by decide +kernel
theorem dX9_office_58 : decode cX9_office 58 = .ok (.iconst 1, 1) := by decide +kernel
theorem dX9_office_59 : decode cX9_office 59 = .ok (.isub, 1) := by decide +kernel
theorem dX9_office_60 : decode cX9_office 60 = .ok (.ireturn, 1) := by decide +kernel
theorem dX9_isSpan_0 : decode cX9_isSpan 0 = .ok (.aload_n 0, 1) := by decide +kernel
theorem dX9_isSpan_1 : decode cX9_isSpan 1 = .ok (.iload_n 1, 1) := by decide +kernel
theorem dX9_isSpan_2 : decode cX9_isSpan 2 = .ok (.bipush (-50), 2) := by decide +kernel
theorem dX9_isSpan_4 : decode cX9_isSpan 4 = .ok (.sipush 199, 3) := by decide +kernel
theorem dX9_isSpan_7 : decode cX9_isSpan 7 = .ok (.invokevirtual 147, 3) := by decide +kernel
theorem dX9_isSpan_10 : decode cX9_isSpan 10 = .ok (.ifCond .eq 19, 3) := by decide +kernel
theorem dX9_isSpan_13 : decode cX9_isSpan 13 = .ok (.aload_n 0, 1) := by decide +kernel
theorem dX9_isSpan_14 : decode cX9_isSpan 14 = .ok (.iload_n 2, 1) := by decide +kernel
theorem dX9_isSpan_15 : decode cX9_isSpan 15 = .ok (.iload_n 1, 1) := by decide +kernel
theorem dX9_isSpan_16 : decode cX9_isSpan 16 = .ok (.sipush 199, 3) := by decide +kernel
theorem dX9_isSpan_19 : decode cX9_isSpan 19 = .ok (.invokevirtual 147, 3) := by decide +kernel
theorem dX9_isSpan_22 : decode cX9_isSpan 22 = .ok (.ifCond .eq 7, 3) := by decide +kernel
theorem dX9_isSpan_25 : decode cX9_isSpan 25 = .ok (.iconst 1, 1) := by decide +kernel
theorem dX9_isSpan_26 : decode cX9_isSpan 26 = .ok (.goto 4, 3) := by decide +kernel
theorem dX9_isSpan_29 : decode cX9_isSpan 29 = .ok (.iconst 0, 1) := by decide +kernel
theorem dX9_isSpan_30 : decode cX9_isSpan 30 = .ok (.ireturn, 1) := by decide +kernel
theorem dX9_person_0 : decode cX9_person 0 = .ok (.aload_n 0, 1) := by decide +kernel
theorem dX9_person_1 : decode cX9_person 1 = .ok (.iload_n 1, 1) := by decide +kernel
theorem dX9_person_2 : decode cX9_person 2 = .ok (.iconst 0, 1) := by decide +kernel
theorem dX9_person_3 : decode cX9_person 3 = .ok (.iconst 1, 1) := by decide +kernel
theorem dX9_person_4 : decode cX9_person 4 = .ok (.invokevirtual 147, 3) := by decide +kernel
theorem dX9_person_7 : decode cX9_person 7 = .ok (.ifCond .eq 28, 3) := by decide +kernel
theorem dX9_person_10 : decode cX9_person 10 = .ok (.aload_n 0, 1) := by decide +kernel
theorem dX9_person_11 : decode cX9_person 11 = .ok (.iload_n 2, 1) := by decide +kernel
theorem dX9_person_12 : decode cX9_person 12 = .ok (.iload_n 3, 1) := by decide +kernel
theorem dX9_person_13 : decode cX9_person 13 = .ok (.invokevirtual 151, 3) := by decide +kernel
theorem dX9_person_16 : decode cX9_person 16 = .ok (.ifCond .eq 19, 3) := by decide +kernel
theorem dX9_person_19 : decode cX9_person 19 = .ok (.aload_n 0, 1) := by decide +kernel
theorem dX9_person_20 : decode cX9_person 20 = .ok (.iload 4, 2) := by decide +kernel
theorem dX9_person_22 : decode cX9_person 22 = .ok (.iconst (-1), 1) := by decide +kernel
theorem dX9_person_23 : decode cX9_person 23 = .ok (.aload_n 0, 1) := by decide +kernel
theorem dX9_person_24 : decode cX9_person 24 = .ok (.getfield 16, 3) := by decide +kernel
theorem dX9_person_27 : decode cX9_person 27 = .ok (.iconst 1, 1) := by decide +kernel
theorem dX9_person_28 : decode cX9_person 28 = .ok (.isub, 1) := by decide +kernel
theorem dX9_person_29 : decode cX9_person 29 = .ok (.invokevirtual 147, 3) := by decide +kernel
theorem dX9_person_32 : decode cX9_person 32 = .ok (.ifCond .ne 5, 3) := by decide +kernel
theorem dX9_person_35 : decode cX9_person 35 = .ok (.iconst (-1), 1) := by decide +kernel
theorem dX9_person_36 : decode cX9_person 36 = .ok (.ireturn, 1) := by decide +kernel
theorem dX9_person_37 : decode cX9_person 37 = .ok (.aload_n 0, 1) := by decide +kernel
theorem dX9_person_38 : decode cX9_person 38 = .ok (.getfield 16, 3) := by decide +kernel
theorem dX9_person_41 : decode cX9_person 41 = .ok (.bipush 24, 2) := by decide +kernel
theorem dX9_person_43 : decode cX9_person 43 = .ok (.if_icmp .ne 6, 3) := by decide +kernel
theorem dX9_person_46 : decode cX9_person 46 = .ok (.bipush (-2), 2) := by decide +kernel
theorem dX9_person_48 : decode cX9_person 48 = .ok (.ireturn, 1) := by decide +kernel
theorem dX9_person_49 : decode cX9_person 49 = .ok (.aload_n 0, 1) := by decide +kernel
theorem dX9_person_50 : decode cX9_person 50 = .ok (.getfield 30, 3) := by decide +kernel
theorem dX9_person_53 : decode cX9_person 53 = .ok (.aload_n 0, 1) := by decide +kernel
theorem dX9_person_54 : decode cX9_person 54 = .ok (.getfield 16, 3) := by decide +kernel
theorem dX9_person_57 : decode cX9_person 57 = .ok (.iload_n 1, 1) := by decide +kernel
theorem dX9_person_58 : decode cX9_person 58 = .ok (.iastore, 1) := by decide +kernel
theorem dX9_person_59 : decode cX9_person 59 = .ok (.aload_n 0, 1) := by decide +kernel
theorem dX9_person_60 : decode cX9_person 60 = .ok (.getfield 33, 3) := by decide +kernel
theorem dX9_person_63 : decode cX9_person 63 = .ok (.aload_n 0, 1) := by decide +kernel
theorem dX9_person_64 : decode cX9_person 64 = .ok (.getfield 16, 3) := by decide +kernel
theorem dX9_person_67 : decode cX9_person 67 = .ok (.iload_n 2, 1) := by decide +kernel
theorem dX9_person_68 : decode cX9_person 68 = .ok (.iastore, 1) := by decide +kernel
theorem dX9_person_69 : decode cX9_person 69 = .ok (.aload_n 0, 1) := by decide +kernel
theorem dX9_person_70 : decode cX9_person 70 = .ok (.getfield 36, 3) := by decide +kernel
theorem dX9_person_73 : decode cX9_person 73 = .ok (.aload_n 0, 1) := by decide +kernel
theorem dX9_person_74 : decode cX9_person 74 = .ok (.getfield 16, 3) := by decide +kernel
theorem dX9_person_77 : decode cX9_person 77 = .ok (.iload_n 3, 1) := by decide +kernel
theorem dX9_person_78 : decode cX9_person 78 = .ok (.iastore, 1) := by decide +kernel
theorem dX9_person_79 : decode cX9_person 79 = .ok (.aload_n 0, 1) := by decide +kernel
theorem dX9_person_80 : decode cX9_person 80 = .ok (.getfield 39, 3) := by decide +kernel
theorem dX9_person_83 : decode cX9_person 83 = .ok (.aload_n 0, 1) := by decide +kernel
theorem dX9_person_84 : decode cX9_person 84 = .ok (.getfield 16, 3) := by decide +kernel
theorem dX9_person_87 : decode cX9_person 87 = .ok (.iload 4, 2) := by decide +kernel
theorem dX9_person_89 : decode cX9_person 89 = .ok (.iastore, 1) := by decide +kernel
theorem dX9_person_90 : decode cX9_person 90 = .ok (.aload_n 0, 1) := by decide +kernel
theorem dX9_person_91 : decode cX9_person 91 = .ok (.getfield 42, 3) := by decide +kernel
theorem dX9_person_94 : decode cX9_person 94 = .ok (.aload_n 0, 1) := by decide +kernel
theorem dX9_person_95 : decode cX9_person 95 = .ok (.getfield 16, 3) := by decide +kernel
theorem dX9_person_98 : decode cX9_person 98 = .ok (.sipush 200, 3) := by decide +kernel
theorem dX9_person_101 : decode cX9_person 101 = .ok (.iastore, 1) := by decide +kernel
theorem dX9_person_102 : decode cX9_person 102 = .ok (.aload_n 0, 1) := by decide +kernel
theorem dX9_person_103 : decode cX9_person 103 = .ok (.getfield 45, 3) := by decide +kernel
theorem dX9_person_106 : decode cX9_person 106 = .ok (.aload_n 0, 1) := by decide +kernel
theorem dX9_person_107 : decode cX9_person 107 = .ok (.getfield 16, 3) := by decide +kernel
theorem dX9_person_110 : decode cX9_person 110 = .ok (.iconst 0, 1) := by decide +kernel
theorem dX9_person_111 : decode cX9_person 111 = .ok (.iastore, 1) := by decide +kernel
theorem dX9_person_112 : decode cX9_person 112 = .ok (.aload_n 0, 1) := by decide +kernel
theorem dX9_person_113 : decode cX9_person 113 = .ok (.getfield 48, 3) := by decide +kernel
theorem dX9_person_116 : decode cX9_person 116 = .ok (.aload_n 0, 1) := by decide +kernel
theorem dX9_person_117 : decode cX9_person 117 = .ok (.getfield 16, 3) := by decide +kernel
theorem dX9_person_120 : decode cX9_person 120 = .ok (.iconst (-1), 1) := by decide +kernel
theorem dX9_person_121 : decode cX9_person 121 = .ok (.iastore, 1) := by decide +kernel
theorem dX9_person_122 : decode cX9_person 122 = .ok (.aload_n 0, 1) := by decide +kernel
theorem dX9_person_123 : decode cX9_person 123 = .ok (.dup, 1) := by decide +kernel
theorem dX9_person_124 : decode cX9_person 124 = .ok (.getfield 16, 3) := by decide +kernel
theorem dX9_person_127 : decode cX9_person 127 = .ok (.iconst 1, 1) := by decide +kernel
theorem dX9_person_128 : decode cX9_person 128 = .ok (.iadd, 1) := by decide +kernel
theorem dX9_person_129 : decode cX9_person 129 = .ok (.putfield 16, 3) := by decide +kernel
theorem dX9_person_132 : decode cX9_person 132 = .ok (.aload_n 0, 1) := by decide +kernel
theorem dX9_person_133 : decode cX9_person 133 = .ok (.getfield 16, 3) := by decide +kernel
theorem dX9_person_136 : decode cX9_person 136 = .ok (.iconst 1, 1) := by decide +kernel
theorem dX9_person_137 : decode cX9_person 137 = .ok (.isub, 1) := by decide +kernel
theorem dX9_person_138 : decode cX9_person 138 = .ok (.ireturn, 1) := by decide +kernel
theorem dX9_death_0 : decode cX9_death 0 = .ok (.aload_n 0, 1) := by decide +kernel
theorem dX9_death_1 : decode cX9_death 1 = .ok (.iload_n 1, 1) := by decide +kernel
theorem dX9_death_2 : decode cX9_death 2 = .ok (.invokevirtual 155, 3) := by decide +kernel
theorem dX9_death_5 : decode cX9_death 5 = .ok (.ifCond .eq 15, 3) := by decide +kernel
theorem dX9_death_8 : decode cX9_death 8 = .ok (.aload_n 0, 1) := by decide +kernel
theorem dX9_death_9 : decode cX9_death 9 = .ok (.iload_n 2, 1) := by decide +kernel
theorem dX9_death_10 : decode cX9_death 10 = .ok (.iconst 0, 1) := by decide +kernel
theorem dX9_death_11 : decode cX9_death 11 = .ok (.sipush 200, 3) := by decide +kernel
theorem dX9_death_14 : decode cX9_death 14 = .ok (.invokevirtual 147, 3) := by decide +kernel
theorem dX9_death_17 : decode cX9_death 17 = .ok (.ifCond .ne 5, 3) := by decide +kernel
theorem dX9_death_20 : decode cX9_death 20 = .ok (.iconst (-1), 1) := by decide +kernel
theorem dX9_death_21 : decode cX9_death 21 = .ok (.ireturn, 1) := by decide +kernel
theorem dX9_death_22 : decode cX9_death 22 = .ok (.aload_n 0, 1) := by decide +kernel
theorem dX9_death_23 : decode cX9_death 23 = .ok (.getfield 42, 3) := by decide +kernel
theorem dX9_death_26 : decode cX9_death 26 = .ok (.iload_n 1, 1) := by decide +kernel
theorem dX9_death_27 : decode cX9_death 27 = .ok (.iaload, 1) := by decide +kernel
theorem dX9_death_28 : decode cX9_death 28 = .ok (.istore_n 3, 1) := by decide +kernel
theorem dX9_death_29 : decode cX9_death 29 = .ok (.aload_n 0, 1) := by decide +kernel
theorem dX9_death_30 : decode cX9_death 30 = .ok (.getfield 42, 3) := by decide +kernel
theorem dX9_death_33 : decode cX9_death 33 = .ok (.iload_n 1, 1) := by decide +kernel
theorem dX9_death_34 : decode cX9_death 34 = .ok (.iload_n 2, 1) := by decide +kernel
theorem dX9_death_35 : decode cX9_death 35 = .ok (.iastore, 1) := by decide +kernel
theorem dX9_death_36 : decode cX9_death 36 = .ok (.iload_n 3, 1) := by decide +kernel
theorem dX9_death_37 : decode cX9_death 37 = .ok (.ireturn, 1) := by decide +kernel
theorem dX9_exile_0 : decode cX9_exile 0 = .ok (.aload_n 0, 1) := by decide +kernel
theorem dX9_exile_1 : decode cX9_exile 1 = .ok (.iload_n 1, 1) := by decide +kernel
theorem dX9_exile_2 : decode cX9_exile 2 = .ok (.invokevirtual 155, 3) := by decide +kernel
theorem dX9_exile_5 : decode cX9_exile 5 = .ok (.ifCond .eq 19, 3) := by decide +kernel
theorem dX9_exile_8 : decode cX9_exile 8 = .ok (.aload_n 0, 1) := by decide +kernel
theorem dX9_exile_9 : decode cX9_exile 9 = .ok (.iload_n 2, 1) := by decide +kernel
theorem dX9_exile_10 : decode cX9_exile 10 = .ok (.invokevirtual 159, 3) := by decide +kernel
theorem dX9_exile_13 : decode cX9_exile 13 = .ok (.ifCond .eq 11, 3) := by decide +kernel
theorem dX9_exile_16 : decode cX9_exile 16 = .ok (.aload_n 0, 1) := by decide +kernel
theorem dX9_exile_17 : decode cX9_exile 17 = .ok (.iload_n 3, 1) := by decide +kernel
theorem dX9_exile_18 : decode cX9_exile 18 = .ok (.invokevirtual 159, 3) := by decide +kernel
theorem dX9_exile_21 : decode cX9_exile 21 = .ok (.ifCond .ne 5, 3) := by decide +kernel
theorem dX9_exile_24 : decode cX9_exile 24 = .ok (.iconst (-1), 1) := by decide +kernel
theorem dX9_exile_25 : decode cX9_exile 25 = .ok (.ireturn, 1) := by decide +kernel
theorem dX9_exile_26 : decode cX9_exile 26 = .ok (.aload_n 0, 1) := by decide +kernel
theorem dX9_exile_27 : decode cX9_exile 27 = .ok (.getfield 45, 3) := by decide +kernel
theorem dX9_exile_30 : decode cX9_exile 30 = .ok (.iload_n 1, 1) := by decide +kernel
theorem dX9_exile_31 : decode cX9_exile 31 = .ok (.iaload, 1) := by decide +kernel
theorem dX9_exile_32 : decode cX9_exile 32 = .ok (.aload_n 0, 1) := by decide +kernel
theorem dX9_exile_33 : decode cX9_exile 33 = .ok (.getfield 48, 3) := by decide +kernel
theorem dX9_exile_36 : decode cX9_exile 36 = .ok (.iload_n 1, 1) := by decide +kernel
theorem dX9_exile_37 : decode cX9_exile 37 = .ok (.iaload, 1) := by decide +kernel
theorem dX9_exile_38 : decode cX9_exile 38 = .ok (.if_icmp .gt 7, 3) := by decide +kernel
theorem dX9_exile_41 : decode cX9_exile 41 = .ok (.iconst 1, 1) := by decide +kernel
theorem dX9_exile_42 : decode cX9_exile 42 = .ok (.goto 4, 3) := by decide +kernel
theorem dX9_exile_45 : decode cX9_exile 45 = .ok (.iconst 0, 1) := by decide +kernel
theorem dX9_exile_46 : decode cX9_exile 46 = .ok (.istore 4, 2) := by decide +kernel
theorem dX9_exile_48 : decode cX9_exile 48 = .ok (.aload_n 0, 1) := by decide +kernel
theorem dX9_exile_49 : decode cX9_exile 49 = .ok (.getfield 45, 3) := by decide +kernel
theorem dX9_exile_52 : decode cX9_exile 52 = .ok (.iload_n 1, 1) := by decide +kernel
theorem dX9_exile_53 : decode cX9_exile 53 = .ok (.iload_n 2, 1) := by decide +kernel
theorem dX9_exile_54 : decode cX9_exile 54 = .ok (.iload_n 3, 1) := by decide +kernel
theorem dX9_exile_55 : decode cX9_exile 55 = .ok (.if_icmp .le 7, 3) := by decide +kernel
theorem dX9_exile_58 : decode cX9_exile 58 = .ok (.iconst 0, 1) := by decide +kernel
theorem dX9_exile_59 : decode cX9_exile 59 = .ok (.goto 4, 3) := by decide +kernel
theorem dX9_exile_62 : decode cX9_exile 62 = .ok (.iload_n 2, 1) := by decide +kernel
theorem dX9_exile_63 : decode cX9_exile 63 = .ok (.iastore, 1) := by decide +kernel
theorem dX9_exile_64 : decode cX9_exile 64 = .ok (.aload_n 0, 1) := by decide +kernel
theorem dX9_exile_65 : decode cX9_exile 65 = .ok (.getfield 48, 3) := by decide +kernel
theorem dX9_exile_68 : decode cX9_exile 68 = .ok (.iload_n 1, 1) := by decide +kernel
theorem dX9_exile_69 : decode cX9_exile 69 = .ok (.iload_n 2, 1) := by decide +kernel
theorem dX9_exile_70 : decode cX9_exile 70 = .ok (.iload_n 3, 1) := by decide +kernel
theorem dX9_exile_71 : decode cX9_exile 71 = .ok (.if_icmp .le 7, 3) := by decide +kernel
theorem dX9_exile_74 : decode cX9_exile 74 = .ok (.iconst (-1), 1) := by decide +kernel
theorem dX9_exile_75 : decode cX9_exile 75 = .ok (.goto 4, 3) := by decide +kernel
theorem dX9_exile_78 : decode cX9_exile 78 = .ok (.iload_n 3, 1) := by decide +kernel
theorem dX9_exile_79 : decode cX9_exile 79 = .ok (.iastore, 1) := by decide +kernel
theorem dX9_exile_80 : decode cX9_exile 80 = .ok (.iload 4, 2) := by decide +kernel
theorem dX9_exile_82 : decode cX9_exile 82 = .ok (.ireturn, 1) := by decide +kernel
theorem dX9_birth_0 : decode cX9_birth 0 = .ok (.aload_n 0, 1) := by decide +kernel
theorem dX9_birth_1 : decode cX9_birth 1 = .ok (.iload_n 1, 1) := by decide +kernel
theorem dX9_birth_2 : decode cX9_birth 2 = .ok (.invokevirtual 155, 3) := by decide +kernel
theorem dX9_birth_5 : decode cX9_birth 5 = .ok (.ifCond .eq 12, 3) := by decide +kernel
theorem dX9_birth_8 : decode cX9_birth 8 = .ok (.aload_n 0, 1) := by decide +kernel
theorem dX9_birth_9 : decode cX9_birth 9 = .ok (.iload_n 2, 1) := by decide +kernel
theorem dX9_birth_10 : decode cX9_birth 10 = .ok (.iload_n 3, 1) := by decide +kernel
theorem dX9_birth_11 : decode cX9_birth 11 = .ok (.invokevirtual 151, 3) := by decide +kernel
theorem dX9_birth_14 : decode cX9_birth 14 = .ok (.ifCond .ne 5, 3) := by decide +kernel
theorem dX9_birth_17 : decode cX9_birth 17 = .ok (.iconst (-1), 1) := by decide +kernel
theorem dX9_birth_18 : decode cX9_birth 18 = .ok (.ireturn, 1) := by decide +kernel
theorem dX9_birth_19 : decode cX9_birth 19 = .ok (.aload_n 0, 1) := by decide +kernel
theorem dX9_birth_20 : decode cX9_birth 20 = .ok (.getfield 33, 3) := by decide +kernel
theorem dX9_birth_23 : decode cX9_birth 23 = .ok (.iload_n 1, 1) := by decide +kernel
theorem dX9_birth_24 : decode cX9_birth 24 = .ok (.iaload, 1) := by decide +kernel
theorem dX9_birth_25 : decode cX9_birth 25 = .ok (.iload_n 2, 1) := by decide +kernel
theorem dX9_birth_26 : decode cX9_birth 26 = .ok (.if_icmp .ne 17, 3) := by decide +kernel
theorem dX9_birth_29 : decode cX9_birth 29 = .ok (.aload_n 0, 1) := by decide +kernel
theorem dX9_birth_30 : decode cX9_birth 30 = .ok (.getfield 36, 3) := by decide +kernel
theorem dX9_birth_33 : decode cX9_birth 33 = .ok (.iload_n 1, 1) := by decide +kernel
theorem dX9_birth_34 : decode cX9_birth 34 = .ok (.iaload, 1) := by decide +kernel
theorem dX9_birth_35 : decode cX9_birth 35 = .ok (.iload_n 3, 1) := by decide +kernel
theorem dX9_birth_36 : decode cX9_birth 36 = .ok (.if_icmp .ne 7, 3) := by decide +kernel
theorem dX9_birth_39 : decode cX9_birth 39 = .ok (.iconst 0, 1) := by decide +kernel
theorem dX9_birth_40 : decode cX9_birth 40 = .ok (.goto 4, 3) := by decide +kernel
theorem dX9_birth_43 : decode cX9_birth 43 = .ok (.iconst 1, 1) := by decide +kernel
theorem dX9_birth_44 : decode cX9_birth 44 = .ok (.istore 4, 2) := by decide +kernel
theorem dX9_birth_46 : decode cX9_birth 46 = .ok (.aload_n 0, 1) := by decide +kernel
theorem dX9_birth_47 : decode cX9_birth 47 = .ok (.getfield 33, 3) := by decide +kernel
theorem dX9_birth_50 : decode cX9_birth 50 = .ok (.iload_n 1, 1) := by decide +kernel
theorem dX9_birth_51 : decode cX9_birth 51 = .ok (.iload_n 2, 1) := by decide +kernel
theorem dX9_birth_52 : decode cX9_birth 52 = .ok (.iastore, 1) := by decide +kernel
theorem dX9_birth_53 : decode cX9_birth 53 = .ok (.aload_n 0, 1) := by decide +kernel
theorem dX9_birth_54 : decode cX9_birth 54 = .ok (.getfield 36, 3) := by decide +kernel
theorem dX9_birth_57 : decode cX9_birth 57 = .ok (.iload_n 1, 1) := by decide +kernel
theorem dX9_birth_58 : decode cX9_birth 58 = .ok (.iload_n 3, 1) := by decide +kernel
theorem dX9_birth_59 : decode cX9_birth 59 = .ok (.iastore, 1) := by decide +kernel
theorem dX9_birth_60 : decode cX9_birth 60 = .ok (.iload 4, 2) := by decide +kernel
theorem dX9_birth_62 : decode cX9_birth 62 = .ok (.ireturn, 1) := by decide +kernel
theorem dX9_law_0 : decode cX9_law 0 = .ok (.iload_n 1, 1) := by decide +kernel
theorem dX9_law_1 : decode cX9_law 1 = .ok (.bipush 10, 2) := by decide +kernel
theorem dX9_law_3 : decode cX9_law 3 = .ok (.idiv, 1) := by decide +kernel
theorem dX9_law_4 : decode cX9_law 4 = .ok (.istore 5, 2) := by decide +kernel
theorem dX9_law_6 : decode cX9_law 6 = .ok (.iload_n 1, 1) := by decide +kernel
theorem dX9_law_7 : decode cX9_law 7 = .ok (.bipush 10, 2) := by decide +kernel
theorem dX9_law_9 : decode cX9_law 9 = .ok (.irem, 1) := by decide +kernel
theorem dX9_law_10 : decode cX9_law 10 = .ok (.iconst 1, 1) := by decide +kernel
theorem dX9_law_11 : decode cX9_law 11 = .ok (.isub, 1) := by decide +kernel
theorem dX9_law_12 : decode cX9_law 12 = .ok (.istore 6, 2) := by decide +kernel
theorem dX9_law_14 : decode cX9_law 14 = .ok (.iload_n 1, 1) := by decide +kernel
theorem dX9_law_15 : decode cX9_law 15 = .ok (.ifCond .lt 61, 3) := by decide +kernel
theorem dX9_law_18 : decode cX9_law 18 = .ok (.aload_n 0, 1) := by decide +kernel
theorem dX9_law_19 : decode cX9_law 19 = .ok (.iload 5, 2) := by decide +kernel
theorem dX9_law_21 : decode cX9_law 21 = .ok (.iconst 0, 1) := by decide +kernel
theorem dX9_law_22 : decode cX9_law 22 = .ok (.iconst 5, 1) := by decide +kernel
theorem dX9_law_23 : decode cX9_law 23 = .ok (.invokevirtual 147, 3) := by decide +kernel
theorem dX9_law_26 : decode cX9_law 26 = .ok (.ifCond .eq 50, 3) := by decide +kernel
theorem dX9_law_29 : decode cX9_law 29 = .ok (.aload_n 0, 1) := by decide +kernel
theorem dX9_law_30 : decode cX9_law 30 = .ok (.iload 6, 2) := by decide +kernel
theorem dX9_law_32 : decode cX9_law 32 = .ok (.iconst (-1), 1) := by decide +kernel
theorem dX9_law_33 : decode cX9_law 33 = .ok (.aload_n 0, 1) := by decide +kernel
theorem dX9_law_34 : decode cX9_law 34 = .ok (.getfield 13, 3) := by decide +kernel
theorem dX9_law_37 : decode cX9_law 37 = .ok (.iconst 1, 1) := by decide +kernel
theorem dX9_law_38 : decode cX9_law 38 = .ok (.isub, 1) := by decide +kernel
theorem dX9_law_39 : decode cX9_law 39 = .ok (.invokevirtual 147, 3) := by decide +kernel
theorem dX9_law_42 : decode cX9_law 42 = .ok (.ifCond .eq 34, 3) := by decide +kernel
theorem dX9_law_45 : decode cX9_law 45 = .ok (.aload_n 0, 1) := by decide +kernel
theorem dX9_law_46 : decode cX9_law 46 = .ok (.iload_n 3, 1) := by decide +kernel
theorem dX9_law_47 : decode cX9_law 47 = .ok (.invokevirtual 159, 3) := by decide +kernel
theorem dX9_law_50 : decode cX9_law 50 = .ok (.ifCond .eq 26, 3) := by decide +kernel
theorem dX9_law_53 : decode cX9_law 53 = .ok (.aload_n 0, 1) := by decide +kernel
theorem dX9_law_54 : decode cX9_law 54 = .ok (.iload 4, 2) := by decide +kernel
theorem dX9_law_56 : decode cX9_law 56 = .ok (.iconst 1, 1) := by decide +kernel
theorem dX9_law_57 : decode cX9_law 57 = .ok (.sipush 200, 3) := by decide +kernel
theorem dX9_law_60 : decode cX9_law 60 = .ok (.invokevirtual 147, 3) := by decide +kernel
theorem dX9_law_63 : decode cX9_law 63 = .ok (.ifCond .eq 13, 3) := by decide +kernel
theorem dX9_law_66 : decode cX9_law 66 = .ok (.iload_n 3, 1) := by decide +kernel
theorem dX9_law_67 : decode cX9_law 67 = .ok (.iload 4, 2) := by decide +kernel
theorem dX9_law_69 : decode cX9_law 69 = .ok (.if_icmp .ge 7, 3) := by decide +kernel
theorem dX9_law_72 : decode cX9_law 72 = .ok (.iconst 1, 1) := by decide +kernel
theorem dX9_law_73 : decode cX9_law 73 = .ok (.goto 4, 3) := by decide +kernel
theorem dX9_law_76 : decode cX9_law 76 = .ok (.iconst 0, 1) := by decide +kernel
theorem dX9_law_77 : decode cX9_law 77 = .ok (.istore 7, 2) := by decide +kernel
theorem dX9_law_79 : decode cX9_law 79 = .ok (.iload 7, 2) := by decide +kernel
theorem dX9_law_81 : decode cX9_law 81 = .ok (.ifCond .eq 79, 3) := by decide +kernel
theorem dX9_law_84 : decode cX9_law 84 = .ok (.iload 5, 2) := by decide +kernel
theorem dX9_law_86 : decode cX9_law 86 = .ok (.ifCond .ne 14, 3) := by decide +kernel
theorem dX9_law_89 : decode cX9_law 89 = .ok (.aload_n 0, 1) := by decide +kernel
theorem dX9_law_90 : decode cX9_law 90 = .ok (.iload_n 2, 1) := by decide +kernel
theorem dX9_law_91 : decode cX9_law 91 = .ok (.iconst 0, 1) := by decide +kernel
theorem dX9_law_92 : decode cX9_law 92 = .ok (.bipush 99, 2) := by decide +kernel
theorem dX9_law_94 : decode cX9_law 94 = .ok (.invokevirtual 147, 3) := by decide +kernel
theorem dX9_law_97 : decode cX9_law 97 = .ok (.goto 61, 3) := by decide +kernel
theorem dX9_law_100 : decode cX9_law 100 = .ok (.iload 5, 2) := by decide +kernel
theorem dX9_law_102 : decode cX9_law 102 = .ok (.iconst 1, 1) := by decide +kernel
theorem dX9_law_103 : decode cX9_law 103 = .ok (.if_icmp .ne 11, 3) := by decide +kernel
theorem dX9_law_106 : decode cX9_law 106 = .ok (.aload_n 0, 1) := by decide +kernel
theorem dX9_law_107 : decode cX9_law 107 = .ok (.iload_n 2, 1) := by decide +kernel
theorem dX9_law_108 : decode cX9_law 108 = .ok (.invokevirtual 162, 3) := by decide +kernel
theorem dX9_law_111 : decode cX9_law 111 = .ok (.goto 47, 3) := by decide +kernel
theorem dX9_law_114 : decode cX9_law 114 = .ok (.iload 5, 2) := by decide +kernel
theorem dX9_law_116 : decode cX9_law 116 = .ok (.iconst 2, 1) := by decide +kernel
theorem dX9_law_117 : decode cX9_law 117 = .ok (.if_icmp .eq 9, 3) := by decide +kernel
theorem dX9_law_120 : decode cX9_law 120 = .ok (.iload 5, 2) := by decide +kernel
theorem dX9_law_122 : decode cX9_law 122 = .ok (.iconst 3, 1) := by decide +kernel
theorem dX9_law_123 : decode cX9_law 123 = .ok (.if_icmp .ne 14, 3) := by decide +kernel
theorem dX9_law_126 : decode cX9_law 126 = .ok (.aload_n 0, 1) := by decide +kernel
theorem dX9_law_127 : decode cX9_law 127 = .ok (.iload_n 2, 1) := by decide +kernel
theorem dX9_law_128 : decode cX9_law 128 = .ok (.iconst 1, 1) := by decide +kernel
theorem dX9_law_129 : decode cX9_law 129 = .ok (.bipush 99, 2) := by decide +kernel
theorem dX9_law_131 : decode cX9_law 131 = .ok (.invokevirtual 147, 3) := by decide +kernel
theorem dX9_law_134 : decode cX9_law 134 = .ok (.goto 24, 3) := by decide +kernel
theorem dX9_law_137 : decode cX9_law 137 = .ok (.iload 5, 2) := by decide +kernel
theorem dX9_law_139 : decode cX9_law 139 = .ok (.iconst 5, 1) := by decide +kernel
theorem dX9_law_140 : decode cX9_law 140 = .ok (.if_icmp .eq 13, 3) := by decide +kernel
theorem dX9_law_143 : decode cX9_law 143 = .ok (.aload_n 0, 1) := by decide +kernel
theorem dX9_law_144 : decode cX9_law 144 = .ok (.iload_n 2, 1) := by decide +kernel
theorem dX9_law_145 : decode cX9_law 145 = .ok (.iconst 0, 1) := by decide +kernel
theorem dX9_law_146 : decode cX9_law 146 = .ok (.iconst 1, 1) := by decide +kernel
theorem dX9_law_147 : decode cX9_law 147 = .ok (.invokevirtual 147, 3) := by decide +kernel
theorem dX9_law_150 : decode cX9_law 150 = .ok (.ifCond .eq 7, 3) := by decide +kernel
theorem dX9_law_153 : decode cX9_law 153 = .ok (.iconst 1, 1) := by decide +kernel
theorem dX9_law_154 : decode cX9_law 154 = .ok (.goto 4, 3) := by decide +kernel
theorem dX9_law_157 : decode cX9_law 157 = .ok (.iconst 0, 1) := by decide +kernel
theorem dX9_law_158 : decode cX9_law 158 = .ok (.istore 7, 2) := by decide +kernel
theorem dX9_law_160 : decode cX9_law 160 = .ok (.iload 7, 2) := by decide +kernel
theorem dX9_law_162 : decode cX9_law 162 = .ok (.ifCond .ne 5, 3) := by decide +kernel
theorem dX9_law_165 : decode cX9_law 165 = .ok (.iconst (-1), 1) := by decide +kernel
theorem dX9_law_166 : decode cX9_law 166 = .ok (.ireturn, 1) := by decide +kernel
theorem dX9_law_167 : decode cX9_law 167 = .ok (.aload_n 0, 1) := by decide +kernel
theorem dX9_law_168 : decode cX9_law 168 = .ok (.getfield 19, 3) := by decide +kernel
theorem dX9_law_171 : decode cX9_law 171 = .ok (.bipush 20, 2) := by decide +kernel
theorem dX9_law_173 : decode cX9_law 173 = .ok (.if_icmp .ne 6, 3) := by decide +kernel
theorem dX9_law_176 : decode cX9_law 176 = .ok (.bipush (-2), 2) := by decide +kernel
theorem dX9_law_178 : decode cX9_law 178 = .ok (.ireturn, 1) := by decide +kernel
theorem dX9_law_179 : decode cX9_law 179 = .ok (.aload_n 0, 1) := by decide +kernel
theorem dX9_law_180 : decode cX9_law 180 = .ok (.getfield 51, 3) := by decide +kernel
theorem dX9_law_183 : decode cX9_law 183 = .ok (.aload_n 0, 1) := by decide +kernel
theorem dX9_law_184 : decode cX9_law 184 = .ok (.getfield 19, 3) := by decide +kernel
theorem dX9_law_187 : decode cX9_law 187 = .ok (.iload 5, 2) := by decide +kernel
theorem dX9_law_189 : decode cX9_law 189 = .ok (.iastore, 1) := by decide +kernel
theorem dX9_law_190 : decode cX9_law 190 = .ok (.aload_n 0, 1) := by decide +kernel
theorem dX9_law_191 : decode cX9_law 191 = .ok (.getfield 54, 3) := by decide +kernel
theorem dX9_law_194 : decode cX9_law 194 = .ok (.aload_n 0, 1) := by decide +kernel
theorem dX9_law_195 : decode cX9_law 195 = .ok (.getfield 19, 3) := by decide +kernel
theorem dX9_law_198 : decode cX9_law 198 = .ok (.iload 6, 2) := by decide +kernel
theorem dX9_law_200 : decode cX9_law 200 = .ok (.iastore, 1) := by decide +kernel
theorem dX9_law_201 : decode cX9_law 201 = .ok (.aload_n 0, 1) := by decide +kernel
theorem dX9_law_202 : decode cX9_law 202 = .ok (.getfield 57, 3) := by decide +kernel
theorem dX9_law_205 : decode cX9_law 205 = .ok (.aload_n 0, 1) := by decide +kernel
theorem dX9_law_206 : decode cX9_law 206 = .ok (.getfield 19, 3) := by decide +kernel
theorem dX9_law_209 : decode cX9_law 209 = .ok (.iload_n 2, 1) := by decide +kernel
theorem dX9_law_210 : decode cX9_law 210 = .ok (.iastore, 1) := by decide +kernel
theorem dX9_law_211 : decode cX9_law 211 = .ok (.aload_n 0, 1) := by decide +kernel
theorem dX9_law_212 : decode cX9_law 212 = .ok (.getfield 60, 3) := by decide +kernel
theorem dX9_law_215 : decode cX9_law 215 = .ok (.aload_n 0, 1) := by decide +kernel
theorem dX9_law_216 : decode cX9_law 216 = .ok (.getfield 19, 3) := by decide +kernel
theorem dX9_law_219 : decode cX9_law 219 = .ok (.iload_n 3, 1) := by decide +kernel
theorem dX9_law_220 : decode cX9_law 220 = .ok (.iastore, 1) := by decide +kernel
theorem dX9_law_221 : decode cX9_law 221 = .ok (.aload_n 0, 1) := by decide +kernel
theorem dX9_law_222 : decode cX9_law 222 = .ok (.getfield 63, 3) := by decide +kernel
theorem dX9_law_225 : decode cX9_law 225 = .ok (.aload_n 0, 1) := by decide +kernel
theorem dX9_law_226 : decode cX9_law 226 = .ok (.getfield 19, 3) := by decide +kernel
theorem dX9_law_229 : decode cX9_law 229 = .ok (.iload 4, 2) := by decide +kernel
theorem dX9_law_231 : decode cX9_law 231 = .ok (.iastore, 1) := by decide +kernel
theorem dX9_law_232 : decode cX9_law 232 = .ok (.aload_n 0, 1) := by decide +kernel
theorem dX9_law_233 : decode cX9_law 233 = .ok (.dup, 1) := by decide +kernel
theorem dX9_law_234 : decode cX9_law 234 = .ok (.getfield 19, 3) := by decide +kernel
theorem dX9_law_237 : decode cX9_law 237 = .ok (.iconst 1, 1) := by decide +kernel
theorem dX9_law_238 : decode cX9_law 238 = .ok (.iadd, 1) := by decide +kernel
theorem dX9_law_239 : decode cX9_law 239 = .ok (.putfield 19, 3) := by decide +kernel
theorem dX9_law_242 : decode cX9_law 242 = .ok (.aload_n 0, 1) := by decide +kernel
theorem dX9_law_243 : decode cX9_law 243 = .ok (.getfield 19, 3) := by decide +kernel
theorem dX9_law_246 : decode cX9_law 246 = .ok (.iconst 1, 1) := by decide +kernel
theorem dX9_law_247 : decode cX9_law 247 = .ok (.isub, 1) := by decide +kernel
theorem dX9_law_248 : decode cX9_law 248 = .ok (.ireturn, 1) := by decide +kernel
theorem dX9_repeal_0 : decode cX9_repeal 0 = .ok (.aload_n 0, 1) := by decide +kernel
theorem dX9_repeal_1 : decode cX9_repeal 1 = .ok (.iload_n 1, 1) := by decide +kernel
theorem dX9_repeal_2 : decode cX9_repeal 2 = .ok (.iconst 0, 1) := by decide +kernel
theorem dX9_repeal_3 : decode cX9_repeal 3 = .ok (.aload_n 0, 1) := by decide +kernel
theorem dX9_repeal_4 : decode cX9_repeal 4 = .ok (.getfield 19, 3) := by decide +kernel
theorem dX9_repeal_7 : decode cX9_repeal 7 = .ok (.iconst 1, 1) := by decide +kernel
theorem dX9_repeal_8 : decode cX9_repeal 8 = .ok (.isub, 1) := by decide +kernel
theorem dX9_repeal_9 : decode cX9_repeal 9 = .ok (.invokevirtual 147, 3) := by decide +kernel
theorem dX9_repeal_12 : decode cX9_repeal 12 = .ok (.ifCond .eq 25, 3) := by decide +kernel
theorem dX9_repeal_15 : decode cX9_repeal 15 = .ok (.aload_n 0, 1) := by decide +kernel
theorem dX9_repeal_16 : decode cX9_repeal 16 = .ok (.iload_n 2, 1) := by decide +kernel
theorem dX9_repeal_17 : decode cX9_repeal 17 = .ok (.aload_n 0, 1) := by decide +kernel
theorem dX9_repeal_18 : decode cX9_repeal 18 = .ok (.getfield 60, 3) := by decide +kernel
theorem dX9_repeal_21 : decode cX9_repeal 21 = .ok (.iload_n 1, 1) := by decide +kernel
theorem dX9_repeal_22 : decode cX9_repeal 22 = .ok (.iaload, 1) := by decide +kernel
theorem dX9_repeal_23 : decode cX9_repeal 23 = .ok (.iconst 1, 1) := by decide +kernel
theorem dX9_repeal_24 : decode cX9_repeal 24 = .ok (.iadd, 1) := by decide +kernel
theorem dX9_repeal_25 : decode cX9_repeal 25 = .ok (.aload_n 0, 1) := by decide +kernel
theorem dX9_repeal_26 : decode cX9_repeal 26 = .ok (.getfield 63, 3) := by decide +kernel
theorem dX9_repeal_29 : decode cX9_repeal 29 = .ok (.iload_n 1, 1) := by decide +kernel
theorem dX9_repeal_30 : decode cX9_repeal 30 = .ok (.iaload, 1) := by decide +kernel
theorem dX9_repeal_31 : decode cX9_repeal 31 = .ok (.invokevirtual 147, 3) := by decide +kernel
theorem dX9_repeal_34 : decode cX9_repeal 34 = .ok (.ifCond .ne 5, 3) := by decide +kernel
theorem dX9_repeal_37 : decode cX9_repeal 37 = .ok (.iconst (-1), 1) := by decide +kernel
theorem dX9_repeal_38 : decode cX9_repeal 38 = .ok (.ireturn, 1) := by decide +kernel
theorem dX9_repeal_39 : decode cX9_repeal 39 = .ok (.aload_n 0, 1) := by decide +kernel
theorem dX9_repeal_40 : decode cX9_repeal 40 = .ok (.getfield 63, 3) := by decide +kernel
theorem dX9_repeal_43 : decode cX9_repeal 43 = .ok (.iload_n 1, 1) := by decide +kernel
theorem dX9_repeal_44 : decode cX9_repeal 44 = .ok (.iaload, 1) := by decide +kernel
theorem dX9_repeal_45 : decode cX9_repeal 45 = .ok (.istore_n 3, 1) := by decide +kernel
theorem dX9_repeal_46 : decode cX9_repeal 46 = .ok (.aload_n 0, 1) := by decide +kernel
theorem dX9_repeal_47 : decode cX9_repeal 47 = .ok (.getfield 63, 3) := by decide +kernel
theorem dX9_repeal_50 : decode cX9_repeal 50 = .ok (.iload_n 1, 1) := by decide +kernel
theorem dX9_repeal_51 : decode cX9_repeal 51 = .ok (.iload_n 2, 1) := by decide +kernel
theorem dX9_repeal_52 : decode cX9_repeal 52 = .ok (.iastore, 1) := by decide +kernel
theorem dX9_repeal_53 : decode cX9_repeal 53 = .ok (.iload_n 3, 1) := by decide +kernel
theorem dX9_repeal_54 : decode cX9_repeal 54 = .ok (.ireturn, 1) := by decide +kernel
theorem dX9_put_0 : decode cX9_put 0 = .ok (.aload_n 0, 1) := by decide +kernel
theorem dX9_put_1 : decode cX9_put 1 = .ok (.getfield 66, 3) := by decide +kernel
theorem dX9_put_4 : decode cX9_put 4 = .ok (.iload_n 2, 1) := by decide +kernel
theorem dX9_put_5 : decode cX9_put 5 = .ok (.iload_n 1, 1) := by decide +kernel
theorem dX9_put_6 : decode cX9_put 6 = .ok (.iastore, 1) := by decide +kernel
theorem dX9_put_7 : decode cX9_put 7 = .ok (.aload_n 0, 1) := by decide +kernel
theorem dX9_put_8 : decode cX9_put 8 = .ok (.getfield 72, 3) := by decide +kernel
theorem dX9_put_11 : decode cX9_put 11 = .ok (.sipush 200, 3) := by decide +kernel
theorem dX9_put_14 : decode cX9_put 14 = .ok (.iload_n 1, 1) := by decide +kernel
theorem dX9_put_15 : decode cX9_put 15 = .ok (.imul, 1) := by decide +kernel
theorem dX9_put_16 : decode cX9_put 16 = .ok (.iload_n 3, 1) := by decide +kernel
theorem dX9_put_17 : decode cX9_put 17 = .ok (.iadd, 1) := by decide +kernel
theorem dX9_put_18 : decode cX9_put 18 = .ok (.iload_n 2, 1) := by decide +kernel
theorem dX9_put_19 : decode cX9_put 19 = .ok (.iastore, 1) := by decide +kernel
theorem dX9_put_20 : decode cX9_put 20 = .ok (.return_, 1) := by decide +kernel
theorem dX9_clear_0 : decode cX9_clear 0 = .ok (.aload_n 0, 1) := by decide +kernel
theorem dX9_clear_1 : decode cX9_clear 1 = .ok (.getfield 66, 3) := by decide +kernel
theorem dX9_clear_4 : decode cX9_clear 4 = .ok (.iload_n 1, 1) := by decide +kernel
theorem dX9_clear_5 : decode cX9_clear 5 = .ok (.iaload, 1) := by decide +kernel
theorem dX9_clear_6 : decode cX9_clear 6 = .ok (.istore_n 3, 1) := by decide +kernel
theorem dX9_clear_7 : decode cX9_clear 7 = .ok (.aload_n 0, 1) := by decide +kernel
theorem dX9_clear_8 : decode cX9_clear 8 = .ok (.getfield 72, 3) := by decide +kernel
theorem dX9_clear_11 : decode cX9_clear 11 = .ok (.sipush 200, 3) := by decide +kernel
theorem dX9_clear_14 : decode cX9_clear 14 = .ok (.iload_n 3, 1) := by decide +kernel
theorem dX9_clear_15 : decode cX9_clear 15 = .ok (.imul, 1) := by decide +kernel
theorem dX9_clear_16 : decode cX9_clear 16 = .ok (.iload_n 2, 1) := by decide +kernel
theorem dX9_clear_17 : decode cX9_clear 17 = .ok (.iadd, 1) := by decide +kernel
theorem dX9_clear_18 : decode cX9_clear 18 = .ok (.iconst (-1), 1) := by decide +kernel
theorem dX9_clear_19 : decode cX9_clear 19 = .ok (.iastore, 1) := by decide +kernel
theorem dX9_clear_20 : decode cX9_clear 20 = .ok (.aload_n 0, 1) := by decide +kernel
theorem dX9_clear_21 : decode cX9_clear 21 = .ok (.getfield 66, 3) := by decide +kernel
theorem dX9_clear_24 : decode cX9_clear 24 = .ok (.iload_n 1, 1) := by decide +kernel
theorem dX9_clear_25 : decode cX9_clear 25 = .ok (.iconst (-1), 1) := by decide +kernel
theorem dX9_clear_26 : decode cX9_clear 26 = .ok (.iastore, 1) := by decide +kernel
theorem dX9_clear_27 : decode cX9_clear 27 = .ok (.aload_n 0, 1) := by decide +kernel
theorem dX9_clear_28 : decode cX9_clear 28 = .ok (.getfield 69, 3) := by decide +kernel
theorem dX9_clear_31 : decode cX9_clear 31 = .ok (.iload_n 1, 1) := by decide +kernel
theorem dX9_clear_32 : decode cX9_clear 32 = .ok (.iconst 0, 1) := by decide +kernel
theorem dX9_clear_33 : decode cX9_clear 33 = .ok (.bastore, 1) := by decide +kernel
theorem dX9_clear_34 : decode cX9_clear 34 = .ok (.iload_n 3, 1) := by decide +kernel
theorem dX9_clear_35 : decode cX9_clear 35 = .ok (.ireturn, 1) := by decide +kernel
theorem dX9_stone_0 : decode cX9_stone 0 = .ok (.aload_n 0, 1) := by decide +kernel
theorem dX9_stone_1 : decode cX9_stone 1 = .ok (.iload_n 1, 1) := by decide +kernel
theorem dX9_stone_2 : decode cX9_stone 2 = .ok (.invokevirtual 155, 3) := by decide +kernel
theorem dX9_stone_5 : decode cX9_stone 5 = .ok (.ifCond .eq 19, 3) := by decide +kernel
theorem dX9_stone_8 : decode cX9_stone 8 = .ok (.aload_n 0, 1) := by decide +kernel
theorem dX9_stone_9 : decode cX9_stone 9 = .ok (.iload_n 2, 1) := by decide +kernel
theorem dX9_stone_10 : decode cX9_stone 10 = .ok (.invokevirtual 162, 3) := by decide +kernel
theorem dX9_stone_13 : decode cX9_stone 13 = .ok (.ifCond .eq 11, 3) := by decide +kernel
theorem dX9_stone_16 : decode cX9_stone 16 = .ok (.aload_n 0, 1) := by decide +kernel
theorem dX9_stone_17 : decode cX9_stone 17 = .ok (.iload_n 3, 1) := by decide +kernel
theorem dX9_stone_18 : decode cX9_stone 18 = .ok (.invokevirtual 159, 3) := by decide +kernel
theorem dX9_stone_21 : decode cX9_stone 21 = .ok (.ifCond .ne 5, 3) := by decide +kernel
theorem dX9_stone_24 : decode cX9_stone 24 = .ok (.iconst (-1), 1) := by decide +kernel
theorem dX9_stone_25 : decode cX9_stone 25 = .ok (.ireturn, 1) := by decide +kernel
theorem dX9_stone_26 : decode cX9_stone 26 = .ok (.aload_n 0, 1) := by decide +kernel
theorem dX9_stone_27 : decode cX9_stone 27 = .ok (.getfield 72, 3) := by decide +kernel
theorem dX9_stone_30 : decode cX9_stone 30 = .ok (.sipush 200, 3) := by decide +kernel
theorem dX9_stone_33 : decode cX9_stone 33 = .ok (.iload_n 1, 1) := by decide +kernel
theorem dX9_stone_34 : decode cX9_stone 34 = .ok (.imul, 1) := by decide +kernel
theorem dX9_stone_35 : decode cX9_stone 35 = .ok (.iload_n 3, 1) := by decide +kernel
theorem dX9_stone_36 : decode cX9_stone 36 = .ok (.iadd, 1) := by decide +kernel
theorem dX9_stone_37 : decode cX9_stone 37 = .ok (.iaload, 1) := by decide +kernel
theorem dX9_stone_38 : decode cX9_stone 38 = .ok (.ifCond .lt 6, 3) := by decide +kernel
theorem dX9_stone_41 : decode cX9_stone 41 = .ok (.bipush (-3), 2) := by decide +kernel
theorem dX9_stone_43 : decode cX9_stone 43 = .ok (.ireturn, 1) := by decide +kernel
theorem dX9_stone_44 : decode cX9_stone 44 = .ok (.iconst 0, 1) := by decide +kernel
theorem dX9_stone_45 : decode cX9_stone 45 = .ok (.istore 4, 2) := by decide +kernel
theorem dX9_stone_47 : decode cX9_stone 47 = .ok (.iload 4, 2) := by decide +kernel
theorem dX9_stone_49 : decode cX9_stone 49 = .ok (.aload_n 0, 1) := by decide +kernel
theorem dX9_stone_50 : decode cX9_stone 50 = .ok (.getfield 22, 3) := by decide +kernel
theorem dX9_stone_53 : decode cX9_stone 53 = .ok (.iload_n 2, 1) := by decide +kernel
theorem dX9_stone_54 : decode cX9_stone 54 = .ok (.iaload, 1) := by decide +kernel
theorem dX9_stone_55 : decode cX9_stone 55 = .ok (.if_icmp .ge 45, 3) := by decide +kernel
theorem dX9_stone_58 : decode cX9_stone 58 = .ok (.aload_n 0, 1) := by decide +kernel
theorem dX9_stone_59 : decode cX9_stone 59 = .ok (.getfield 66, 3) := by decide +kernel
theorem dX9_stone_62 : decode cX9_stone 62 = .ok (.aload_n 0, 1) := by decide +kernel
theorem dX9_stone_63 : decode cX9_stone 63 = .ok (.iload_n 2, 1) := by decide +kernel
theorem dX9_stone_64 : decode cX9_stone 64 = .ok (.iload_n 3, 1) := by decide +kernel
theorem dX9_stone_65 : decode cX9_stone 65 = .ok (.iload 4, 2) := by decide +kernel
theorem dX9_stone_67 : decode cX9_stone 67 = .ok (.invokevirtual 165, 3) := by decide +kernel
theorem dX9_stone_70 : decode cX9_stone 70 = .ok (.iaload, 1) := by decide +kernel
theorem dX9_stone_71 : decode cX9_stone 71 = .ok (.ifCond .lt 6, 3) := by decide +kernel
theorem dX9_stone_74 : decode cX9_stone 74 = .ok (.goto 20, 3) := by decide +kernel
theorem dX9_stone_77 : decode cX9_stone 77 = .ok (.aload_n 0, 1) := by decide +kernel
theorem dX9_stone_78 : decode cX9_stone 78 = .ok (.iload_n 1, 1) := by decide +kernel
theorem dX9_stone_79 : decode cX9_stone 79 = .ok (.aload_n 0, 1) := by decide +kernel
theorem dX9_stone_80 : decode cX9_stone 80 = .ok (.iload_n 2, 1) := by decide +kernel
theorem dX9_stone_81 : decode cX9_stone 81 = .ok (.iload_n 3, 1) := by decide +kernel
theorem dX9_stone_82 : decode cX9_stone 82 = .ok (.iload 4, 2) := by decide +kernel
theorem dX9_stone_84 : decode cX9_stone 84 = .ok (.invokevirtual 165, 3) := by decide +kernel
theorem dX9_stone_87 : decode cX9_stone 87 = .ok (.iload_n 3, 1) := by decide +kernel
theorem dX9_stone_88 : decode cX9_stone 88 = .ok (.invokevirtual 169, 3) := by decide +kernel
theorem dX9_stone_91 : decode cX9_stone 91 = .ok (.iload 4, 2) := by decide +kernel
theorem dX9_stone_93 : decode cX9_stone 93 = .ok (.ireturn, 1) := by decide +kernel
theorem dX9_stone_94 : decode cX9_stone 94 = .ok (.iinc 4 1, 3) := by decide +kernel
theorem dX9_stone_97 : decode cX9_stone 97 = .ok (.goto (-50), 3) := by decide +kernel
theorem dX9_stone_100 : decode cX9_stone 100 = .ok (.bipush (-3), 2) := by decide +kernel
theorem dX9_stone_102 : decode cX9_stone 102 = .ok (.ireturn, 1) := by decide +kernel
theorem dX9_isSeat_0 : decode cX9_isSeat 0 = .ok (.aload_n 0, 1) := by decide +kernel
theorem dX9_isSeat_1 : decode cX9_isSeat 1 = .ok (.iload_n 1, 1) := by decide +kernel
theorem dX9_isSeat_2 : decode cX9_isSeat 2 = .ok (.invokevirtual 162, 3) := by decide +kernel
theorem dX9_isSeat_5 : decode cX9_isSeat 5 = .ok (.ifCond .eq 32, 3) := by decide +kernel
theorem dX9_isSeat_8 : decode cX9_isSeat 8 = .ok (.aload_n 0, 1) := by decide +kernel
theorem dX9_isSeat_9 : decode cX9_isSeat 9 = .ok (.iload_n 2, 1) := by decide +kernel
theorem dX9_isSeat_10 : decode cX9_isSeat 10 = .ok (.invokevirtual 159, 3) := by decide +kernel
theorem dX9_isSeat_13 : decode cX9_isSeat 13 = .ok (.ifCond .eq 24, 3) := by decide +kernel
theorem dX9_isSeat_16 : decode cX9_isSeat 16 = .ok (.aload_n 0, 1) := by decide +kernel
theorem dX9_isSeat_17 : decode cX9_isSeat 17 = .ok (.iload_n 3, 1) := by decide +kernel
theorem dX9_isSeat_18 : decode cX9_isSeat 18 = .ok (.iconst 0, 1) := by decide +kernel
theorem dX9_isSeat_19 : decode cX9_isSeat 19 = .ok (.aload_n 0, 1) := by decide +kernel
theorem dX9_isSeat_20 : decode cX9_isSeat 20 = .ok (.getfield 22, 3) := by decide +kernel
theorem dX9_isSeat_23 : decode cX9_isSeat 23 = .ok (.iload_n 1, 1) := by decide +kernel
theorem dX9_isSeat_24 : decode cX9_isSeat 24 = .ok (.iaload, 1) := by decide +kernel
theorem dX9_isSeat_25 : decode cX9_isSeat 25 = .ok (.iconst 1, 1) := by decide +kernel
theorem dX9_isSeat_26 : decode cX9_isSeat 26 = .ok (.isub, 1) := by decide +kernel
theorem dX9_isSeat_27 : decode cX9_isSeat 27 = .ok (.invokevirtual 147, 3) := by decide +kernel
theorem dX9_isSeat_30 : decode cX9_isSeat 30 = .ok (.ifCond .eq 7, 3) := by decide +kernel
theorem dX9_isSeat_33 : decode cX9_isSeat 33 = .ok (.iconst 1, 1) := by decide +kernel
theorem dX9_isSeat_34 : decode cX9_isSeat 34 = .ok (.goto 4, 3) := by decide +kernel
theorem dX9_isSeat_37 : decode cX9_isSeat 37 = .ok (.iconst 0, 1) := by decide +kernel
theorem dX9_isSeat_38 : decode cX9_isSeat 38 = .ok (.ireturn, 1) := by decide +kernel
theorem dX9_empty_0 : decode cX9_empty 0 = .ok (.aload_n 0, 1) := by decide +kernel
theorem dX9_empty_1 : decode cX9_empty 1 = .ok (.iload_n 1, 1) := by decide +kernel
theorem dX9_empty_2 : decode cX9_empty 2 = .ok (.iload_n 2, 1) := by decide +kernel
theorem dX9_empty_3 : decode cX9_empty 3 = .ok (.iload_n 3, 1) := by decide +kernel
theorem dX9_empty_4 : decode cX9_empty 4 = .ok (.invokevirtual 173, 3) := by decide +kernel
theorem dX9_empty_7 : decode cX9_empty 7 = .ok (.ifCond .ne 5, 3) := by decide +kernel
theorem dX9_empty_10 : decode cX9_empty 10 = .ok (.iconst (-1), 1) := by decide +kernel
theorem dX9_empty_11 : decode cX9_empty 11 = .ok (.ireturn, 1) := by decide +kernel
theorem dX9_empty_12 : decode cX9_empty 12 = .ok (.aload_n 0, 1) := by decide +kernel
theorem dX9_empty_13 : decode cX9_empty 13 = .ok (.getfield 66, 3) := by decide +kernel
theorem dX9_empty_16 : decode cX9_empty 16 = .ok (.aload_n 0, 1) := by decide +kernel
theorem dX9_empty_17 : decode cX9_empty 17 = .ok (.iload_n 1, 1) := by decide +kernel
theorem dX9_empty_18 : decode cX9_empty 18 = .ok (.iload_n 2, 1) := by decide +kernel
theorem dX9_empty_19 : decode cX9_empty 19 = .ok (.iload_n 3, 1) := by decide +kernel
theorem dX9_empty_20 : decode cX9_empty 20 = .ok (.invokevirtual 165, 3) := by decide +kernel
theorem dX9_empty_23 : decode cX9_empty 23 = .ok (.iaload, 1) := by decide +kernel
theorem dX9_empty_24 : decode cX9_empty 24 = .ok (.ifCond .ge 8, 3) := by decide +kernel
theorem dX9_empty_27 : decode cX9_empty 27 = .ok (.bipush (-3), 2) := by decide +kernel
theorem dX9_empty_29 : decode cX9_empty 29 = .ok (.goto 15, 3) := by decide +kernel
theorem dX9_empty_32 : decode cX9_empty 32 = .ok (.aload_n 0, 1) := by decide +kernel
theorem dX9_empty_33 : decode cX9_empty 33 = .ok (.aload_n 0, 1) := by decide +kernel
theorem dX9_empty_34 : decode cX9_empty 34 = .ok (.iload_n 1, 1) := by decide +kernel
theorem dX9_empty_35 : decode cX9_empty 35 = .ok (.iload_n 2, 1) := by decide +kernel
theorem dX9_empty_36 : decode cX9_empty 36 = .ok (.iload_n 3, 1) := by decide +kernel
theorem dX9_empty_37 : decode cX9_empty 37 = .ok (.invokevirtual 165, 3) := by decide +kernel
theorem dX9_empty_40 : decode cX9_empty 40 = .ok (.iload_n 2, 1) := by decide +kernel
theorem dX9_empty_41 : decode cX9_empty 41 = .ok (.invokevirtual 176, 3) := by decide +kernel
theorem dX9_empty_44 : decode cX9_empty 44 = .ok (.ireturn, 1) := by decide +kernel
theorem dX9_annul_0 : decode cX9_annul 0 = .ok (.aload_n 0, 1) := by decide +kernel
theorem dX9_annul_1 : decode cX9_annul 1 = .ok (.iload_n 1, 1) := by decide +kernel
theorem dX9_annul_2 : decode cX9_annul 2 = .ok (.iload_n 2, 1) := by decide +kernel
theorem dX9_annul_3 : decode cX9_annul 3 = .ok (.iload_n 3, 1) := by decide +kernel
theorem dX9_annul_4 : decode cX9_annul 4 = .ok (.invokevirtual 173, 3) := by decide +kernel
theorem dX9_annul_7 : decode cX9_annul 7 = .ok (.ifCond .ne 5, 3) := by decide +kernel
theorem dX9_annul_10 : decode cX9_annul 10 = .ok (.iconst (-1), 1) := by decide +kernel
theorem dX9_annul_11 : decode cX9_annul 11 = .ok (.ireturn, 1) := by decide +kernel
theorem dX9_annul_12 : decode cX9_annul 12 = .ok (.aload_n 0, 1) := by decide +kernel
theorem dX9_annul_13 : decode cX9_annul 13 = .ok (.iload_n 1, 1) := by decide +kernel
theorem dX9_annul_14 : decode cX9_annul 14 = .ok (.iload_n 2, 1) := by decide +kernel
theorem dX9_annul_15 : decode cX9_annul 15 = .ok (.iload_n 3, 1) := by decide +kernel
theorem dX9_annul_16 : decode cX9_annul 16 = .ok (.invokevirtual 165, 3) := by decide +kernel
theorem dX9_annul_19 : decode cX9_annul 19 = .ok (.istore 5, 2) := by decide +kernel
theorem dX9_annul_21 : decode cX9_annul 21 = .ok (.aload_n 0, 1) := by decide +kernel
theorem dX9_annul_22 : decode cX9_annul 22 = .ok (.getfield 66, 3) := by decide +kernel
theorem dX9_annul_25 : decode cX9_annul 25 = .ok (.iload 5, 2) := by decide +kernel
theorem dX9_annul_27 : decode cX9_annul 27 = .ok (.iaload, 1) := by decide +kernel
theorem dX9_annul_28 : decode cX9_annul 28 = .ok (.ifCond .ge 6, 3) := by decide +kernel
theorem dX9_annul_31 : decode cX9_annul 31 = .ok (.bipush (-3), 2) := by decide +kernel
theorem dX9_annul_33 : decode cX9_annul 33 = .ok (.ireturn, 1) := by decide +kernel
theorem dX9_annul_34 : decode cX9_annul 34 = .ok (.aload_n 0, 1) := by decide +kernel
theorem dX9_annul_35 : decode cX9_annul 35 = .ok (.getfield 69, 3) := by decide +kernel
theorem dX9_annul_38 : decode cX9_annul 38 = .ok (.iload 5, 2) := by decide +kernel
theorem dX9_annul_40 : decode cX9_annul 40 = .ok (.baload, 1) := by decide +kernel
theorem dX9_annul_41 : decode cX9_annul 41 = .ok (.iload 4, 2) := by decide +kernel
theorem dX9_annul_43 : decode cX9_annul 43 = .ok (.if_icmp .ne 7, 3) := by decide +kernel
theorem dX9_annul_46 : decode cX9_annul 46 = .ok (.iconst 0, 1) := by decide +kernel
theorem dX9_annul_47 : decode cX9_annul 47 = .ok (.goto 4, 3) := by decide +kernel
theorem dX9_annul_50 : decode cX9_annul 50 = .ok (.iconst 1, 1) := by decide +kernel
theorem dX9_annul_51 : decode cX9_annul 51 = .ok (.istore 6, 2) := by decide +kernel
theorem dX9_annul_53 : decode cX9_annul 53 = .ok (.aload_n 0, 1) := by decide +kernel
theorem dX9_annul_54 : decode cX9_annul 54 = .ok (.getfield 69, 3) := by decide +kernel
theorem dX9_annul_57 : decode cX9_annul 57 = .ok (.iload 5, 2) := by decide +kernel
theorem dX9_annul_59 : decode cX9_annul 59 = .ok (.iload 4, 2) := by decide +kernel
theorem dX9_annul_61 : decode cX9_annul 61 = .ok (.bastore, 1) := by decide +kernel
theorem dX9_annul_62 : decode cX9_annul 62 = .ok (.iload 6, 2) := by decide +kernel
theorem dX9_annul_64 : decode cX9_annul 64 = .ok (.ireturn, 1) := by decide +kernel
theorem dX9_seat_0 : decode cX9_seat 0 = .ok (.aload_n 0, 1) := by decide +kernel
theorem dX9_seat_1 : decode cX9_seat 1 = .ok (.iload_n 1, 1) := by decide +kernel
theorem dX9_seat_2 : decode cX9_seat 2 = .ok (.iload_n 2, 1) := by decide +kernel
theorem dX9_seat_3 : decode cX9_seat 3 = .ok (.iload_n 3, 1) := by decide +kernel
theorem dX9_seat_4 : decode cX9_seat 4 = .ok (.invokevirtual 173, 3) := by decide +kernel
theorem dX9_seat_7 : decode cX9_seat 7 = .ok (.ifCond .ne 5, 3) := by decide +kernel
theorem dX9_seat_10 : decode cX9_seat 10 = .ok (.iconst (-1), 1) := by decide +kernel
theorem dX9_seat_11 : decode cX9_seat 11 = .ok (.ireturn, 1) := by decide +kernel
theorem dX9_seat_12 : decode cX9_seat 12 = .ok (.aload_n 0, 1) := by decide +kernel
theorem dX9_seat_13 : decode cX9_seat 13 = .ok (.iload_n 1, 1) := by decide +kernel
theorem dX9_seat_14 : decode cX9_seat 14 = .ok (.iload_n 2, 1) := by decide +kernel
theorem dX9_seat_15 : decode cX9_seat 15 = .ok (.iload_n 3, 1) := by decide +kernel
theorem dX9_seat_16 : decode cX9_seat 16 = .ok (.invokevirtual 165, 3) := by decide +kernel
theorem dX9_seat_19 : decode cX9_seat 19 = .ok (.istore 4, 2) := by decide +kernel
theorem dX9_seat_21 : decode cX9_seat 21 = .ok (.aload_n 0, 1) := by decide +kernel
theorem dX9_seat_22 : decode cX9_seat 22 = .ok (.getfield 66, 3) := by decide +kernel
theorem dX9_seat_25 : decode cX9_seat 25 = .ok (.iload 4, 2) := by decide +kernel
theorem dX9_seat_27 : decode cX9_seat 27 = .ok (.iaload, 1) := by decide +kernel
theorem dX9_seat_28 : decode cX9_seat 28 = .ok (.ifCond .ge 8, 3) := by decide +kernel
theorem dX9_seat_31 : decode cX9_seat 31 = .ok (.bipush (-2), 2) := by decide +kernel
theorem dX9_seat_33 : decode cX9_seat 33 = .ok (.goto 27, 3) := by decide +kernel
theorem dX9_seat_36 : decode cX9_seat 36 = .ok (.aload_n 0, 1) := by decide +kernel
theorem dX9_seat_37 : decode cX9_seat 37 = .ok (.getfield 66, 3) := by decide +kernel
theorem dX9_seat_40 : decode cX9_seat 40 = .ok (.iload 4, 2) := by decide +kernel
theorem dX9_seat_42 : decode cX9_seat 42 = .ok (.iaload, 1) := by decide +kernel
theorem dX9_seat_43 : decode cX9_seat 43 = .ok (.aload_n 0, 1) := by decide +kernel
theorem dX9_seat_44 : decode cX9_seat 44 = .ok (.getfield 69, 3) := by decide +kernel
theorem dX9_seat_47 : decode cX9_seat 47 = .ok (.iload 4, 2) := by decide +kernel
theorem dX9_seat_49 : decode cX9_seat 49 = .ok (.baload, 1) := by decide +kernel
theorem dX9_seat_50 : decode cX9_seat 50 = .ok (.ifCond .eq 8, 3) := by decide +kernel
theorem dX9_seat_53 : decode cX9_seat 53 = .ok (.bipush 100, 2) := by decide +kernel
theorem dX9_seat_55 : decode cX9_seat 55 = .ok (.goto 4, 3) := by decide +kernel
theorem dX9_seat_58 : decode cX9_seat 58 = .ok (.iconst 0, 1) := by decide +kernel
theorem dX9_seat_59 : decode cX9_seat 59 = .ok (.iadd, 1) := by decide +kernel
theorem dX9_seat_60 : decode cX9_seat 60 = .ok (.ireturn, 1) := by decide +kernel
theorem dX9_officeAt_0 : decode cX9_officeAt 0 = .ok (.iload_n 1, 1) := by decide +kernel
theorem dX9_officeAt_1 : decode cX9_officeAt 1 = .ok (.sipush 600, 3) := by decide +kernel
theorem dX9_officeAt_4 : decode cX9_officeAt 4 = .ok (.idiv, 1) := by decide +kernel
theorem dX9_officeAt_5 : decode cX9_officeAt 5 = .ok (.ireturn, 1) := by decide +kernel
theorem dX9_holds_0 : decode cX9_holds 0 = .ok (.aload_n 0, 1) := by decide +kernel
theorem dX9_holds_1 : decode cX9_holds 1 = .ok (.iload_n 1, 1) := by decide +kernel
theorem dX9_holds_2 : decode cX9_holds 2 = .ok (.invokevirtual 155, 3) := by decide +kernel
theorem dX9_holds_5 : decode cX9_holds 5 = .ok (.ifCond .eq 11, 3) := by decide +kernel
theorem dX9_holds_8 : decode cX9_holds 8 = .ok (.aload_n 0, 1) := by decide +kernel
theorem dX9_holds_9 : decode cX9_holds 9 = .ok (.iload_n 2, 1) := by decide +kernel
theorem dX9_holds_10 : decode cX9_holds 10 = .ok (.invokevirtual 159, 3) := by decide +kernel
theorem dX9_holds_13 : decode cX9_holds 13 = .ok (.ifCond .ne 5, 3) := by decide +kernel
theorem dX9_holds_16 : decode cX9_holds 16 = .ok (.iconst (-1), 1) := by decide +kernel
theorem dX9_holds_17 : decode cX9_holds 17 = .ok (.ireturn, 1) := by decide +kernel
theorem dX9_holds_18 : decode cX9_holds 18 = .ok (.aload_n 0, 1) := by decide +kernel
theorem dX9_holds_19 : decode cX9_holds 19 = .ok (.getfield 72, 3) := by decide +kernel
theorem dX9_holds_22 : decode cX9_holds 22 = .ok (.sipush 200, 3) := by decide +kernel
theorem dX9_holds_25 : decode cX9_holds 25 = .ok (.iload_n 1, 1) := by decide +kernel
theorem dX9_holds_26 : decode cX9_holds 26 = .ok (.imul, 1) := by decide +kernel
theorem dX9_holds_27 : decode cX9_holds 27 = .ok (.iload_n 2, 1) := by decide +kernel
theorem dX9_holds_28 : decode cX9_holds 28 = .ok (.iadd, 1) := by decide +kernel
theorem dX9_holds_29 : decode cX9_holds 29 = .ok (.iaload, 1) := by decide +kernel
theorem dX9_holds_30 : decode cX9_holds 30 = .ok (.istore_n 3, 1) := by decide +kernel
theorem dX9_holds_31 : decode cX9_holds 31 = .ok (.iload_n 3, 1) := by decide +kernel
theorem dX9_holds_32 : decode cX9_holds 32 = .ok (.ifCond .ge 8, 3) := by decide +kernel
theorem dX9_holds_35 : decode cX9_holds 35 = .ok (.bipush (-2), 2) := by decide +kernel
theorem dX9_holds_37 : decode cX9_holds 37 = .ok (.goto 8, 3) := by decide +kernel
theorem dX9_holds_40 : decode cX9_holds 40 = .ok (.aload_n 0, 1) := by decide +kernel
theorem dX9_holds_41 : decode cX9_holds 41 = .ok (.iload_n 3, 1) := by decide +kernel
theorem dX9_holds_42 : decode cX9_holds 42 = .ok (.invokevirtual 180, 3) := by decide +kernel
theorem dX9_holds_45 : decode cX9_holds 45 = .ok (.ireturn, 1) := by decide +kernel
theorem dX9_hasHeld_0 : decode cX9_hasHeld 0 = .ok (.iload_n 3, 1) := by decide +kernel
theorem dX9_hasHeld_1 : decode cX9_hasHeld 1 = .ok (.ifCond .ge 7, 3) := by decide +kernel
theorem dX9_hasHeld_4 : decode cX9_hasHeld 4 = .ok (.iconst (-1), 1) := by decide +kernel
theorem dX9_hasHeld_5 : decode cX9_hasHeld 5 = .ok (.goto 15, 3) := by decide +kernel
theorem dX9_hasHeld_8 : decode cX9_hasHeld 8 = .ok (.aload_n 0, 1) := by decide +kernel
theorem dX9_hasHeld_9 : decode cX9_hasHeld 9 = .ok (.getfield 72, 3) := by decide +kernel
theorem dX9_hasHeld_12 : decode cX9_hasHeld 12 = .ok (.sipush 200, 3) := by decide +kernel
theorem dX9_hasHeld_15 : decode cX9_hasHeld 15 = .ok (.iload_n 1, 1) := by decide +kernel
theorem dX9_hasHeld_16 : decode cX9_hasHeld 16 = .ok (.imul, 1) := by decide +kernel
theorem dX9_hasHeld_17 : decode cX9_hasHeld 17 = .ok (.iload_n 3, 1) := by decide +kernel
theorem dX9_hasHeld_18 : decode cX9_hasHeld 18 = .ok (.iadd, 1) := by decide +kernel
theorem dX9_hasHeld_19 : decode cX9_hasHeld 19 = .ok (.iaload, 1) := by decide +kernel
theorem dX9_hasHeld_20 : decode cX9_hasHeld 20 = .ok (.istore 4, 2) := by decide +kernel
theorem dX9_hasHeld_22 : decode cX9_hasHeld 22 = .ok (.iload 4, 2) := by decide +kernel
theorem dX9_hasHeld_24 : decode cX9_hasHeld 24 = .ok (.ifCond .lt 31, 3) := by decide +kernel
theorem dX9_hasHeld_27 : decode cX9_hasHeld 27 = .ok (.aload_n 0, 1) := by decide +kernel
theorem dX9_hasHeld_28 : decode cX9_hasHeld 28 = .ok (.getfield 69, 3) := by decide +kernel
theorem dX9_hasHeld_31 : decode cX9_hasHeld 31 = .ok (.iload 4, 2) := by decide +kernel
theorem dX9_hasHeld_33 : decode cX9_hasHeld 33 = .ok (.baload, 1) := by decide +kernel
theorem dX9_hasHeld_34 : decode cX9_hasHeld 34 = .ok (.ifCond .ne 21, 3) := by decide +kernel
theorem dX9_hasHeld_37 : decode cX9_hasHeld 37 = .ok (.iload_n 2, 1) := by decide +kernel
theorem dX9_hasHeld_38 : decode cX9_hasHeld 38 = .ok (.ifCond .lt 13, 3) := by decide +kernel
theorem dX9_hasHeld_41 : decode cX9_hasHeld 41 = .ok (.aload_n 0, 1) := by decide +kernel
theorem dX9_hasHeld_42 : decode cX9_hasHeld 42 = .ok (.iload 4, 2) := by decide +kernel
theorem dX9_hasHeld_44 : decode cX9_hasHeld 44 = .ok (.invokevirtual 180, 3) := by decide +kernel
theorem dX9_hasHeld_47 : decode cX9_hasHeld 47 = .ok (.iload_n 2, 1) := by decide +kernel
theorem dX9_hasHeld_48 : decode cX9_hasHeld 48 = .ok (.if_icmp .ne 7, 3) := by decide +kernel
theorem dX9_hasHeld_51 : decode cX9_hasHeld 51 = .ok (.iconst 1, 1) := by decide +kernel
theorem dX9_hasHeld_52 : decode cX9_hasHeld 52 = .ok (.goto 4, 3) := by decide +kernel
theorem dX9_hasHeld_55 : decode cX9_hasHeld 55 = .ok (.iconst 0, 1) := by decide +kernel
theorem dX9_hasHeld_56 : decode cX9_hasHeld 56 = .ok (.ireturn, 1) := by decide +kernel
theorem dX9_held_0 : decode cX9_held 0 = .ok (.aload_n 0, 1) := by decide +kernel
theorem dX9_held_1 : decode cX9_held 1 = .ok (.iload_n 1, 1) := by decide +kernel
theorem dX9_held_2 : decode cX9_held 2 = .ok (.invokevirtual 155, 3) := by decide +kernel
theorem dX9_held_5 : decode cX9_held 5 = .ok (.ifCond .eq 26, 3) := by decide +kernel
theorem dX9_held_8 : decode cX9_held 8 = .ok (.aload_n 0, 1) := by decide +kernel
theorem dX9_held_9 : decode cX9_held 9 = .ok (.iload_n 2, 1) := by decide +kernel
theorem dX9_held_10 : decode cX9_held 10 = .ok (.iconst (-1), 1) := by decide +kernel
theorem dX9_held_11 : decode cX9_held 11 = .ok (.aload_n 0, 1) := by decide +kernel
theorem dX9_held_12 : decode cX9_held 12 = .ok (.getfield 13, 3) := by decide +kernel
theorem dX9_held_15 : decode cX9_held 15 = .ok (.iconst 1, 1) := by decide +kernel
theorem dX9_held_16 : decode cX9_held 16 = .ok (.isub, 1) := by decide +kernel
theorem dX9_held_17 : decode cX9_held 17 = .ok (.invokevirtual 147, 3) := by decide +kernel
theorem dX9_held_20 : decode cX9_held 20 = .ok (.ifCond .eq 11, 3) := by decide +kernel
theorem dX9_held_23 : decode cX9_held 23 = .ok (.aload_n 0, 1) := by decide +kernel
theorem dX9_held_24 : decode cX9_held 24 = .ok (.iload_n 3, 1) := by decide +kernel
theorem dX9_held_25 : decode cX9_held 25 = .ok (.invokevirtual 159, 3) := by decide +kernel
theorem dX9_held_28 : decode cX9_held 28 = .ok (.ifCond .ne 5, 3) := by decide +kernel
theorem dX9_held_31 : decode cX9_held 31 = .ok (.iconst (-1), 1) := by decide +kernel
theorem dX9_held_32 : decode cX9_held 32 = .ok (.ireturn, 1) := by decide +kernel
theorem dX9_held_33 : decode cX9_held 33 = .ok (.iconst 0, 1) := by decide +kernel
theorem dX9_held_34 : decode cX9_held 34 = .ok (.istore 4, 2) := by decide +kernel
theorem dX9_held_36 : decode cX9_held 36 = .ok (.iconst 0, 1) := by decide +kernel
theorem dX9_held_37 : decode cX9_held 37 = .ok (.istore 5, 2) := by decide +kernel
theorem dX9_held_39 : decode cX9_held 39 = .ok (.iload 5, 2) := by decide +kernel
theorem dX9_held_41 : decode cX9_held 41 = .ok (.iload_n 3, 1) := by decide +kernel
theorem dX9_held_42 : decode cX9_held 42 = .ok (.if_icmp .ge 30, 3) := by decide +kernel
theorem dX9_held_45 : decode cX9_held 45 = .ok (.iload 4, 2) := by decide +kernel
theorem dX9_held_47 : decode cX9_held 47 = .ok (.aload_n 0, 1) := by decide +kernel
theorem dX9_held_48 : decode cX9_held 48 = .ok (.iload_n 1, 1) := by decide +kernel
theorem dX9_held_49 : decode cX9_held 49 = .ok (.iload_n 2, 1) := by decide +kernel
theorem dX9_held_50 : decode cX9_held 50 = .ok (.iload 5, 2) := by decide +kernel
theorem dX9_held_52 : decode cX9_held 52 = .ok (.invokevirtual 184, 3) := by decide +kernel
theorem dX9_held_55 : decode cX9_held 55 = .ok (.ifCond .eq 7, 3) := by decide +kernel
theorem dX9_held_58 : decode cX9_held 58 = .ok (.iconst 1, 1) := by decide +kernel
theorem dX9_held_59 : decode cX9_held 59 = .ok (.goto 4, 3) := by decide +kernel
theorem dX9_held_62 : decode cX9_held 62 = .ok (.iconst 0, 1) := by decide +kernel
theorem dX9_held_63 : decode cX9_held 63 = .ok (.iadd, 1) := by decide +kernel
theorem dX9_held_64 : decode cX9_held 64 = .ok (.istore 4, 2) := by decide +kernel
theorem dX9_held_66 : decode cX9_held 66 = .ok (.iinc 5 1, 3) := by decide +kernel
theorem dX9_held_69 : decode cX9_held 69 = .ok (.goto (-30), 3) := by decide +kernel
theorem dX9_held_72 : decode cX9_held 72 = .ok (.iload 4, 2) := by decide +kernel
theorem dX9_held_74 : decode cX9_held 74 = .ok (.ireturn, 1) := by decide +kernel
theorem dX9_isKin_0 : decode cX9_isKin 0 = .ok (.aload_n 0, 1) := by decide +kernel
theorem dX9_isKin_1 : decode cX9_isKin 1 = .ok (.getfield 39, 3) := by decide +kernel
theorem dX9_isKin_4 : decode cX9_isKin 4 = .ok (.iload_n 1, 1) := by decide +kernel
theorem dX9_isKin_5 : decode cX9_isKin 5 = .ok (.iaload, 1) := by decide +kernel
theorem dX9_isKin_6 : decode cX9_isKin 6 = .ok (.iload_n 2, 1) := by decide +kernel
theorem dX9_isKin_7 : decode cX9_isKin 7 = .ok (.if_icmp .eq 37, 3) := by decide +kernel
theorem dX9_isKin_10 : decode cX9_isKin 10 = .ok (.aload_n 0, 1) := by decide +kernel
theorem dX9_isKin_11 : decode cX9_isKin 11 = .ok (.getfield 39, 3) := by decide +kernel
theorem dX9_isKin_14 : decode cX9_isKin 14 = .ok (.iload_n 2, 1) := by decide +kernel
theorem dX9_isKin_15 : decode cX9_isKin 15 = .ok (.iaload, 1) := by decide +kernel
theorem dX9_isKin_16 : decode cX9_isKin 16 = .ok (.iload_n 1, 1) := by decide +kernel
theorem dX9_isKin_17 : decode cX9_isKin 17 = .ok (.if_icmp .eq 27, 3) := by decide +kernel
theorem dX9_isKin_20 : decode cX9_isKin 20 = .ok (.aload_n 0, 1) := by decide +kernel
theorem dX9_isKin_21 : decode cX9_isKin 21 = .ok (.getfield 39, 3) := by decide +kernel
theorem dX9_isKin_24 : decode cX9_isKin 24 = .ok (.iload_n 1, 1) := by decide +kernel
theorem dX9_isKin_25 : decode cX9_isKin 25 = .ok (.iaload, 1) := by decide +kernel
theorem dX9_isKin_26 : decode cX9_isKin 26 = .ok (.ifCond .lt 22, 3) := by decide +kernel
theorem dX9_isKin_29 : decode cX9_isKin 29 = .ok (.aload_n 0, 1) := by decide +kernel
theorem dX9_isKin_30 : decode cX9_isKin 30 = .ok (.getfield 39, 3) := by decide +kernel
theorem dX9_isKin_33 : decode cX9_isKin 33 = .ok (.iload_n 1, 1) := by decide +kernel
theorem dX9_isKin_34 : decode cX9_isKin 34 = .ok (.iaload, 1) := by decide +kernel
theorem dX9_isKin_35 : decode cX9_isKin 35 = .ok (.aload_n 0, 1) := by decide +kernel
theorem dX9_isKin_36 : decode cX9_isKin 36 = .ok (.getfield 39, 3) := by decide +kernel
theorem dX9_isKin_39 : decode cX9_isKin 39 = .ok (.iload_n 2, 1) := by decide +kernel
theorem dX9_isKin_40 : decode cX9_isKin 40 = .ok (.iaload, 1) := by decide +kernel
theorem dX9_isKin_41 : decode cX9_isKin 41 = .ok (.if_icmp .ne 7, 3) := by decide +kernel
theorem dX9_isKin_44 : decode cX9_isKin 44 = .ok (.iconst 1, 1) := by decide +kernel
theorem dX9_isKin_45 : decode cX9_isKin 45 = .ok (.goto 4, 3) := by decide +kernel
theorem dX9_isKin_48 : decode cX9_isKin 48 = .ok (.iconst 0, 1) := by decide +kernel
theorem dX9_isKin_49 : decode cX9_isKin 49 = .ok (.ireturn, 1) := by decide +kernel
theorem dX9_hasKin_0 : decode cX9_hasKin 0 = .ok (.iconst 0, 1) := by decide +kernel
theorem dX9_hasKin_1 : decode cX9_hasKin 1 = .ok (.istore 4, 2) := by decide +kernel
theorem dX9_hasKin_3 : decode cX9_hasKin 3 = .ok (.iconst 0, 1) := by decide +kernel
theorem dX9_hasKin_4 : decode cX9_hasKin 4 = .ok (.istore 5, 2) := by decide +kernel
theorem dX9_hasKin_6 : decode cX9_hasKin 6 = .ok (.iload 5, 2) := by decide +kernel
theorem dX9_hasKin_8 : decode cX9_hasKin 8 = .ok (.aload_n 0, 1) := by decide +kernel
theorem dX9_hasKin_9 : decode cX9_hasKin 9 = .ok (.getfield 22, 3) := by decide +kernel
theorem dX9_hasKin_12 : decode cX9_hasKin 12 = .ok (.iload_n 2, 1) := by decide +kernel
theorem dX9_hasKin_13 : decode cX9_hasKin 13 = .ok (.iaload, 1) := by decide +kernel
theorem dX9_hasKin_14 : decode cX9_hasKin 14 = .ok (.if_icmp .ge 77, 3) := by decide +kernel
theorem dX9_hasKin_17 : decode cX9_hasKin 17 = .ok (.aload_n 0, 1) := by decide +kernel
theorem dX9_hasKin_18 : decode cX9_hasKin 18 = .ok (.iload_n 2, 1) := by decide +kernel
theorem dX9_hasKin_19 : decode cX9_hasKin 19 = .ok (.iload_n 3, 1) := by decide +kernel
theorem dX9_hasKin_20 : decode cX9_hasKin 20 = .ok (.iload 5, 2) := by decide +kernel
theorem dX9_hasKin_22 : decode cX9_hasKin 22 = .ok (.invokevirtual 165, 3) := by decide +kernel
theorem dX9_hasKin_25 : decode cX9_hasKin 25 = .ok (.istore 6, 2) := by decide +kernel
theorem dX9_hasKin_27 : decode cX9_hasKin 27 = .ok (.iload 4, 2) := by decide +kernel
theorem dX9_hasKin_29 : decode cX9_hasKin 29 = .ok (.ifCond .ne 49, 3) := by decide +kernel
theorem dX9_hasKin_32 : decode cX9_hasKin 32 = .ok (.aload_n 0, 1) := by decide +kernel
theorem dX9_hasKin_33 : decode cX9_hasKin 33 = .ok (.getfield 66, 3) := by decide +kernel
theorem dX9_hasKin_36 : decode cX9_hasKin 36 = .ok (.iload 6, 2) := by decide +kernel
theorem dX9_hasKin_38 : decode cX9_hasKin 38 = .ok (.iaload, 1) := by decide +kernel
theorem dX9_hasKin_39 : decode cX9_hasKin 39 = .ok (.ifCond .lt 43, 3) := by decide +kernel
theorem dX9_hasKin_42 : decode cX9_hasKin 42 = .ok (.aload_n 0, 1) := by decide +kernel
theorem dX9_hasKin_43 : decode cX9_hasKin 43 = .ok (.getfield 66, 3) := by decide +kernel
theorem dX9_hasKin_46 : decode cX9_hasKin 46 = .ok (.iload 6, 2) := by decide +kernel
theorem dX9_hasKin_48 : decode cX9_hasKin 48 = .ok (.iaload, 1) := by decide +kernel
theorem dX9_hasKin_49 : decode cX9_hasKin 49 = .ok (.iload_n 1, 1) := by decide +kernel
theorem dX9_hasKin_50 : decode cX9_hasKin 50 = .ok (.if_icmp .eq 32, 3) := by decide +kernel
theorem dX9_hasKin_53 : decode cX9_hasKin 53 = .ok (.aload_n 0, 1) := by decide +kernel
theorem dX9_hasKin_54 : decode cX9_hasKin 54 = .ok (.getfield 69, 3) := by decide +kernel
theorem dX9_hasKin_57 : decode cX9_hasKin 57 = .ok (.iload 6, 2) := by decide +kernel
theorem dX9_hasKin_59 : decode cX9_hasKin 59 = .ok (.baload, 1) := by decide +kernel
theorem dX9_hasKin_60 : decode cX9_hasKin 60 = .ok (.ifCond .ne 22, 3) := by decide +kernel
theorem dX9_hasKin_63 : decode cX9_hasKin 63 = .ok (.aload_n 0, 1) := by decide +kernel
theorem dX9_hasKin_64 : decode cX9_hasKin 64 = .ok (.iload_n 1, 1) := by decide +kernel
theorem dX9_hasKin_65 : decode cX9_hasKin 65 = .ok (.aload_n 0, 1) := by decide +kernel
theorem dX9_hasKin_66 : decode cX9_hasKin 66 = .ok (.getfield 66, 3) := by decide +kernel
theorem dX9_hasKin_69 : decode cX9_hasKin 69 = .ok (.iload 6, 2) := by decide +kernel
theorem dX9_hasKin_71 : decode cX9_hasKin 71 = .ok (.iaload, 1) := by decide +kernel
theorem dX9_hasKin_72 : decode cX9_hasKin 72 = .ok (.invokevirtual 187, 3) := by decide +kernel
theorem dX9_hasKin_75 : decode cX9_hasKin 75 = .ok (.ifCond .eq 7, 3) := by decide +kernel
theorem dX9_hasKin_78 : decode cX9_hasKin 78 = .ok (.iconst 1, 1) := by decide +kernel
theorem dX9_hasKin_79 : decode cX9_hasKin 79 = .ok (.goto 4, 3) := by decide +kernel
theorem dX9_hasKin_82 : decode cX9_hasKin 82 = .ok (.iconst 0, 1) := by decide +kernel
theorem dX9_hasKin_83 : decode cX9_hasKin 83 = .ok (.istore 4, 2) := by decide +kernel
theorem dX9_hasKin_85 : decode cX9_hasKin 85 = .ok (.iinc 5 1, 3) := by decide +kernel
theorem dX9_hasKin_88 : decode cX9_hasKin 88 = .ok (.goto (-82), 3) := by decide +kernel
theorem dX9_hasKin_91 : decode cX9_hasKin 91 = .ok (.iload 4, 2) := by decide +kernel
theorem dX9_hasKin_93 : decode cX9_hasKin 93 = .ok (.ireturn, 1) := by decide +kernel
theorem dX9_isInForce_0 : decode cX9_isInForce 0 = .ok (.aload_n 0, 1) := by decide +kernel
theorem dX9_isInForce_1 : decode cX9_isInForce 1 = .ok (.getfield 26, 3) := by decide +kernel
theorem dX9_isInForce_4 : decode cX9_isInForce 4 = .ok (.iload_n 2, 1) := by decide +kernel
theorem dX9_isInForce_5 : decode cX9_isInForce 5 = .ok (.baload, 1) := by decide +kernel
theorem dX9_isInForce_6 : decode cX9_isInForce 6 = .ok (.ifCond .ne 46, 3) := by decide +kernel
theorem dX9_isInForce_9 : decode cX9_isInForce 9 = .ok (.aload_n 0, 1) := by decide +kernel
theorem dX9_isInForce_10 : decode cX9_isInForce 10 = .ok (.getfield 54, 3) := by decide +kernel
theorem dX9_isInForce_13 : decode cX9_isInForce 13 = .ok (.iload_n 1, 1) := by decide +kernel
theorem dX9_isInForce_14 : decode cX9_isInForce 14 = .ok (.iaload, 1) := by decide +kernel
theorem dX9_isInForce_15 : decode cX9_isInForce 15 = .ok (.ifCond .lt 13, 3) := by decide +kernel
theorem dX9_isInForce_18 : decode cX9_isInForce 18 = .ok (.aload_n 0, 1) := by decide +kernel
theorem dX9_isInForce_19 : decode cX9_isInForce 19 = .ok (.getfield 54, 3) := by decide +kernel
theorem dX9_isInForce_22 : decode cX9_isInForce 22 = .ok (.iload_n 1, 1) := by decide +kernel
theorem dX9_isInForce_23 : decode cX9_isInForce 23 = .ok (.iaload, 1) := by decide +kernel
theorem dX9_isInForce_24 : decode cX9_isInForce 24 = .ok (.iload_n 2, 1) := by decide +kernel
theorem dX9_isInForce_25 : decode cX9_isInForce 25 = .ok (.if_icmp .ne 27, 3) := by decide +kernel
theorem dX9_isInForce_28 : decode cX9_isInForce 28 = .ok (.aload_n 0, 1) := by decide +kernel
theorem dX9_isInForce_29 : decode cX9_isInForce 29 = .ok (.getfield 60, 3) := by decide +kernel
theorem dX9_isInForce_32 : decode cX9_isInForce 32 = .ok (.iload_n 1, 1) := by decide +kernel
theorem dX9_isInForce_33 : decode cX9_isInForce 33 = .ok (.iaload, 1) := by decide +kernel
theorem dX9_isInForce_34 : decode cX9_isInForce 34 = .ok (.iload_n 3, 1) := by decide +kernel
theorem dX9_isInForce_35 : decode cX9_isInForce 35 = .ok (.if_icmp .gt 17, 3) := by decide +kernel
theorem dX9_isInForce_38 : decode cX9_isInForce 38 = .ok (.iload_n 3, 1) := by decide +kernel
theorem dX9_isInForce_39 : decode cX9_isInForce 39 = .ok (.aload_n 0, 1) := by decide +kernel
theorem dX9_isInForce_40 : decode cX9_isInForce 40 = .ok (.getfield 63, 3) := by decide +kernel
theorem dX9_isInForce_43 : decode cX9_isInForce 43 = .ok (.iload_n 1, 1) := by decide +kernel
theorem dX9_isInForce_44 : decode cX9_isInForce 44 = .ok (.iaload, 1) := by decide +kernel
theorem dX9_isInForce_45 : decode cX9_isInForce 45 = .ok (.if_icmp .ge 7, 3) := by decide +kernel
theorem dX9_isInForce_48 : decode cX9_isInForce 48 = .ok (.iconst 1, 1) := by decide +kernel
theorem dX9_isInForce_49 : decode cX9_isInForce 49 = .ok (.goto 4, 3) := by decide +kernel
theorem dX9_isInForce_52 : decode cX9_isInForce 52 = .ok (.iconst 0, 1) := by decide +kernel
theorem dX9_isInForce_53 : decode cX9_isInForce 53 = .ok (.ireturn, 1) := by decide +kernel
theorem dX9_heldWithin_0 : decode cX9_heldWithin 0 = .ok (.iconst 0, 1) := by decide +kernel
theorem dX9_heldWithin_1 : decode cX9_heldWithin 1 = .ok (.istore 5, 2) := by decide +kernel
theorem dX9_heldWithin_3 : decode cX9_heldWithin 3 = .ok (.iconst 1, 1) := by decide +kernel
theorem dX9_heldWithin_4 : decode cX9_heldWithin 4 = .ok (.istore 6, 2) := by decide +kernel
theorem dX9_heldWithin_6 : decode cX9_heldWithin 6 = .ok (.iload 6, 2) := by decide +kernel
theorem dX9_heldWithin_8 : decode cX9_heldWithin 8 = .ok (.iload 4, 2) := by decide +kernel
theorem dX9_heldWithin_10 : decode cX9_heldWithin 10 = .ok (.if_icmp .gt 26, 3) := by decide +kernel
theorem dX9_heldWithin_13 : decode cX9_heldWithin 13 = .ok (.iload 5, 2) := by decide +kernel
theorem dX9_heldWithin_15 : decode cX9_heldWithin 15 = .ok (.ifCond .ne 21, 3) := by decide +kernel
theorem dX9_heldWithin_18 : decode cX9_heldWithin 18 = .ok (.aload_n 0, 1) := by decide +kernel
theorem dX9_heldWithin_19 : decode cX9_heldWithin 19 = .ok (.iload_n 1, 1) := by decide +kernel
theorem dX9_heldWithin_20 : decode cX9_heldWithin 20 = .ok (.iload_n 2, 1) := by decide +kernel
theorem dX9_heldWithin_21 : decode cX9_heldWithin 21 = .ok (.iload_n 3, 1) := by decide +kernel
theorem dX9_heldWithin_22 : decode cX9_heldWithin 22 = .ok (.iload 6, 2) := by decide +kernel
theorem dX9_heldWithin_24 : decode cX9_heldWithin 24 = .ok (.isub, 1) := by decide +kernel
theorem dX9_heldWithin_25 : decode cX9_heldWithin 25 = .ok (.invokevirtual 184, 3) := by decide +kernel
theorem dX9_heldWithin_28 : decode cX9_heldWithin 28 = .ok (.istore 5, 2) := by decide +kernel
theorem dX9_heldWithin_30 : decode cX9_heldWithin 30 = .ok (.iinc 6 1, 3) := by decide +kernel
theorem dX9_heldWithin_33 : decode cX9_heldWithin 33 = .ok (.goto (-27), 3) := by decide +kernel
theorem dX9_heldWithin_36 : decode cX9_heldWithin 36 = .ok (.iload 5, 2) := by decide +kernel
theorem dX9_heldWithin_38 : decode cX9_heldWithin 38 = .ok (.ireturn, 1) := by decide +kernel
theorem dX9_bars_0 : decode cX9_bars 0 = .ok (.aload_n 0, 1) := by decide +kernel
theorem dX9_bars_1 : decode cX9_bars 1 = .ok (.getfield 51, 3) := by decide +kernel
theorem dX9_bars_4 : decode cX9_bars 4 = .ok (.iload_n 1, 1) := by decide +kernel
theorem dX9_bars_5 : decode cX9_bars 5 = .ok (.iaload, 1) := by decide +kernel
theorem dX9_bars_6 : decode cX9_bars 6 = .ok (.tableswitch 133 0 4 #[34, 58, 82, 97, 112], 34) := by decide +kernel
theorem dX9_bars_40 : decode cX9_bars 40 = .ok (.iload 4, 2) := by decide +kernel
theorem dX9_bars_42 : decode cX9_bars 42 = .ok (.aload_n 0, 1) := by decide +kernel
theorem dX9_bars_43 : decode cX9_bars 43 = .ok (.getfield 33, 3) := by decide +kernel
theorem dX9_bars_46 : decode cX9_bars 46 = .ok (.iload_n 2, 1) := by decide +kernel
theorem dX9_bars_47 : decode cX9_bars 47 = .ok (.iaload, 1) := by decide +kernel
theorem dX9_bars_48 : decode cX9_bars 48 = .ok (.isub, 1) := by decide +kernel
theorem dX9_bars_49 : decode cX9_bars 49 = .ok (.aload_n 0, 1) := by decide +kernel
theorem dX9_bars_50 : decode cX9_bars 50 = .ok (.getfield 57, 3) := by decide +kernel
theorem dX9_bars_53 : decode cX9_bars 53 = .ok (.iload_n 1, 1) := by decide +kernel
theorem dX9_bars_54 : decode cX9_bars 54 = .ok (.iaload, 1) := by decide +kernel
theorem dX9_bars_55 : decode cX9_bars 55 = .ok (.if_icmp .ge 7, 3) := by decide +kernel
theorem dX9_bars_58 : decode cX9_bars 58 = .ok (.iconst 1, 1) := by decide +kernel
theorem dX9_bars_59 : decode cX9_bars 59 = .ok (.goto 4, 3) := by decide +kernel
theorem dX9_bars_62 : decode cX9_bars 62 = .ok (.iconst 0, 1) := by decide +kernel
theorem dX9_bars_63 : decode cX9_bars 63 = .ok (.ireturn, 1) := by decide +kernel
theorem dX9_bars_64 : decode cX9_bars 64 = .ok (.aload_n 0, 1) := by decide +kernel
theorem dX9_bars_65 : decode cX9_bars 65 = .ok (.iload_n 2, 1) := by decide +kernel
theorem dX9_bars_66 : decode cX9_bars 66 = .ok (.aload_n 0, 1) := by decide +kernel
theorem dX9_bars_67 : decode cX9_bars 67 = .ok (.getfield 57, 3) := by decide +kernel
theorem dX9_bars_70 : decode cX9_bars 70 = .ok (.iload_n 1, 1) := by decide +kernel
theorem dX9_bars_71 : decode cX9_bars 71 = .ok (.iaload, 1) := by decide +kernel
theorem dX9_bars_72 : decode cX9_bars 72 = .ok (.iload 4, 2) := by decide +kernel
theorem dX9_bars_74 : decode cX9_bars 74 = .ok (.iload 4, 2) := by decide +kernel
theorem dX9_bars_76 : decode cX9_bars 76 = .ok (.invokevirtual 190, 3) := by decide +kernel
theorem dX9_bars_79 : decode cX9_bars 79 = .ok (.ifCond .ne 7, 3) := by decide +kernel
theorem dX9_bars_82 : decode cX9_bars 82 = .ok (.iconst 1, 1) := by decide +kernel
theorem dX9_bars_83 : decode cX9_bars 83 = .ok (.goto 4, 3) := by decide +kernel
theorem dX9_bars_86 : decode cX9_bars 86 = .ok (.iconst 0, 1) := by decide +kernel
theorem dX9_bars_87 : decode cX9_bars 87 = .ok (.ireturn, 1) := by decide +kernel
theorem dX9_bars_88 : decode cX9_bars 88 = .ok (.aload_n 0, 1) := by decide +kernel
theorem dX9_bars_89 : decode cX9_bars 89 = .ok (.iload_n 2, 1) := by decide +kernel
theorem dX9_bars_90 : decode cX9_bars 90 = .ok (.iconst (-1), 1) := by decide +kernel
theorem dX9_bars_91 : decode cX9_bars 91 = .ok (.iload 4, 2) := by decide +kernel
theorem dX9_bars_93 : decode cX9_bars 93 = .ok (.aload_n 0, 1) := by decide +kernel
theorem dX9_bars_94 : decode cX9_bars 94 = .ok (.getfield 57, 3) := by decide +kernel
theorem dX9_bars_97 : decode cX9_bars 97 = .ok (.iload_n 1, 1) := by decide +kernel
theorem dX9_bars_98 : decode cX9_bars 98 = .ok (.iaload, 1) := by decide +kernel
theorem dX9_bars_99 : decode cX9_bars 99 = .ok (.invokevirtual 190, 3) := by decide +kernel
theorem dX9_bars_102 : decode cX9_bars 102 = .ok (.ireturn, 1) := by decide +kernel
theorem dX9_bars_103 : decode cX9_bars 103 = .ok (.aload_n 0, 1) := by decide +kernel
theorem dX9_bars_104 : decode cX9_bars 104 = .ok (.iload_n 2, 1) := by decide +kernel
theorem dX9_bars_105 : decode cX9_bars 105 = .ok (.iload_n 3, 1) := by decide +kernel
theorem dX9_bars_106 : decode cX9_bars 106 = .ok (.iload 4, 2) := by decide +kernel
theorem dX9_bars_108 : decode cX9_bars 108 = .ok (.aload_n 0, 1) := by decide +kernel
theorem dX9_bars_109 : decode cX9_bars 109 = .ok (.getfield 57, 3) := by decide +kernel
theorem dX9_bars_112 : decode cX9_bars 112 = .ok (.iload_n 1, 1) := by decide +kernel
theorem dX9_bars_113 : decode cX9_bars 113 = .ok (.iaload, 1) := by decide +kernel
theorem dX9_bars_114 : decode cX9_bars 114 = .ok (.invokevirtual 190, 3) := by decide +kernel
theorem dX9_bars_117 : decode cX9_bars 117 = .ok (.ireturn, 1) := by decide +kernel
theorem dX9_bars_118 : decode cX9_bars 118 = .ok (.aload_n 0, 1) := by decide +kernel
theorem dX9_bars_119 : decode cX9_bars 119 = .ok (.getfield 30, 3) := by decide +kernel
theorem dX9_bars_122 : decode cX9_bars 122 = .ok (.iload_n 2, 1) := by decide +kernel
theorem dX9_bars_123 : decode cX9_bars 123 = .ok (.iaload, 1) := by decide +kernel
theorem dX9_bars_124 : decode cX9_bars 124 = .ok (.aload_n 0, 1) := by decide +kernel
theorem dX9_bars_125 : decode cX9_bars 125 = .ok (.getfield 57, 3) := by decide +kernel
theorem dX9_bars_128 : decode cX9_bars 128 = .ok (.iload_n 1, 1) := by decide +kernel
theorem dX9_bars_129 : decode cX9_bars 129 = .ok (.iaload, 1) := by decide +kernel
theorem dX9_bars_130 : decode cX9_bars 130 = .ok (.if_icmp .ne 7, 3) := by decide +kernel
theorem dX9_bars_133 : decode cX9_bars 133 = .ok (.iconst 1, 1) := by decide +kernel
theorem dX9_bars_134 : decode cX9_bars 134 = .ok (.goto 4, 3) := by decide +kernel
theorem dX9_bars_137 : decode cX9_bars 137 = .ok (.iconst 0, 1) := by decide +kernel
theorem dX9_bars_138 : decode cX9_bars 138 = .ok (.ireturn, 1) := by decide +kernel
theorem dX9_bars_139 : decode cX9_bars 139 = .ok (.aload_n 0, 1) := by decide +kernel
theorem dX9_bars_140 : decode cX9_bars 140 = .ok (.iload_n 2, 1) := by decide +kernel
theorem dX9_bars_141 : decode cX9_bars 141 = .ok (.iload_n 3, 1) := by decide +kernel
theorem dX9_bars_142 : decode cX9_bars 142 = .ok (.iload 4, 2) := by decide +kernel
theorem dX9_bars_144 : decode cX9_bars 144 = .ok (.invokevirtual 194, 3) := by decide +kernel
theorem dX9_bars_147 : decode cX9_bars 147 = .ok (.ireturn, 1) := by decide +kernel
theorem dX9_barOf_0 : decode cX9_barOf 0 = .ok (.iload_n 3, 1) := by decide +kernel
theorem dX9_barOf_1 : decode cX9_barOf 1 = .ok (.aload_n 0, 1) := by decide +kernel
theorem dX9_barOf_2 : decode cX9_barOf 2 = .ok (.getfield 42, 3) := by decide +kernel
theorem dX9_barOf_5 : decode cX9_barOf 5 = .ok (.iload_n 1, 1) := by decide +kernel
theorem dX9_barOf_6 : decode cX9_barOf 6 = .ok (.iaload, 1) := by decide +kernel
theorem dX9_barOf_7 : decode cX9_barOf 7 = .ok (.if_icmp .lt 6, 3) := by decide +kernel
theorem dX9_barOf_10 : decode cX9_barOf 10 = .ok (.bipush (-4), 2) := by decide +kernel
theorem dX9_barOf_12 : decode cX9_barOf 12 = .ok (.ireturn, 1) := by decide +kernel
theorem dX9_barOf_13 : decode cX9_barOf 13 = .ok (.iload_n 3, 1) := by decide +kernel
theorem dX9_barOf_14 : decode cX9_barOf 14 = .ok (.aload_n 0, 1) := by decide +kernel
theorem dX9_barOf_15 : decode cX9_barOf 15 = .ok (.getfield 33, 3) := by decide +kernel
theorem dX9_barOf_18 : decode cX9_barOf 18 = .ok (.iload_n 1, 1) := by decide +kernel
theorem dX9_barOf_19 : decode cX9_barOf 19 = .ok (.iaload, 1) := by decide +kernel
theorem dX9_barOf_20 : decode cX9_barOf 20 = .ok (.if_icmp .ge 6, 3) := by decide +kernel
theorem dX9_barOf_23 : decode cX9_barOf 23 = .ok (.bipush (-5), 2) := by decide +kernel
theorem dX9_barOf_25 : decode cX9_barOf 25 = .ok (.ireturn, 1) := by decide +kernel
theorem dX9_barOf_26 : decode cX9_barOf 26 = .ok (.iload_n 3, 1) := by decide +kernel
theorem dX9_barOf_27 : decode cX9_barOf 27 = .ok (.aload_n 0, 1) := by decide +kernel
theorem dX9_barOf_28 : decode cX9_barOf 28 = .ok (.getfield 45, 3) := by decide +kernel
theorem dX9_barOf_31 : decode cX9_barOf 31 = .ok (.iload_n 1, 1) := by decide +kernel
theorem dX9_barOf_32 : decode cX9_barOf 32 = .ok (.iaload, 1) := by decide +kernel
theorem dX9_barOf_33 : decode cX9_barOf 33 = .ok (.if_icmp .lt 16, 3) := by decide +kernel
theorem dX9_barOf_36 : decode cX9_barOf 36 = .ok (.iload_n 3, 1) := by decide +kernel
theorem dX9_barOf_37 : decode cX9_barOf 37 = .ok (.aload_n 0, 1) := by decide +kernel
theorem dX9_barOf_38 : decode cX9_barOf 38 = .ok (.getfield 48, 3) := by decide +kernel
theorem dX9_barOf_41 : decode cX9_barOf 41 = .ok (.iload_n 1, 1) := by decide +kernel
theorem dX9_barOf_42 : decode cX9_barOf 42 = .ok (.iaload, 1) := by decide +kernel
theorem dX9_barOf_43 : decode cX9_barOf 43 = .ok (.if_icmp .gt 6, 3) := by decide +kernel
theorem dX9_barOf_46 : decode cX9_barOf 46 = .ok (.bipush (-6), 2) := by decide +kernel
theorem dX9_barOf_48 : decode cX9_barOf 48 = .ok (.ireturn, 1) := by decide +kernel
theorem dX9_barOf_49 : decode cX9_barOf 49 = .ok (.aload_n 0, 1) := by decide +kernel
theorem dX9_barOf_50 : decode cX9_barOf 50 = .ok (.getfield 72, 3) := by decide +kernel
theorem dX9_barOf_53 : decode cX9_barOf 53 = .ok (.sipush 200, 3) := by decide +kernel
theorem dX9_barOf_56 : decode cX9_barOf 56 = .ok (.iload_n 1, 1) := by decide +kernel
theorem dX9_barOf_57 : decode cX9_barOf 57 = .ok (.imul, 1) := by decide +kernel
theorem dX9_barOf_58 : decode cX9_barOf 58 = .ok (.iload_n 3, 1) := by decide +kernel
theorem dX9_barOf_59 : decode cX9_barOf 59 = .ok (.iadd, 1) := by decide +kernel
theorem dX9_barOf_60 : decode cX9_barOf 60 = .ok (.iaload, 1) := by decide +kernel
theorem dX9_barOf_61 : decode cX9_barOf 61 = .ok (.ifCond .lt 6, 3) := by decide +kernel
theorem dX9_barOf_64 : decode cX9_barOf 64 = .ok (.bipush (-7), 2) := by decide +kernel
theorem dX9_barOf_66 : decode cX9_barOf 66 = .ok (.ireturn, 1) := by decide +kernel
theorem dX9_barOf_67 : decode cX9_barOf 67 = .ok (.iconst 0, 1) := by decide +kernel
theorem dX9_barOf_68 : decode cX9_barOf 68 = .ok (.istore 4, 2) := by decide +kernel
theorem dX9_barOf_70 : decode cX9_barOf 70 = .ok (.iload 4, 2) := by decide +kernel
theorem dX9_barOf_72 : decode cX9_barOf 72 = .ok (.aload_n 0, 1) := by decide +kernel
theorem dX9_barOf_73 : decode cX9_barOf 73 = .ok (.getfield 19, 3) := by decide +kernel
theorem dX9_barOf_76 : decode cX9_barOf 76 = .ok (.if_icmp .ge 35, 3) := by decide +kernel
theorem dX9_barOf_79 : decode cX9_barOf 79 = .ok (.aload_n 0, 1) := by decide +kernel
theorem dX9_barOf_80 : decode cX9_barOf 80 = .ok (.iload 4, 2) := by decide +kernel
theorem dX9_barOf_82 : decode cX9_barOf 82 = .ok (.iload_n 2, 1) := by decide +kernel
theorem dX9_barOf_83 : decode cX9_barOf 83 = .ok (.iload_n 3, 1) := by decide +kernel
theorem dX9_barOf_84 : decode cX9_barOf 84 = .ok (.invokevirtual 197, 3) := by decide +kernel
theorem dX9_barOf_87 : decode cX9_barOf 87 = .ok (.ifCond .eq 18, 3) := by decide +kernel
theorem dX9_barOf_90 : decode cX9_barOf 90 = .ok (.aload_n 0, 1) := by decide +kernel
theorem dX9_barOf_91 : decode cX9_barOf 91 = .ok (.iload 4, 2) := by decide +kernel
theorem dX9_barOf_93 : decode cX9_barOf 93 = .ok (.iload_n 1, 1) := by decide +kernel
theorem dX9_barOf_94 : decode cX9_barOf 94 = .ok (.iload_n 2, 1) := by decide +kernel
theorem dX9_barOf_95 : decode cX9_barOf 95 = .ok (.iload_n 3, 1) := by decide +kernel
theorem dX9_barOf_96 : decode cX9_barOf 96 = .ok (.invokevirtual 200, 3) := by decide +kernel
theorem dX9_barOf_99 : decode cX9_barOf 99 = .ok (.ifCond .eq 6, 3) := by decide +kernel
theorem dX9_barOf_102 : decode cX9_barOf 102 = .ok (.iload 4, 2) := by decide +kernel
theorem dX9_barOf_104 : decode cX9_barOf 104 = .ok (.ireturn, 1) := by decide +kernel
theorem dX9_barOf_105 : decode cX9_barOf 105 = .ok (.iinc 4 1, 3) := by decide +kernel
theorem dX9_barOf_108 : decode cX9_barOf 108 = .ok (.goto (-38), 3) := by decide +kernel
theorem dX9_barOf_111 : decode cX9_barOf 111 = .ok (.bipush (-2), 2) := by decide +kernel
theorem dX9_barOf_113 : decode cX9_barOf 113 = .ok (.ireturn, 1) := by decide +kernel
theorem dX9_couldBe_0 : decode cX9_couldBe 0 = .ok (.aload_n 0, 1) := by decide +kernel
theorem dX9_couldBe_1 : decode cX9_couldBe 1 = .ok (.iload_n 1, 1) := by decide +kernel
theorem dX9_couldBe_2 : decode cX9_couldBe 2 = .ok (.iload_n 2, 1) := by decide +kernel
theorem dX9_couldBe_3 : decode cX9_couldBe 3 = .ok (.iload_n 3, 1) := by decide +kernel
theorem dX9_couldBe_4 : decode cX9_couldBe 4 = .ok (.invokevirtual 203, 3) := by decide +kernel
theorem dX9_couldBe_7 : decode cX9_couldBe 7 = .ok (.bipush (-2), 2) := by decide +kernel
theorem dX9_couldBe_9 : decode cX9_couldBe 9 = .ok (.if_icmp .eq 5, 3) := by decide +kernel
theorem dX9_couldBe_12 : decode cX9_couldBe 12 = .ok (.iconst 0, 1) := by decide +kernel
theorem dX9_couldBe_13 : decode cX9_couldBe 13 = .ok (.ireturn, 1) := by decide +kernel
theorem dX9_couldBe_14 : decode cX9_couldBe 14 = .ok (.iconst 2, 1) := by decide +kernel
theorem dX9_couldBe_15 : decode cX9_couldBe 15 = .ok (.istore 4, 2) := by decide +kernel
theorem dX9_couldBe_17 : decode cX9_couldBe 17 = .ok (.iconst 0, 1) := by decide +kernel
theorem dX9_couldBe_18 : decode cX9_couldBe 18 = .ok (.istore 5, 2) := by decide +kernel
theorem dX9_couldBe_20 : decode cX9_couldBe 20 = .ok (.iload 5, 2) := by decide +kernel
theorem dX9_couldBe_22 : decode cX9_couldBe 22 = .ok (.aload_n 0, 1) := by decide +kernel
theorem dX9_couldBe_23 : decode cX9_couldBe 23 = .ok (.getfield 19, 3) := by decide +kernel
theorem dX9_couldBe_26 : decode cX9_couldBe 26 = .ok (.if_icmp .ge 51, 3) := by decide +kernel
theorem dX9_couldBe_29 : decode cX9_couldBe 29 = .ok (.aload_n 0, 1) := by decide +kernel
theorem dX9_couldBe_30 : decode cX9_couldBe 30 = .ok (.iload 5, 2) := by decide +kernel
theorem dX9_couldBe_32 : decode cX9_couldBe 32 = .ok (.iload_n 2, 1) := by decide +kernel
theorem dX9_couldBe_33 : decode cX9_couldBe 33 = .ok (.iload_n 3, 1) := by decide +kernel
theorem dX9_couldBe_34 : decode cX9_couldBe 34 = .ok (.invokevirtual 197, 3) := by decide +kernel
theorem dX9_couldBe_37 : decode cX9_couldBe 37 = .ok (.ifCond .eq 34, 3) := by decide +kernel
theorem dX9_couldBe_40 : decode cX9_couldBe 40 = .ok (.aload_n 0, 1) := by decide +kernel
theorem dX9_couldBe_41 : decode cX9_couldBe 41 = .ok (.getfield 51, 3) := by decide +kernel
theorem dX9_couldBe_44 : decode cX9_couldBe 44 = .ok (.iload 5, 2) := by decide +kernel
theorem dX9_couldBe_46 : decode cX9_couldBe 46 = .ok (.iaload, 1) := by decide +kernel
theorem dX9_couldBe_47 : decode cX9_couldBe 47 = .ok (.ifCond .ne 24, 3) := by decide +kernel
theorem dX9_couldBe_50 : decode cX9_couldBe 50 = .ok (.iload_n 3, 1) := by decide +kernel
theorem dX9_couldBe_51 : decode cX9_couldBe 51 = .ok (.aload_n 0, 1) := by decide +kernel
theorem dX9_couldBe_52 : decode cX9_couldBe 52 = .ok (.getfield 36, 3) := by decide +kernel
theorem dX9_couldBe_55 : decode cX9_couldBe 55 = .ok (.iload_n 1, 1) := by decide +kernel
theorem dX9_couldBe_56 : decode cX9_couldBe 56 = .ok (.iaload, 1) := by decide +kernel
theorem dX9_couldBe_57 : decode cX9_couldBe 57 = .ok (.isub, 1) := by decide +kernel
theorem dX9_couldBe_58 : decode cX9_couldBe 58 = .ok (.aload_n 0, 1) := by decide +kernel
theorem dX9_couldBe_59 : decode cX9_couldBe 59 = .ok (.getfield 57, 3) := by decide +kernel
theorem dX9_couldBe_62 : decode cX9_couldBe 62 = .ok (.iload 5, 2) := by decide +kernel
theorem dX9_couldBe_64 : decode cX9_couldBe 64 = .ok (.iaload, 1) := by decide +kernel
theorem dX9_couldBe_65 : decode cX9_couldBe 65 = .ok (.if_icmp .ge 6, 3) := by decide +kernel
theorem dX9_couldBe_68 : decode cX9_couldBe 68 = .ok (.iconst 1, 1) := by decide +kernel
theorem dX9_couldBe_69 : decode cX9_couldBe 69 = .ok (.istore 4, 2) := by decide +kernel
theorem dX9_couldBe_71 : decode cX9_couldBe 71 = .ok (.iinc 5 1, 3) := by decide +kernel
theorem dX9_couldBe_74 : decode cX9_couldBe 74 = .ok (.goto (-54), 3) := by decide +kernel
theorem dX9_couldBe_77 : decode cX9_couldBe 77 = .ok (.iload 4, 2) := by decide +kernel
theorem dX9_couldBe_79 : decode cX9_couldBe 79 = .ok (.ireturn, 1) := by decide +kernel
theorem dX9_could_0 : decode cX9_could 0 = .ok (.aload_n 0, 1) := by decide +kernel
theorem dX9_could_1 : decode cX9_could 1 = .ok (.iload_n 1, 1) := by decide +kernel
theorem dX9_could_2 : decode cX9_could 2 = .ok (.invokevirtual 155, 3) := by decide +kernel
theorem dX9_could_5 : decode cX9_could 5 = .ok (.ifCond .eq 30, 3) := by decide +kernel
theorem dX9_could_8 : decode cX9_could 8 = .ok (.aload_n 0, 1) := by decide +kernel
theorem dX9_could_9 : decode cX9_could 9 = .ok (.iload_n 2, 1) := by decide +kernel
theorem dX9_could_10 : decode cX9_could 10 = .ok (.invokevirtual 162, 3) := by decide +kernel
theorem dX9_could_13 : decode cX9_could 13 = .ok (.ifCond .eq 22, 3) := by decide +kernel
theorem dX9_could_16 : decode cX9_could 16 = .ok (.aload_n 0, 1) := by decide +kernel
theorem dX9_could_17 : decode cX9_could 17 = .ok (.iload_n 3, 1) := by decide +kernel
theorem dX9_could_18 : decode cX9_could 18 = .ok (.invokevirtual 159, 3) := by decide +kernel
theorem dX9_could_21 : decode cX9_could 21 = .ok (.ifCond .eq 14, 3) := by decide +kernel
theorem dX9_could_24 : decode cX9_could 24 = .ok (.aload_n 0, 1) := by decide +kernel
theorem dX9_could_25 : decode cX9_could 25 = .ok (.iload 4, 2) := by decide +kernel
theorem dX9_could_27 : decode cX9_could 27 = .ok (.iconst 0, 1) := by decide +kernel
theorem dX9_could_28 : decode cX9_could 28 = .ok (.iconst 1, 1) := by decide +kernel
theorem dX9_could_29 : decode cX9_could 29 = .ok (.invokevirtual 147, 3) := by decide +kernel
theorem dX9_could_32 : decode cX9_could 32 = .ok (.ifCond .ne 5, 3) := by decide +kernel
theorem dX9_could_35 : decode cX9_could 35 = .ok (.iconst (-1), 1) := by decide +kernel
theorem dX9_could_36 : decode cX9_could 36 = .ok (.ireturn, 1) := by decide +kernel
theorem dX9_could_37 : decode cX9_could 37 = .ok (.iload 4, 2) := by decide +kernel
theorem dX9_could_39 : decode cX9_could 39 = .ok (.ifCond .ne 13, 3) := by decide +kernel
theorem dX9_could_42 : decode cX9_could 42 = .ok (.aload_n 0, 1) := by decide +kernel
theorem dX9_could_43 : decode cX9_could 43 = .ok (.iload_n 1, 1) := by decide +kernel
theorem dX9_could_44 : decode cX9_could 44 = .ok (.iload_n 2, 1) := by decide +kernel
theorem dX9_could_45 : decode cX9_could 45 = .ok (.iload_n 3, 1) := by decide +kernel
theorem dX9_could_46 : decode cX9_could 46 = .ok (.invokevirtual 206, 3) := by decide +kernel
theorem dX9_could_49 : decode cX9_could 49 = .ok (.goto 10, 3) := by decide +kernel
theorem dX9_could_52 : decode cX9_could 52 = .ok (.aload_n 0, 1) := by decide +kernel
theorem dX9_could_53 : decode cX9_could 53 = .ok (.iload_n 1, 1) := by decide +kernel
theorem dX9_could_54 : decode cX9_could 54 = .ok (.iload_n 2, 1) := by decide +kernel
theorem dX9_could_55 : decode cX9_could 55 = .ok (.iload_n 3, 1) := by decide +kernel
theorem dX9_could_56 : decode cX9_could 56 = .ok (.invokevirtual 203, 3) := by decide +kernel
theorem dX9_could_59 : decode cX9_could 59 = .ok (.ireturn, 1) := by decide +kernel
theorem dX9_first_0 : decode cX9_first 0 = .ok (.aload_n 0, 1) := by decide +kernel
theorem dX9_first_1 : decode cX9_first 1 = .ok (.iload_n 1, 1) := by decide +kernel
theorem dX9_first_2 : decode cX9_first 2 = .ok (.invokevirtual 155, 3) := by decide +kernel
theorem dX9_first_5 : decode cX9_first 5 = .ok (.ifCond .eq 19, 3) := by decide +kernel
theorem dX9_first_8 : decode cX9_first 8 = .ok (.aload_n 0, 1) := by decide +kernel
theorem dX9_first_9 : decode cX9_first 9 = .ok (.iload_n 2, 1) := by decide +kernel
theorem dX9_first_10 : decode cX9_first 10 = .ok (.invokevirtual 162, 3) := by decide +kernel
theorem dX9_first_13 : decode cX9_first 13 = .ok (.ifCond .eq 11, 3) := by decide +kernel
theorem dX9_first_16 : decode cX9_first 16 = .ok (.aload_n 0, 1) := by decide +kernel
theorem dX9_first_17 : decode cX9_first 17 = .ok (.iload_n 3, 1) := by decide +kernel
theorem dX9_first_18 : decode cX9_first 18 = .ok (.invokevirtual 159, 3) := by decide +kernel
theorem dX9_first_21 : decode cX9_first 21 = .ok (.ifCond .ne 5, 3) := by decide +kernel
theorem dX9_first_24 : decode cX9_first 24 = .ok (.iconst (-1), 1) := by decide +kernel
theorem dX9_first_25 : decode cX9_first 25 = .ok (.ireturn, 1) := by decide +kernel
theorem dX9_first_26 : decode cX9_first 26 = .ok (.iload_n 3, 1) := by decide +kernel
theorem dX9_first_27 : decode cX9_first 27 = .ok (.istore 5, 2) := by decide +kernel
theorem dX9_first_29 : decode cX9_first 29 = .ok (.iload 5, 2) := by decide +kernel
theorem dX9_first_31 : decode cX9_first 31 = .ok (.sipush 200, 3) := by decide +kernel
theorem dX9_first_34 : decode cX9_first 34 = .ok (.if_icmp .ge 33, 3) := by decide +kernel
theorem dX9_first_37 : decode cX9_first 37 = .ok (.aload_n 0, 1) := by decide +kernel
theorem dX9_first_38 : decode cX9_first 38 = .ok (.iload_n 1, 1) := by decide +kernel
theorem dX9_first_39 : decode cX9_first 39 = .ok (.iload_n 2, 1) := by decide +kernel
theorem dX9_first_40 : decode cX9_first 40 = .ok (.iload 5, 2) := by decide +kernel
theorem dX9_first_42 : decode cX9_first 42 = .ok (.invokevirtual 206, 3) := by decide +kernel
theorem dX9_first_45 : decode cX9_first 45 = .ok (.iload 4, 2) := by decide +kernel
theorem dX9_first_47 : decode cX9_first 47 = .ok (.ifCond .eq 7, 3) := by decide +kernel
theorem dX9_first_50 : decode cX9_first 50 = .ok (.iconst 2, 1) := by decide +kernel
theorem dX9_first_51 : decode cX9_first 51 = .ok (.goto 4, 3) := by decide +kernel
theorem dX9_first_54 : decode cX9_first 54 = .ok (.iconst 1, 1) := by decide +kernel
theorem dX9_first_55 : decode cX9_first 55 = .ok (.if_icmp .lt 6, 3) := by decide +kernel
theorem dX9_first_58 : decode cX9_first 58 = .ok (.iload 5, 2) := by decide +kernel
theorem dX9_first_60 : decode cX9_first 60 = .ok (.ireturn, 1) := by decide +kernel
theorem dX9_first_61 : decode cX9_first 61 = .ok (.iinc 5 1, 3) := by decide +kernel
theorem dX9_first_64 : decode cX9_first 64 = .ok (.goto (-35), 3) := by decide +kernel
theorem dX9_first_67 : decode cX9_first 67 = .ok (.bipush (-2), 2) := by decide +kernel
theorem dX9_first_69 : decode cX9_first 69 = .ok (.ireturn, 1) := by decide +kernel
theorem dX9_who_0 : decode cX9_who 0 = .ok (.aload_n 0, 1) := by decide +kernel
theorem dX9_who_1 : decode cX9_who 1 = .ok (.iload_n 1, 1) := by decide +kernel
theorem dX9_who_2 : decode cX9_who 2 = .ok (.invokevirtual 162, 3) := by decide +kernel
theorem dX9_who_5 : decode cX9_who 5 = .ok (.ifCond .eq 11, 3) := by decide +kernel
theorem dX9_who_8 : decode cX9_who 8 = .ok (.aload_n 0, 1) := by decide +kernel
theorem dX9_who_9 : decode cX9_who 9 = .ok (.iload_n 2, 1) := by decide +kernel
theorem dX9_who_10 : decode cX9_who 10 = .ok (.invokevirtual 159, 3) := by decide +kernel
theorem dX9_who_13 : decode cX9_who 13 = .ok (.ifCond .ne 5, 3) := by decide +kernel
theorem dX9_who_16 : decode cX9_who 16 = .ok (.iconst (-1), 1) := by decide +kernel
theorem dX9_who_17 : decode cX9_who 17 = .ok (.ireturn, 1) := by decide +kernel
theorem dX9_who_18 : decode cX9_who 18 = .ok (.iconst 0, 1) := by decide +kernel
theorem dX9_who_19 : decode cX9_who 19 = .ok (.istore 4, 2) := by decide +kernel
theorem dX9_who_21 : decode cX9_who 21 = .ok (.iconst 0, 1) := by decide +kernel
theorem dX9_who_22 : decode cX9_who 22 = .ok (.istore 5, 2) := by decide +kernel
theorem dX9_who_24 : decode cX9_who 24 = .ok (.iload 5, 2) := by decide +kernel
theorem dX9_who_26 : decode cX9_who 26 = .ok (.aload_n 0, 1) := by decide +kernel
theorem dX9_who_27 : decode cX9_who 27 = .ok (.getfield 16, 3) := by decide +kernel
theorem dX9_who_30 : decode cX9_who 30 = .ok (.if_icmp .ge 39, 3) := by decide +kernel
theorem dX9_who_33 : decode cX9_who 33 = .ok (.iload 4, 2) := by decide +kernel
theorem dX9_who_35 : decode cX9_who 35 = .ok (.aload_n 0, 1) := by decide +kernel
theorem dX9_who_36 : decode cX9_who 36 = .ok (.iload 5, 2) := by decide +kernel
theorem dX9_who_38 : decode cX9_who 38 = .ok (.iload_n 1, 1) := by decide +kernel
theorem dX9_who_39 : decode cX9_who 39 = .ok (.iload_n 2, 1) := by decide +kernel
theorem dX9_who_40 : decode cX9_who 40 = .ok (.invokevirtual 206, 3) := by decide +kernel
theorem dX9_who_43 : decode cX9_who 43 = .ok (.iload_n 3, 1) := by decide +kernel
theorem dX9_who_44 : decode cX9_who 44 = .ok (.ifCond .eq 7, 3) := by decide +kernel
theorem dX9_who_47 : decode cX9_who 47 = .ok (.iconst 2, 1) := by decide +kernel
theorem dX9_who_48 : decode cX9_who 48 = .ok (.goto 4, 3) := by decide +kernel
theorem dX9_who_51 : decode cX9_who 51 = .ok (.iconst 1, 1) := by decide +kernel
theorem dX9_who_52 : decode cX9_who 52 = .ok (.if_icmp .lt 7, 3) := by decide +kernel
theorem dX9_who_55 : decode cX9_who 55 = .ok (.iconst 1, 1) := by decide +kernel
theorem dX9_who_56 : decode cX9_who 56 = .ok (.goto 4, 3) := by decide +kernel
theorem dX9_who_59 : decode cX9_who 59 = .ok (.iconst 0, 1) := by decide +kernel
theorem dX9_who_60 : decode cX9_who 60 = .ok (.iadd, 1) := by decide +kernel
theorem dX9_who_61 : decode cX9_who 61 = .ok (.istore 4, 2) := by decide +kernel
theorem dX9_who_63 : decode cX9_who 63 = .ok (.iinc 5 1, 3) := by decide +kernel
theorem dX9_who_66 : decode cX9_who 66 = .ok (.goto (-42), 3) := by decide +kernel
theorem dX9_who_69 : decode cX9_who 69 = .ok (.iload 4, 2) := by decide +kernel
theorem dX9_who_71 : decode cX9_who 71 = .ok (.ireturn, 1) := by decide +kernel
theorem dX9_isRight_0 : decode cX9_isRight 0 = .ok (.aload_n 0, 1) := by decide +kernel
theorem dX9_isRight_1 : decode cX9_isRight 1 = .ok (.getfield 66, 3) := by decide +kernel
theorem dX9_isRight_4 : decode cX9_isRight 4 = .ok (.iload_n 1, 1) := by decide +kernel
theorem dX9_isRight_5 : decode cX9_isRight 5 = .ok (.iaload, 1) := by decide +kernel
theorem dX9_isRight_6 : decode cX9_isRight 6 = .ok (.istore 4, 2) := by decide +kernel
theorem dX9_isRight_8 : decode cX9_isRight 8 = .ok (.aload_n 0, 1) := by decide +kernel
theorem dX9_isRight_9 : decode cX9_isRight 9 = .ok (.getfield 72, 3) := by decide +kernel
theorem dX9_isRight_12 : decode cX9_isRight 12 = .ok (.sipush 200, 3) := by decide +kernel
theorem dX9_isRight_15 : decode cX9_isRight 15 = .ok (.iload 4, 2) := by decide +kernel
theorem dX9_isRight_17 : decode cX9_isRight 17 = .ok (.imul, 1) := by decide +kernel
theorem dX9_isRight_18 : decode cX9_isRight 18 = .ok (.iload_n 3, 1) := by decide +kernel
theorem dX9_isRight_19 : decode cX9_isRight 19 = .ok (.iadd, 1) := by decide +kernel
theorem dX9_isRight_20 : decode cX9_isRight 20 = .ok (.iconst (-1), 1) := by decide +kernel
theorem dX9_isRight_21 : decode cX9_isRight 21 = .ok (.iastore, 1) := by decide +kernel
theorem dX9_isRight_22 : decode cX9_isRight 22 = .ok (.aload_n 0, 1) := by decide +kernel
theorem dX9_isRight_23 : decode cX9_isRight 23 = .ok (.getfield 66, 3) := by decide +kernel
theorem dX9_isRight_26 : decode cX9_isRight 26 = .ok (.iload_n 1, 1) := by decide +kernel
theorem dX9_isRight_27 : decode cX9_isRight 27 = .ok (.iconst (-1), 1) := by decide +kernel
theorem dX9_isRight_28 : decode cX9_isRight 28 = .ok (.iastore, 1) := by decide +kernel
theorem dX9_isRight_29 : decode cX9_isRight 29 = .ok (.aload_n 0, 1) := by decide +kernel
theorem dX9_isRight_30 : decode cX9_isRight 30 = .ok (.iload 4, 2) := by decide +kernel
theorem dX9_isRight_32 : decode cX9_isRight 32 = .ok (.iload_n 2, 1) := by decide +kernel
theorem dX9_isRight_33 : decode cX9_isRight 33 = .ok (.iload_n 3, 1) := by decide +kernel
theorem dX9_isRight_34 : decode cX9_isRight 34 = .ok (.invokevirtual 206, 3) := by decide +kernel
theorem dX9_isRight_37 : decode cX9_isRight 37 = .ok (.ifCond .le 7, 3) := by decide +kernel
theorem dX9_isRight_40 : decode cX9_isRight 40 = .ok (.iconst 1, 1) := by decide +kernel
theorem dX9_isRight_41 : decode cX9_isRight 41 = .ok (.goto 4, 3) := by decide +kernel
theorem dX9_isRight_44 : decode cX9_isRight 44 = .ok (.iconst 0, 1) := by decide +kernel
theorem dX9_isRight_45 : decode cX9_isRight 45 = .ok (.istore 5, 2) := by decide +kernel
theorem dX9_isRight_47 : decode cX9_isRight 47 = .ok (.aload_n 0, 1) := by decide +kernel
theorem dX9_isRight_48 : decode cX9_isRight 48 = .ok (.iload 4, 2) := by decide +kernel
theorem dX9_isRight_50 : decode cX9_isRight 50 = .ok (.iload_n 1, 1) := by decide +kernel
theorem dX9_isRight_51 : decode cX9_isRight 51 = .ok (.iload_n 3, 1) := by decide +kernel
theorem dX9_isRight_52 : decode cX9_isRight 52 = .ok (.invokevirtual 169, 3) := by decide +kernel
theorem dX9_isRight_55 : decode cX9_isRight 55 = .ok (.iload 5, 2) := by decide +kernel
theorem dX9_isRight_57 : decode cX9_isRight 57 = .ok (.ireturn, 1) := by decide +kernel
theorem dX9_goThrough_0 : decode cX9_goThrough 0 = .ok (.aload_n 0, 1) := by decide +kernel
theorem dX9_goThrough_1 : decode cX9_goThrough 1 = .ok (.iconst 0, 1) := by decide +kernel
theorem dX9_goThrough_2 : decode cX9_goThrough 2 = .ok (.putfield 75, 3) := by decide +kernel
theorem dX9_goThrough_5 : decode cX9_goThrough 5 = .ok (.iconst 0, 1) := by decide +kernel
theorem dX9_goThrough_6 : decode cX9_goThrough 6 = .ok (.istore_n 2, 1) := by decide +kernel
theorem dX9_goThrough_7 : decode cX9_goThrough 7 = .ok (.iload_n 2, 1) := by decide +kernel
theorem dX9_goThrough_8 : decode cX9_goThrough 8 = .ok (.sipush 200, 3) := by decide +kernel
theorem dX9_goThrough_11 : decode cX9_goThrough 11 = .ok (.if_icmp .ge 115, 3) := by decide +kernel
theorem dX9_goThrough_14 : decode cX9_goThrough 14 = .ok (.iconst 0, 1) := by decide +kernel
theorem dX9_goThrough_15 : decode cX9_goThrough 15 = .ok (.istore_n 3, 1) := by decide +kernel
theorem dX9_goThrough_16 : decode cX9_goThrough 16 = .ok (.iload_n 3, 1) := by decide +kernel
theorem dX9_goThrough_17 : decode cX9_goThrough 17 = .ok (.aload_n 0, 1) := by decide +kernel
theorem dX9_goThrough_18 : decode cX9_goThrough 18 = .ok (.getfield 13, 3) := by decide +kernel
theorem dX9_goThrough_21 : decode cX9_goThrough 21 = .ok (.if_icmp .ge 99, 3) := by decide +kernel
theorem dX9_goThrough_24 : decode cX9_goThrough 24 = .ok (.iconst 0, 1) := by decide +kernel
theorem dX9_goThrough_25 : decode cX9_goThrough 25 = .ok (.istore 4, 2) := by decide +kernel
theorem dX9_goThrough_27 : decode cX9_goThrough 27 = .ok (.iload 4, 2) := by decide +kernel
theorem dX9_goThrough_29 : decode cX9_goThrough 29 = .ok (.aload_n 0, 1) := by decide +kernel
theorem dX9_goThrough_30 : decode cX9_goThrough 30 = .ok (.getfield 22, 3) := by decide +kernel
theorem dX9_goThrough_33 : decode cX9_goThrough 33 = .ok (.iload_n 3, 1) := by decide +kernel
theorem dX9_goThrough_34 : decode cX9_goThrough 34 = .ok (.iaload, 1) := by decide +kernel
theorem dX9_goThrough_35 : decode cX9_goThrough 35 = .ok (.if_icmp .ge 79, 3) := by decide +kernel
theorem dX9_goThrough_38 : decode cX9_goThrough 38 = .ok (.aload_n 0, 1) := by decide +kernel
theorem dX9_goThrough_39 : decode cX9_goThrough 39 = .ok (.iload_n 3, 1) := by decide +kernel
theorem dX9_goThrough_40 : decode cX9_goThrough 40 = .ok (.iload_n 2, 1) := by decide +kernel
theorem dX9_goThrough_41 : decode cX9_goThrough 41 = .ok (.iload 4, 2) := by decide +kernel
theorem dX9_goThrough_43 : decode cX9_goThrough 43 = .ok (.invokevirtual 165, 3) := by decide +kernel
theorem dX9_goThrough_46 : decode cX9_goThrough 46 = .ok (.istore 5, 2) := by decide +kernel
theorem dX9_goThrough_48 : decode cX9_goThrough 48 = .ok (.aload_n 0, 1) := by decide +kernel
theorem dX9_goThrough_49 : decode cX9_goThrough 49 = .ok (.getfield 66, 3) := by decide +kernel
theorem dX9_goThrough_52 : decode cX9_goThrough 52 = .ok (.iload 5, 2) := by decide +kernel
theorem dX9_goThrough_54 : decode cX9_goThrough 54 = .ok (.iaload, 1) := by decide +kernel
theorem dX9_goThrough_55 : decode cX9_goThrough 55 = .ok (.ifCond .lt 53, 3) := by decide +kernel
theorem dX9_goThrough_58 : decode cX9_goThrough 58 = .ok (.aload_n 0, 1) := by decide +kernel
theorem dX9_goThrough_59 : decode cX9_goThrough 59 = .ok (.getfield 69, 3) := by decide +kernel
theorem dX9_goThrough_62 : decode cX9_goThrough 62 = .ok (.iload 5, 2) := by decide +kernel
theorem dX9_goThrough_64 : decode cX9_goThrough 64 = .ok (.baload, 1) := by decide +kernel
theorem dX9_goThrough_65 : decode cX9_goThrough 65 = .ok (.ifCond .ne 43, 3) := by decide +kernel
theorem dX9_goThrough_68 : decode cX9_goThrough 68 = .ok (.aload_n 0, 1) := by decide +kernel
theorem dX9_goThrough_69 : decode cX9_goThrough 69 = .ok (.iload 5, 2) := by decide +kernel
theorem dX9_goThrough_71 : decode cX9_goThrough 71 = .ok (.iload_n 3, 1) := by decide +kernel
theorem dX9_goThrough_72 : decode cX9_goThrough 72 = .ok (.iload_n 2, 1) := by decide +kernel
theorem dX9_goThrough_73 : decode cX9_goThrough 73 = .ok (.invokevirtual 209, 3) := by decide +kernel
theorem dX9_goThrough_76 : decode cX9_goThrough 76 = .ok (.ifCond .eq 6, 3) := by decide +kernel
theorem dX9_goThrough_79 : decode cX9_goThrough 79 = .ok (.goto 29, 3) := by decide +kernel
theorem dX9_goThrough_82 : decode cX9_goThrough 82 = .ok (.aload_n 0, 1) := by decide +kernel
theorem dX9_goThrough_83 : decode cX9_goThrough 83 = .ok (.getfield 75, 3) := by decide +kernel
theorem dX9_goThrough_86 : decode cX9_goThrough 86 = .ok (.iload_n 1, 1) := by decide +kernel
theorem dX9_goThrough_87 : decode cX9_goThrough 87 = .ok (.if_icmp .ne 11, 3) := by decide +kernel
theorem dX9_goThrough_90 : decode cX9_goThrough 90 = .ok (.sipush 1000, 3) := by decide +kernel
theorem dX9_goThrough_93 : decode cX9_goThrough 93 = .ok (.iload_n 3, 1) := by decide +kernel
theorem dX9_goThrough_94 : decode cX9_goThrough 94 = .ok (.imul, 1) := by decide +kernel
theorem dX9_goThrough_95 : decode cX9_goThrough 95 = .ok (.iload_n 2, 1) := by decide +kernel
theorem dX9_goThrough_96 : decode cX9_goThrough 96 = .ok (.iadd, 1) := by decide +kernel
theorem dX9_goThrough_97 : decode cX9_goThrough 97 = .ok (.ireturn, 1) := by decide +kernel
theorem dX9_goThrough_98 : decode cX9_goThrough 98 = .ok (.aload_n 0, 1) := by decide +kernel
theorem dX9_goThrough_99 : decode cX9_goThrough 99 = .ok (.dup, 1) := by decide +kernel
theorem dX9_goThrough_100 : decode cX9_goThrough 100 = .ok (.getfield 75, 3) := by decide +kernel
theorem dX9_goThrough_103 : decode cX9_goThrough 103 = .ok (.iconst 1, 1) := by decide +kernel
theorem dX9_goThrough_104 : decode cX9_goThrough 104 = .ok (.iadd, 1) := by decide +kernel
theorem dX9_goThrough_105 : decode cX9_goThrough 105 = .ok (.putfield 75, 3) := by decide +kernel
theorem dX9_goThrough_108 : decode cX9_goThrough 108 = .ok (.iinc 4 1, 3) := by decide +kernel
theorem dX9_goThrough_111 : decode cX9_goThrough 111 = .ok (.goto (-84), 3) := by decide +kernel
theorem dX9_goThrough_114 : decode cX9_goThrough 114 = .ok (.iinc 3 1, 3) := by decide +kernel
theorem dX9_goThrough_117 : decode cX9_goThrough 117 = .ok (.goto (-101), 3) := by decide +kernel
theorem dX9_goThrough_120 : decode cX9_goThrough 120 = .ok (.iinc 2 1, 3) := by decide +kernel
theorem dX9_goThrough_123 : decode cX9_goThrough 123 = .ok (.goto (-116), 3) := by decide +kernel
theorem dX9_goThrough_126 : decode cX9_goThrough 126 = .ok (.bipush (-3), 2) := by decide +kernel
theorem dX9_goThrough_128 : decode cX9_goThrough 128 = .ok (.ireturn, 1) := by decide +kernel
theorem dX9_breaches_0 : decode cX9_breaches 0 = .ok (.aload_n 0, 1) := by decide +kernel
theorem dX9_breaches_1 : decode cX9_breaches 1 = .ok (.iconst (-1), 1) := by decide +kernel
theorem dX9_breaches_2 : decode cX9_breaches 2 = .ok (.invokevirtual 212, 3) := by decide +kernel
theorem dX9_breaches_5 : decode cX9_breaches 5 = .ok (.istore_n 1, 1) := by decide +kernel
theorem dX9_breaches_6 : decode cX9_breaches 6 = .ok (.aload_n 0, 1) := by decide +kernel
theorem dX9_breaches_7 : decode cX9_breaches 7 = .ok (.getfield 75, 3) := by decide +kernel
theorem dX9_breaches_10 : decode cX9_breaches 10 = .ok (.ireturn, 1) := by decide +kernel
theorem dX9_breach_0 : decode cX9_breach 0 = .ok (.iload_n 1, 1) := by decide +kernel
theorem dX9_breach_1 : decode cX9_breach 1 = .ok (.ifCond .ge 7, 3) := by decide +kernel
theorem dX9_breach_4 : decode cX9_breach 4 = .ok (.iconst (-1), 1) := by decide +kernel
theorem dX9_breach_5 : decode cX9_breach 5 = .ok (.goto 8, 3) := by decide +kernel
theorem dX9_breach_8 : decode cX9_breach 8 = .ok (.aload_n 0, 1) := by decide +kernel
theorem dX9_breach_9 : decode cX9_breach 9 = .ok (.iload_n 1, 1) := by decide +kernel
theorem dX9_breach_10 : decode cX9_breach 10 = .ok (.invokevirtual 212, 3) := by decide +kernel
theorem dX9_breach_13 : decode cX9_breach 13 = .ok (.ireturn, 1) := by decide +kernel
theorem dX9_areAllRight_0 : decode cX9_areAllRight 0 = .ok (.iconst 1, 1) := by decide +kernel
theorem dX9_areAllRight_1 : decode cX9_areAllRight 1 = .ok (.istore_n 2, 1) := by decide +kernel
theorem dX9_areAllRight_2 : decode cX9_areAllRight 2 = .ok (.iconst 0, 1) := by decide +kernel
theorem dX9_areAllRight_3 : decode cX9_areAllRight 3 = .ok (.istore_n 3, 1) := by decide +kernel
theorem dX9_areAllRight_4 : decode cX9_areAllRight 4 = .ok (.iload_n 3, 1) := by decide +kernel
theorem dX9_areAllRight_5 : decode cX9_areAllRight 5 = .ok (.aload_n 0, 1) := by decide +kernel
theorem dX9_areAllRight_6 : decode cX9_areAllRight 6 = .ok (.getfield 78, 3) := by decide +kernel
theorem dX9_areAllRight_9 : decode cX9_areAllRight 9 = .ok (.if_icmp .ge 43, 3) := by decide +kernel
theorem dX9_areAllRight_12 : decode cX9_areAllRight 12 = .ok (.iload_n 2, 1) := by decide +kernel
theorem dX9_areAllRight_13 : decode cX9_areAllRight 13 = .ok (.ifCond .eq 31, 3) := by decide +kernel
theorem dX9_areAllRight_16 : decode cX9_areAllRight 16 = .ok (.aload_n 0, 1) := by decide +kernel
theorem dX9_areAllRight_17 : decode cX9_areAllRight 17 = .ok (.aload_n 0, 1) := by decide +kernel
theorem dX9_areAllRight_18 : decode cX9_areAllRight 18 = .ok (.getfield 93, 3) := by decide +kernel
theorem dX9_areAllRight_21 : decode cX9_areAllRight 21 = .ok (.iload_n 3, 1) := by decide +kernel
theorem dX9_areAllRight_22 : decode cX9_areAllRight 22 = .ok (.iaload, 1) := by decide +kernel
theorem dX9_areAllRight_23 : decode cX9_areAllRight 23 = .ok (.aload_n 0, 1) := by decide +kernel
theorem dX9_areAllRight_24 : decode cX9_areAllRight 24 = .ok (.aload_n 0, 1) := by decide +kernel
theorem dX9_areAllRight_25 : decode cX9_areAllRight 25 = .ok (.getfield 93, 3) := by decide +kernel
theorem dX9_areAllRight_28 : decode cX9_areAllRight 28 = .ok (.iload_n 3, 1) := by decide +kernel
theorem dX9_areAllRight_29 : decode cX9_areAllRight 29 = .ok (.iaload, 1) := by decide +kernel
theorem dX9_areAllRight_30 : decode cX9_areAllRight 30 = .ok (.invokevirtual 180, 3) := by decide +kernel
theorem dX9_areAllRight_33 : decode cX9_areAllRight 33 = .ok (.iload_n 1, 1) := by decide +kernel
theorem dX9_areAllRight_34 : decode cX9_areAllRight 34 = .ok (.invokevirtual 209, 3) := by decide +kernel
theorem dX9_areAllRight_37 : decode cX9_areAllRight 37 = .ok (.ifCond .eq 7, 3) := by decide +kernel
theorem dX9_areAllRight_40 : decode cX9_areAllRight 40 = .ok (.iconst 1, 1) := by decide +kernel
theorem dX9_areAllRight_41 : decode cX9_areAllRight 41 = .ok (.goto 4, 3) := by decide +kernel
theorem dX9_areAllRight_44 : decode cX9_areAllRight 44 = .ok (.iconst 0, 1) := by decide +kernel
theorem dX9_areAllRight_45 : decode cX9_areAllRight 45 = .ok (.istore_n 2, 1) := by decide +kernel
theorem dX9_areAllRight_46 : decode cX9_areAllRight 46 = .ok (.iinc 3 1, 3) := by decide +kernel
theorem dX9_areAllRight_49 : decode cX9_areAllRight 49 = .ok (.goto (-45), 3) := by decide +kernel
theorem dX9_areAllRight_52 : decode cX9_areAllRight 52 = .ok (.iload_n 2, 1) := by decide +kernel
theorem dX9_areAllRight_53 : decode cX9_areAllRight 53 = .ok (.ireturn, 1) := by decide +kernel
theorem dX9_takeBack_0 : decode cX9_takeBack 0 = .ok (.aload_n 0, 1) := by decide +kernel
theorem dX9_takeBack_1 : decode cX9_takeBack 1 = .ok (.getfield 66, 3) := by decide +kernel
theorem dX9_takeBack_4 : decode cX9_takeBack 4 = .ok (.aload_n 0, 1) := by decide +kernel
theorem dX9_takeBack_5 : decode cX9_takeBack 5 = .ok (.getfield 93, 3) := by decide +kernel
theorem dX9_takeBack_8 : decode cX9_takeBack 8 = .ok (.iload_n 1, 1) := by decide +kernel
theorem dX9_takeBack_9 : decode cX9_takeBack 9 = .ok (.iaload, 1) := by decide +kernel
theorem dX9_takeBack_10 : decode cX9_takeBack 10 = .ok (.iaload, 1) := by decide +kernel
theorem dX9_takeBack_11 : decode cX9_takeBack 11 = .ok (.istore_n 3, 1) := by decide +kernel
theorem dX9_takeBack_12 : decode cX9_takeBack 12 = .ok (.aload_n 0, 1) := by decide +kernel
theorem dX9_takeBack_13 : decode cX9_takeBack 13 = .ok (.getfield 72, 3) := by decide +kernel
theorem dX9_takeBack_16 : decode cX9_takeBack 16 = .ok (.sipush 200, 3) := by decide +kernel
theorem dX9_takeBack_19 : decode cX9_takeBack 19 = .ok (.iload_n 3, 1) := by decide +kernel
theorem dX9_takeBack_20 : decode cX9_takeBack 20 = .ok (.imul, 1) := by decide +kernel
theorem dX9_takeBack_21 : decode cX9_takeBack 21 = .ok (.iload_n 2, 1) := by decide +kernel
theorem dX9_takeBack_22 : decode cX9_takeBack 22 = .ok (.iadd, 1) := by decide +kernel
theorem dX9_takeBack_23 : decode cX9_takeBack 23 = .ok (.iconst (-1), 1) := by decide +kernel
theorem dX9_takeBack_24 : decode cX9_takeBack 24 = .ok (.iastore, 1) := by decide +kernel
theorem dX9_takeBack_25 : decode cX9_takeBack 25 = .ok (.aload_n 0, 1) := by decide +kernel
theorem dX9_takeBack_26 : decode cX9_takeBack 26 = .ok (.getfield 66, 3) := by decide +kernel
theorem dX9_takeBack_29 : decode cX9_takeBack 29 = .ok (.aload_n 0, 1) := by decide +kernel
theorem dX9_takeBack_30 : decode cX9_takeBack 30 = .ok (.getfield 93, 3) := by decide +kernel
theorem dX9_takeBack_33 : decode cX9_takeBack 33 = .ok (.iload_n 1, 1) := by decide +kernel
theorem dX9_takeBack_34 : decode cX9_takeBack 34 = .ok (.iaload, 1) := by decide +kernel
theorem dX9_takeBack_35 : decode cX9_takeBack 35 = .ok (.iconst (-1), 1) := by decide +kernel
theorem dX9_takeBack_36 : decode cX9_takeBack 36 = .ok (.iastore, 1) := by decide +kernel
theorem dX9_takeBack_37 : decode cX9_takeBack 37 = .ok (.return_, 1) := by decide +kernel
theorem dX9_isAmong_0 : decode cX9_isAmong 0 = .ok (.iconst 0, 1) := by decide +kernel
theorem dX9_isAmong_1 : decode cX9_isAmong 1 = .ok (.istore_n 1, 1) := by decide +kernel
theorem dX9_isAmong_2 : decode cX9_isAmong 2 = .ok (.iload_n 1, 1) := by decide +kernel
theorem dX9_isAmong_3 : decode cX9_isAmong 3 = .ok (.aload_n 0, 1) := by decide +kernel
theorem dX9_isAmong_4 : decode cX9_isAmong 4 = .ok (.getfield 78, 3) := by decide +kernel
theorem dX9_isAmong_7 : decode cX9_isAmong 7 = .ok (.if_icmp .ge 46, 3) := by decide +kernel
theorem dX9_isAmong_10 : decode cX9_isAmong 10 = .ok (.aload_n 0, 1) := by decide +kernel
theorem dX9_isAmong_11 : decode cX9_isAmong 11 = .ok (.getfield 66, 3) := by decide +kernel
theorem dX9_isAmong_14 : decode cX9_isAmong 14 = .ok (.aload_n 0, 1) := by decide +kernel
theorem dX9_isAmong_15 : decode cX9_isAmong 15 = .ok (.getfield 93, 3) := by decide +kernel
theorem dX9_isAmong_18 : decode cX9_isAmong 18 = .ok (.iload_n 1, 1) := by decide +kernel
theorem dX9_isAmong_19 : decode cX9_isAmong 19 = .ok (.iaload, 1) := by decide +kernel
theorem dX9_isAmong_20 : decode cX9_isAmong 20 = .ok (.iaload, 1) := by decide +kernel
theorem dX9_isAmong_21 : decode cX9_isAmong 21 = .ok (.aload_n 0, 1) := by decide +kernel
theorem dX9_isAmong_22 : decode cX9_isAmong 22 = .ok (.getfield 84, 3) := by decide +kernel
theorem dX9_isAmong_25 : decode cX9_isAmong 25 = .ok (.if_icmp .ne 22, 3) := by decide +kernel
theorem dX9_isAmong_28 : decode cX9_isAmong 28 = .ok (.aload_n 0, 1) := by decide +kernel
theorem dX9_isAmong_29 : decode cX9_isAmong 29 = .ok (.aload_n 0, 1) := by decide +kernel
theorem dX9_isAmong_30 : decode cX9_isAmong 30 = .ok (.getfield 93, 3) := by decide +kernel
theorem dX9_isAmong_33 : decode cX9_isAmong 33 = .ok (.iload_n 1, 1) := by decide +kernel
theorem dX9_isAmong_34 : decode cX9_isAmong 34 = .ok (.iaload, 1) := by decide +kernel
theorem dX9_isAmong_35 : decode cX9_isAmong 35 = .ok (.invokevirtual 180, 3) := by decide +kernel
theorem dX9_isAmong_38 : decode cX9_isAmong 38 = .ok (.aload_n 0, 1) := by decide +kernel
theorem dX9_isAmong_39 : decode cX9_isAmong 39 = .ok (.getfield 87, 3) := by decide +kernel
theorem dX9_isAmong_42 : decode cX9_isAmong 42 = .ok (.if_icmp .ne 5, 3) := by decide +kernel
theorem dX9_isAmong_45 : decode cX9_isAmong 45 = .ok (.iconst 1, 1) := by decide +kernel
theorem dX9_isAmong_46 : decode cX9_isAmong 46 = .ok (.ireturn, 1) := by decide +kernel
theorem dX9_isAmong_47 : decode cX9_isAmong 47 = .ok (.iinc 1 1, 3) := by decide +kernel
theorem dX9_isAmong_50 : decode cX9_isAmong 50 = .ok (.goto (-48), 3) := by decide +kernel
theorem dX9_isAmong_53 : decode cX9_isAmong 53 = .ok (.iconst 0, 1) := by decide +kernel
theorem dX9_isAmong_54 : decode cX9_isAmong 54 = .ok (.ireturn, 1) := by decide +kernel
theorem dX9_fillYear_0 : decode cX9_fillYear 0 = .ok (.aload_n 0, 1) := by decide +kernel
theorem dX9_fillYear_1 : decode cX9_fillYear 1 = .ok (.iconst 0, 1) := by decide +kernel
theorem dX9_fillYear_2 : decode cX9_fillYear 2 = .ok (.putfield 78, 3) := by decide +kernel
theorem dX9_fillYear_5 : decode cX9_fillYear 5 = .ok (.aload_n 0, 1) := by decide +kernel
theorem dX9_fillYear_6 : decode cX9_fillYear 6 = .ok (.iconst 0, 1) := by decide +kernel
theorem dX9_fillYear_7 : decode cX9_fillYear 7 = .ok (.putfield 81, 3) := by decide +kernel
theorem dX9_fillYear_10 : decode cX9_fillYear 10 = .ok (.aload_n 0, 1) := by decide +kernel
theorem dX9_fillYear_11 : decode cX9_fillYear 11 = .ok (.iconst 0, 1) := by decide +kernel
theorem dX9_fillYear_12 : decode cX9_fillYear 12 = .ok (.putfield 90, 3) := by decide +kernel
theorem dX9_fillYear_15 : decode cX9_fillYear 15 = .ok (.iconst 0, 1) := by decide +kernel
theorem dX9_fillYear_16 : decode cX9_fillYear 16 = .ok (.istore_n 3, 1) := by decide +kernel
theorem dX9_fillYear_17 : decode cX9_fillYear 17 = .ok (.iload_n 3, 1) := by decide +kernel
theorem dX9_fillYear_18 : decode cX9_fillYear 18 = .ok (.aload_n 0, 1) := by decide +kernel
theorem dX9_fillYear_19 : decode cX9_fillYear 19 = .ok (.getfield 13, 3) := by decide +kernel
theorem dX9_fillYear_22 : decode cX9_fillYear 22 = .ok (.if_icmp .ge 75, 3) := by decide +kernel
theorem dX9_fillYear_25 : decode cX9_fillYear 25 = .ok (.iconst 0, 1) := by decide +kernel
theorem dX9_fillYear_26 : decode cX9_fillYear 26 = .ok (.istore 4, 2) := by decide +kernel
theorem dX9_fillYear_28 : decode cX9_fillYear 28 = .ok (.iload 4, 2) := by decide +kernel
theorem dX9_fillYear_30 : decode cX9_fillYear 30 = .ok (.aload_n 0, 1) := by decide +kernel
theorem dX9_fillYear_31 : decode cX9_fillYear 31 = .ok (.getfield 22, 3) := by decide +kernel
theorem dX9_fillYear_34 : decode cX9_fillYear 34 = .ok (.iload_n 3, 1) := by decide +kernel
theorem dX9_fillYear_35 : decode cX9_fillYear 35 = .ok (.iaload, 1) := by decide +kernel
theorem dX9_fillYear_36 : decode cX9_fillYear 36 = .ok (.if_icmp .ge 55, 3) := by decide +kernel
theorem dX9_fillYear_39 : decode cX9_fillYear 39 = .ok (.aload_n 0, 1) := by decide +kernel
theorem dX9_fillYear_40 : decode cX9_fillYear 40 = .ok (.getfield 66, 3) := by decide +kernel
theorem dX9_fillYear_43 : decode cX9_fillYear 43 = .ok (.aload_n 0, 1) := by decide +kernel
theorem dX9_fillYear_44 : decode cX9_fillYear 44 = .ok (.iload_n 3, 1) := by decide +kernel
theorem dX9_fillYear_45 : decode cX9_fillYear 45 = .ok (.iload_n 1, 1) := by decide +kernel
theorem dX9_fillYear_46 : decode cX9_fillYear 46 = .ok (.iload 4, 2) := by decide +kernel
theorem dX9_fillYear_48 : decode cX9_fillYear 48 = .ok (.invokevirtual 165, 3) := by decide +kernel
theorem dX9_fillYear_51 : decode cX9_fillYear 51 = .ok (.iaload, 1) := by decide +kernel
theorem dX9_fillYear_52 : decode cX9_fillYear 52 = .ok (.ifCond .lt 6, 3) := by decide +kernel
theorem dX9_fillYear_55 : decode cX9_fillYear 55 = .ok (.goto 30, 3) := by decide +kernel
theorem dX9_fillYear_58 : decode cX9_fillYear 58 = .ok (.aload_n 0, 1) := by decide +kernel
theorem dX9_fillYear_59 : decode cX9_fillYear 59 = .ok (.getfield 93, 3) := by decide +kernel
theorem dX9_fillYear_62 : decode cX9_fillYear 62 = .ok (.aload_n 0, 1) := by decide +kernel
theorem dX9_fillYear_63 : decode cX9_fillYear 63 = .ok (.getfield 78, 3) := by decide +kernel
theorem dX9_fillYear_66 : decode cX9_fillYear 66 = .ok (.aload_n 0, 1) := by decide +kernel
theorem dX9_fillYear_67 : decode cX9_fillYear 67 = .ok (.iload_n 3, 1) := by decide +kernel
theorem dX9_fillYear_68 : decode cX9_fillYear 68 = .ok (.iload_n 1, 1) := by decide +kernel
theorem dX9_fillYear_69 : decode cX9_fillYear 69 = .ok (.iload 4, 2) := by decide +kernel
theorem dX9_fillYear_71 : decode cX9_fillYear 71 = .ok (.invokevirtual 165, 3) := by decide +kernel
theorem dX9_fillYear_74 : decode cX9_fillYear 74 = .ok (.iastore, 1) := by decide +kernel
theorem dX9_fillYear_75 : decode cX9_fillYear 75 = .ok (.aload_n 0, 1) := by decide +kernel
theorem dX9_fillYear_76 : decode cX9_fillYear 76 = .ok (.dup, 1) := by decide +kernel
theorem dX9_fillYear_77 : decode cX9_fillYear 77 = .ok (.getfield 78, 3) := by decide +kernel
theorem dX9_fillYear_80 : decode cX9_fillYear 80 = .ok (.iconst 1, 1) := by decide +kernel
theorem dX9_fillYear_81 : decode cX9_fillYear 81 = .ok (.iadd, 1) := by decide +kernel
theorem dX9_fillYear_82 : decode cX9_fillYear 82 = .ok (.putfield 78, 3) := by decide +kernel
theorem dX9_fillYear_85 : decode cX9_fillYear 85 = .ok (.iinc 4 1, 3) := by decide +kernel
theorem dX9_fillYear_88 : decode cX9_fillYear 88 = .ok (.goto (-60), 3) := by decide +kernel
theorem dX9_fillYear_91 : decode cX9_fillYear 91 = .ok (.iinc 3 1, 3) := by decide +kernel
theorem dX9_fillYear_94 : decode cX9_fillYear 94 = .ok (.goto (-77), 3) := by decide +kernel
theorem dX9_fillYear_97 : decode cX9_fillYear 97 = .ok (.iconst 0, 1) := by decide +kernel
theorem dX9_fillYear_98 : decode cX9_fillYear 98 = .ok (.istore_n 3, 1) := by decide +kernel
theorem dX9_fillYear_99 : decode cX9_fillYear 99 = .ok (.iconst 0, 1) := by decide +kernel
theorem dX9_fillYear_100 : decode cX9_fillYear 100 = .ok (.istore 4, 2) := by decide +kernel
theorem dX9_fillYear_102 : decode cX9_fillYear 102 = .ok (.aload_n 0, 1) := by decide +kernel
theorem dX9_fillYear_103 : decode cX9_fillYear 103 = .ok (.getfield 96, 3) := by decide +kernel
theorem dX9_fillYear_106 : decode cX9_fillYear 106 = .ok (.iconst 0, 1) := by decide +kernel
theorem dX9_fillYear_107 : decode cX9_fillYear 107 = .ok (.iconst (-1), 1) := by decide +kernel
theorem dX9_fillYear_108 : decode cX9_fillYear 108 = .ok (.iastore, 1) := by decide +kernel
theorem dX9_fillYear_109 : decode cX9_fillYear 109 = .ok (.iload 4, 2) := by decide +kernel
theorem dX9_fillYear_111 : decode cX9_fillYear 111 = .ok (.ifCond .lt 247, 3) := by decide +kernel
theorem dX9_fillYear_114 : decode cX9_fillYear 114 = .ok (.iload 4, 2) := by decide +kernel
theorem dX9_fillYear_116 : decode cX9_fillYear 116 = .ok (.aload_n 0, 1) := by decide +kernel
theorem dX9_fillYear_117 : decode cX9_fillYear 117 = .ok (.getfield 78, 3) := by decide +kernel
theorem dX9_fillYear_120 : decode cX9_fillYear 120 = .ok (.if_icmp .ne 59, 3) := by decide +kernel
theorem dX9_fillYear_123 : decode cX9_fillYear 123 = .ok (.aload_n 0, 1) := by decide +kernel
theorem dX9_fillYear_124 : decode cX9_fillYear 124 = .ok (.iload_n 1, 1) := by decide +kernel
theorem dX9_fillYear_125 : decode cX9_fillYear 125 = .ok (.invokevirtual 215, 3) := by decide +kernel
theorem dX9_fillYear_128 : decode cX9_fillYear 128 = .ok (.ifCond .eq 33, 3) := by decide +kernel
theorem dX9_fillYear_131 : decode cX9_fillYear 131 = .ok (.iinc 3 1, 3) := by decide +kernel
theorem dX9_fillYear_134 : decode cX9_fillYear 134 = .ok (.iload_n 2, 1) := by decide +kernel
theorem dX9_fillYear_135 : decode cX9_fillYear 135 = .ok (.ifCond .ne 5, 3) := by decide +kernel
theorem dX9_fillYear_138 : decode cX9_fillYear 138 = .ok (.iconst 1, 1) := by decide +kernel
theorem dX9_fillYear_139 : decode cX9_fillYear 139 = .ok (.ireturn, 1) := by decide +kernel
theorem dX9_fillYear_140 : decode cX9_fillYear 140 = .ok (.aload_n 0, 1) := by decide +kernel
theorem dX9_fillYear_141 : decode cX9_fillYear 141 = .ok (.dup, 1) := by decide +kernel
theorem dX9_fillYear_142 : decode cX9_fillYear 142 = .ok (.getfield 90, 3) := by decide +kernel
theorem dX9_fillYear_145 : decode cX9_fillYear 145 = .ok (.aload_n 0, 1) := by decide +kernel
theorem dX9_fillYear_146 : decode cX9_fillYear 146 = .ok (.invokevirtual 218, 3) := by decide +kernel
theorem dX9_fillYear_149 : decode cX9_fillYear 149 = .ok (.ifCond .eq 7, 3) := by decide +kernel
theorem dX9_fillYear_152 : decode cX9_fillYear 152 = .ok (.iconst 1, 1) := by decide +kernel
theorem dX9_fillYear_153 : decode cX9_fillYear 153 = .ok (.goto 4, 3) := by decide +kernel
theorem dX9_fillYear_156 : decode cX9_fillYear 156 = .ok (.iconst 0, 1) := by decide +kernel
theorem dX9_fillYear_157 : decode cX9_fillYear 157 = .ok (.iadd, 1) := by decide +kernel
theorem dX9_fillYear_158 : decode cX9_fillYear 158 = .ok (.putfield 90, 3) := by decide +kernel
theorem dX9_fillYear_161 : decode cX9_fillYear 161 = .ok (.iinc 4 (-1), 3) := by decide +kernel
theorem dX9_fillYear_164 : decode cX9_fillYear 164 = .ok (.iload 4, 2) := by decide +kernel
theorem dX9_fillYear_166 : decode cX9_fillYear 166 = .ok (.ifCond .lt (-57), 3) := by decide +kernel
theorem dX9_fillYear_169 : decode cX9_fillYear 169 = .ok (.aload_n 0, 1) := by decide +kernel
theorem dX9_fillYear_170 : decode cX9_fillYear 170 = .ok (.iload 4, 2) := by decide +kernel
theorem dX9_fillYear_172 : decode cX9_fillYear 172 = .ok (.iload_n 1, 1) := by decide +kernel
theorem dX9_fillYear_173 : decode cX9_fillYear 173 = .ok (.invokevirtual 222, 3) := by decide +kernel
theorem dX9_fillYear_176 : decode cX9_fillYear 176 = .ok (.goto (-67), 3) := by decide +kernel
theorem dX9_fillYear_179 : decode cX9_fillYear 179 = .ok (.aload_n 0, 1) := by decide +kernel
theorem dX9_fillYear_180 : decode cX9_fillYear 180 = .ok (.getfield 96, 3) := by decide +kernel
theorem dX9_fillYear_183 : decode cX9_fillYear 183 = .ok (.iload 4, 2) := by decide +kernel
theorem dX9_fillYear_185 : decode cX9_fillYear 185 = .ok (.dup2, 1) := by decide +kernel
theorem dX9_fillYear_186 : decode cX9_fillYear 186 = .ok (.iaload, 1) := by decide +kernel
theorem dX9_fillYear_187 : decode cX9_fillYear 187 = .ok (.iconst 1, 1) := by decide +kernel
theorem dX9_fillYear_188 : decode cX9_fillYear 188 = .ok (.iadd, 1) := by decide +kernel
theorem dX9_fillYear_189 : decode cX9_fillYear 189 = .ok (.iastore, 1) := by decide +kernel
theorem dX9_fillYear_190 : decode cX9_fillYear 190 = .ok (.aload_n 0, 1) := by decide +kernel
theorem dX9_fillYear_191 : decode cX9_fillYear 191 = .ok (.getfield 96, 3) := by decide +kernel
theorem dX9_fillYear_194 : decode cX9_fillYear 194 = .ok (.iload 4, 2) := by decide +kernel
theorem dX9_fillYear_196 : decode cX9_fillYear 196 = .ok (.iaload, 1) := by decide +kernel
theorem dX9_fillYear_197 : decode cX9_fillYear 197 = .ok (.istore 5, 2) := by decide +kernel
theorem dX9_fillYear_199 : decode cX9_fillYear 199 = .ok (.iload 5, 2) := by decide +kernel
theorem dX9_fillYear_201 : decode cX9_fillYear 201 = .ok (.aload_n 0, 1) := by decide +kernel
theorem dX9_fillYear_202 : decode cX9_fillYear 202 = .ok (.getfield 16, 3) := by decide +kernel
theorem dX9_fillYear_205 : decode cX9_fillYear 205 = .ok (.if_icmp .lt 21, 3) := by decide +kernel
theorem dX9_fillYear_208 : decode cX9_fillYear 208 = .ok (.iinc 4 (-1), 3) := by decide +kernel
theorem dX9_fillYear_211 : decode cX9_fillYear 211 = .ok (.iload 4, 2) := by decide +kernel
theorem dX9_fillYear_213 : decode cX9_fillYear 213 = .ok (.ifCond .lt (-104), 3) := by decide +kernel
theorem dX9_fillYear_216 : decode cX9_fillYear 216 = .ok (.aload_n 0, 1) := by decide +kernel
theorem dX9_fillYear_217 : decode cX9_fillYear 217 = .ok (.iload 4, 2) := by decide +kernel
theorem dX9_fillYear_219 : decode cX9_fillYear 219 = .ok (.iload_n 1, 1) := by decide +kernel
theorem dX9_fillYear_220 : decode cX9_fillYear 220 = .ok (.invokevirtual 222, 3) := by decide +kernel
theorem dX9_fillYear_223 : decode cX9_fillYear 223 = .ok (.goto (-114), 3) := by decide +kernel
theorem dX9_fillYear_226 : decode cX9_fillYear 226 = .ok (.aload_n 0, 1) := by decide +kernel
theorem dX9_fillYear_227 : decode cX9_fillYear 227 = .ok (.getfield 81, 3) := by decide +kernel
theorem dX9_fillYear_230 : decode cX9_fillYear 230 = .ok (.sipush 20000, 3) := by decide +kernel
theorem dX9_fillYear_233 : decode cX9_fillYear 233 = .ok (.if_icmp .ne 29, 3) := by decide +kernel
theorem dX9_fillYear_236 : decode cX9_fillYear 236 = .ok (.iconst 0, 1) := by decide +kernel
theorem dX9_fillYear_237 : decode cX9_fillYear 237 = .ok (.istore 6, 2) := by decide +kernel
theorem dX9_fillYear_239 : decode cX9_fillYear 239 = .ok (.iload 6, 2) := by decide +kernel
theorem dX9_fillYear_241 : decode cX9_fillYear 241 = .ok (.iload 4, 2) := by decide +kernel
theorem dX9_fillYear_243 : decode cX9_fillYear 243 = .ok (.if_icmp .ge 16, 3) := by decide +kernel
theorem dX9_fillYear_246 : decode cX9_fillYear 246 = .ok (.aload_n 0, 1) := by decide +kernel
theorem dX9_fillYear_247 : decode cX9_fillYear 247 = .ok (.iload 6, 2) := by decide +kernel
theorem dX9_fillYear_249 : decode cX9_fillYear 249 = .ok (.iload_n 1, 1) := by decide +kernel
theorem dX9_fillYear_250 : decode cX9_fillYear 250 = .ok (.invokevirtual 222, 3) := by decide +kernel
theorem dX9_fillYear_253 : decode cX9_fillYear 253 = .ok (.iinc 6 1, 3) := by decide +kernel
theorem dX9_fillYear_256 : decode cX9_fillYear 256 = .ok (.goto (-17), 3) := by decide +kernel
theorem dX9_fillYear_259 : decode cX9_fillYear 259 = .ok (.bipush (-8), 2) := by decide +kernel
theorem dX9_fillYear_261 : decode cX9_fillYear 261 = .ok (.ireturn, 1) := by decide +kernel
theorem dX9_fillYear_262 : decode cX9_fillYear 262 = .ok (.aload_n 0, 1) := by decide +kernel
theorem dX9_fillYear_263 : decode cX9_fillYear 263 = .ok (.dup, 1) := by decide +kernel
theorem dX9_fillYear_264 : decode cX9_fillYear 264 = .ok (.getfield 81, 3) := by decide +kernel
theorem dX9_fillYear_267 : decode cX9_fillYear 267 = .ok (.iconst 1, 1) := by decide +kernel
theorem dX9_fillYear_268 : decode cX9_fillYear 268 = .ok (.iadd, 1) := by decide +kernel
theorem dX9_fillYear_269 : decode cX9_fillYear 269 = .ok (.putfield 81, 3) := by decide +kernel
theorem dX9_fillYear_272 : decode cX9_fillYear 272 = .ok (.aload_n 0, 1) := by decide +kernel
theorem dX9_fillYear_273 : decode cX9_fillYear 273 = .ok (.aload_n 0, 1) := by decide +kernel
theorem dX9_fillYear_274 : decode cX9_fillYear 274 = .ok (.getfield 93, 3) := by decide +kernel
theorem dX9_fillYear_277 : decode cX9_fillYear 277 = .ok (.iload 4, 2) := by decide +kernel
theorem dX9_fillYear_279 : decode cX9_fillYear 279 = .ok (.iaload, 1) := by decide +kernel
theorem dX9_fillYear_280 : decode cX9_fillYear 280 = .ok (.invokevirtual 180, 3) := by decide +kernel
theorem dX9_fillYear_283 : decode cX9_fillYear 283 = .ok (.istore 6, 2) := by decide +kernel
theorem dX9_fillYear_285 : decode cX9_fillYear 285 = .ok (.aload_n 0, 1) := by decide +kernel
theorem dX9_fillYear_286 : decode cX9_fillYear 286 = .ok (.iload 5, 2) := by decide +kernel
theorem dX9_fillYear_288 : decode cX9_fillYear 288 = .ok (.iload 6, 2) := by decide +kernel
theorem dX9_fillYear_290 : decode cX9_fillYear 290 = .ok (.iload_n 1, 1) := by decide +kernel
theorem dX9_fillYear_291 : decode cX9_fillYear 291 = .ok (.invokevirtual 206, 3) := by decide +kernel
theorem dX9_fillYear_294 : decode cX9_fillYear 294 = .ok (.ifCond .ne 6, 3) := by decide +kernel
theorem dX9_fillYear_297 : decode cX9_fillYear 297 = .ok (.goto (-188), 3) := by decide +kernel
theorem dX9_fillYear_300 : decode cX9_fillYear 300 = .ok (.aload_n 0, 1) := by decide +kernel
theorem dX9_fillYear_301 : decode cX9_fillYear 301 = .ok (.iload 5, 2) := by decide +kernel
theorem dX9_fillYear_303 : decode cX9_fillYear 303 = .ok (.aload_n 0, 1) := by decide +kernel
theorem dX9_fillYear_304 : decode cX9_fillYear 304 = .ok (.getfield 93, 3) := by decide +kernel
theorem dX9_fillYear_307 : decode cX9_fillYear 307 = .ok (.iload 4, 2) := by decide +kernel
theorem dX9_fillYear_309 : decode cX9_fillYear 309 = .ok (.iaload, 1) := by decide +kernel
theorem dX9_fillYear_310 : decode cX9_fillYear 310 = .ok (.iload_n 1, 1) := by decide +kernel
theorem dX9_fillYear_311 : decode cX9_fillYear 311 = .ok (.invokevirtual 169, 3) := by decide +kernel
theorem dX9_fillYear_314 : decode cX9_fillYear 314 = .ok (.iinc 4 1, 3) := by decide +kernel
theorem dX9_fillYear_317 : decode cX9_fillYear 317 = .ok (.iload 4, 2) := by decide +kernel
theorem dX9_fillYear_319 : decode cX9_fillYear 319 = .ok (.aload_n 0, 1) := by decide +kernel
theorem dX9_fillYear_320 : decode cX9_fillYear 320 = .ok (.getfield 78, 3) := by decide +kernel
theorem dX9_fillYear_323 : decode cX9_fillYear 323 = .ok (.if_icmp .ge 32, 3) := by decide +kernel
theorem dX9_fillYear_326 : decode cX9_fillYear 326 = .ok (.aload_n 0, 1) := by decide +kernel
theorem dX9_fillYear_327 : decode cX9_fillYear 327 = .ok (.getfield 96, 3) := by decide +kernel
theorem dX9_fillYear_330 : decode cX9_fillYear 330 = .ok (.iload 4, 2) := by decide +kernel
theorem dX9_fillYear_332 : decode cX9_fillYear 332 = .ok (.aload_n 0, 1) := by decide +kernel
theorem dX9_fillYear_333 : decode cX9_fillYear 333 = .ok (.aload_n 0, 1) := by decide +kernel
theorem dX9_fillYear_334 : decode cX9_fillYear 334 = .ok (.getfield 93, 3) := by decide +kernel
theorem dX9_fillYear_337 : decode cX9_fillYear 337 = .ok (.iload 4, 2) := by decide +kernel
theorem dX9_fillYear_339 : decode cX9_fillYear 339 = .ok (.iaload, 1) := by decide +kernel
theorem dX9_fillYear_340 : decode cX9_fillYear 340 = .ok (.invokevirtual 180, 3) := by decide +kernel
theorem dX9_fillYear_343 : decode cX9_fillYear 343 = .ok (.iload 6, 2) := by decide +kernel
theorem dX9_fillYear_345 : decode cX9_fillYear 345 = .ok (.if_icmp .ne 8, 3) := by decide +kernel
theorem dX9_fillYear_348 : decode cX9_fillYear 348 = .ok (.iload 5, 2) := by decide +kernel
theorem dX9_fillYear_350 : decode cX9_fillYear 350 = .ok (.goto 4, 3) := by decide +kernel
theorem dX9_fillYear_353 : decode cX9_fillYear 353 = .ok (.iconst (-1), 1) := by decide +kernel
theorem dX9_fillYear_354 : decode cX9_fillYear 354 = .ok (.iastore, 1) := by decide +kernel
theorem dX9_fillYear_355 : decode cX9_fillYear 355 = .ok (.goto (-246), 3) := by decide +kernel
theorem dX9_fillYear_358 : decode cX9_fillYear 358 = .ok (.iload_n 3, 1) := by decide +kernel
theorem dX9_fillYear_359 : decode cX9_fillYear 359 = .ok (.ireturn, 1) := by decide +kernel
theorem dX9_fillings_0 : decode cX9_fillings 0 = .ok (.aload_n 0, 1) := by decide +kernel
theorem dX9_fillings_1 : decode cX9_fillings 1 = .ok (.iload_n 1, 1) := by decide +kernel
theorem dX9_fillings_2 : decode cX9_fillings 2 = .ok (.invokevirtual 159, 3) := by decide +kernel
theorem dX9_fillings_5 : decode cX9_fillings 5 = .ok (.ifCond .eq 12, 3) := by decide +kernel
theorem dX9_fillings_8 : decode cX9_fillings 8 = .ok (.aload_n 0, 1) := by decide +kernel
theorem dX9_fillings_9 : decode cX9_fillings 9 = .ok (.iload_n 1, 1) := by decide +kernel
theorem dX9_fillings_10 : decode cX9_fillings 10 = .ok (.iconst 1, 1) := by decide +kernel
theorem dX9_fillings_11 : decode cX9_fillings 11 = .ok (.invokevirtual 226, 3) := by decide +kernel
theorem dX9_fillings_14 : decode cX9_fillings 14 = .ok (.goto 4, 3) := by decide +kernel
theorem dX9_fillings_17 : decode cX9_fillings 17 = .ok (.iconst (-1), 1) := by decide +kernel
theorem dX9_fillings_18 : decode cX9_fillings 18 = .ok (.ireturn, 1) := by decide +kernel
theorem dX9_fill_0 : decode cX9_fill 0 = .ok (.aload_n 0, 1) := by decide +kernel
theorem dX9_fill_1 : decode cX9_fill 1 = .ok (.iload_n 1, 1) := by decide +kernel
theorem dX9_fill_2 : decode cX9_fill 2 = .ok (.invokevirtual 159, 3) := by decide +kernel
theorem dX9_fill_5 : decode cX9_fill 5 = .ok (.ifCond .ne 5, 3) := by decide +kernel
theorem dX9_fill_8 : decode cX9_fill 8 = .ok (.iconst (-1), 1) := by decide +kernel
theorem dX9_fill_9 : decode cX9_fill 9 = .ok (.ireturn, 1) := by decide +kernel
theorem dX9_fill_10 : decode cX9_fill 10 = .ok (.aload_n 0, 1) := by decide +kernel
theorem dX9_fill_11 : decode cX9_fill 11 = .ok (.iload_n 1, 1) := by decide +kernel
theorem dX9_fill_12 : decode cX9_fill 12 = .ok (.iconst 0, 1) := by decide +kernel
theorem dX9_fill_13 : decode cX9_fill 13 = .ok (.invokevirtual 226, 3) := by decide +kernel
theorem dX9_fill_16 : decode cX9_fill 16 = .ok (.istore_n 2, 1) := by decide +kernel
theorem dX9_fill_17 : decode cX9_fill 17 = .ok (.iload_n 2, 1) := by decide +kernel
theorem dX9_fill_18 : decode cX9_fill 18 = .ok (.bipush (-8), 2) := by decide +kernel
theorem dX9_fill_20 : decode cX9_fill 20 = .ok (.if_icmp .ne 8, 3) := by decide +kernel
theorem dX9_fill_23 : decode cX9_fill 23 = .ok (.bipush (-8), 2) := by decide +kernel
theorem dX9_fill_25 : decode cX9_fill 25 = .ok (.goto 16, 3) := by decide +kernel
theorem dX9_fill_28 : decode cX9_fill 28 = .ok (.iload_n 2, 1) := by decide +kernel
theorem dX9_fill_29 : decode cX9_fill 29 = .ok (.ifCond .ne 8, 3) := by decide +kernel
theorem dX9_fill_32 : decode cX9_fill 32 = .ok (.bipush (-9), 2) := by decide +kernel
theorem dX9_fill_34 : decode cX9_fill 34 = .ok (.goto 7, 3) := by decide +kernel
theorem dX9_fill_37 : decode cX9_fill 37 = .ok (.aload_n 0, 1) := by decide +kernel
theorem dX9_fill_38 : decode cX9_fill 38 = .ok (.getfield 78, 3) := by decide +kernel
theorem dX9_fill_41 : decode cX9_fill 41 = .ok (.ireturn, 1) := by decide +kernel
theorem dX9_among_0 : decode cX9_among 0 = .ok (.aload_n 0, 1) := by decide +kernel
theorem dX9_among_1 : decode cX9_among 1 = .ok (.iload_n 1, 1) := by decide +kernel
theorem dX9_among_2 : decode cX9_among 2 = .ok (.invokevirtual 155, 3) := by decide +kernel
theorem dX9_among_5 : decode cX9_among 5 = .ok (.ifCond .eq 19, 3) := by decide +kernel
theorem dX9_among_8 : decode cX9_among 8 = .ok (.aload_n 0, 1) := by decide +kernel
theorem dX9_among_9 : decode cX9_among 9 = .ok (.iload_n 2, 1) := by decide +kernel
theorem dX9_among_10 : decode cX9_among 10 = .ok (.invokevirtual 162, 3) := by decide +kernel
theorem dX9_among_13 : decode cX9_among 13 = .ok (.ifCond .eq 11, 3) := by decide +kernel
theorem dX9_among_16 : decode cX9_among 16 = .ok (.aload_n 0, 1) := by decide +kernel
theorem dX9_among_17 : decode cX9_among 17 = .ok (.iload_n 3, 1) := by decide +kernel
theorem dX9_among_18 : decode cX9_among 18 = .ok (.invokevirtual 159, 3) := by decide +kernel
theorem dX9_among_21 : decode cX9_among 21 = .ok (.ifCond .ne 5, 3) := by decide +kernel
theorem dX9_among_24 : decode cX9_among 24 = .ok (.iconst (-1), 1) := by decide +kernel
theorem dX9_among_25 : decode cX9_among 25 = .ok (.ireturn, 1) := by decide +kernel
theorem dX9_among_26 : decode cX9_among 26 = .ok (.aload_n 0, 1) := by decide +kernel
theorem dX9_among_27 : decode cX9_among 27 = .ok (.iload_n 1, 1) := by decide +kernel
theorem dX9_among_28 : decode cX9_among 28 = .ok (.putfield 84, 3) := by decide +kernel
theorem dX9_among_31 : decode cX9_among 31 = .ok (.aload_n 0, 1) := by decide +kernel
theorem dX9_among_32 : decode cX9_among 32 = .ok (.iload_n 2, 1) := by decide +kernel
theorem dX9_among_33 : decode cX9_among 33 = .ok (.putfield 87, 3) := by decide +kernel
theorem dX9_among_36 : decode cX9_among 36 = .ok (.aload_n 0, 1) := by decide +kernel
theorem dX9_among_37 : decode cX9_among 37 = .ok (.iload_n 3, 1) := by decide +kernel
theorem dX9_among_38 : decode cX9_among 38 = .ok (.iconst 1, 1) := by decide +kernel
theorem dX9_among_39 : decode cX9_among 39 = .ok (.invokevirtual 226, 3) := by decide +kernel
theorem dX9_among_42 : decode cX9_among 42 = .ok (.bipush (-8), 2) := by decide +kernel
theorem dX9_among_44 : decode cX9_among 44 = .ok (.if_icmp .ne 8, 3) := by decide +kernel
theorem dX9_among_47 : decode cX9_among 47 = .ok (.bipush (-8), 2) := by decide +kernel
theorem dX9_among_49 : decode cX9_among 49 = .ok (.goto 7, 3) := by decide +kernel
theorem dX9_among_52 : decode cX9_among 52 = .ok (.aload_n 0, 1) := by decide +kernel
theorem dX9_among_53 : decode cX9_among 53 = .ok (.getfield 90, 3) := by decide +kernel
theorem dX9_among_56 : decode cX9_among 56 = .ok (.ireturn, 1) := by decide +kernel
theorem dX9_draw_0 : decode cX9_draw 0 = .ok (.lload_n 2, 1) := by decide +kernel
theorem dX9_draw_1 : decode cX9_draw 1 = .ok (.lstore 4, 2) := by decide +kernel
theorem dX9_draw_3 : decode cX9_draw 3 = .ok (.iconst 0, 1) := by decide +kernel
theorem dX9_draw_4 : decode cX9_draw 4 = .ok (.istore 6, 2) := by decide +kernel
theorem dX9_draw_6 : decode cX9_draw 6 = .ok (.iload 6, 2) := by decide +kernel
theorem dX9_draw_8 : decode cX9_draw 8 = .ok (.iload_n 1, 1) := by decide +kernel
theorem dX9_draw_9 : decode cX9_draw 9 = .ok (.if_icmp .ge 18, 3) := by decide +kernel
theorem dX9_draw_12 : decode cX9_draw 12 = .ok (.aload_n 0, 1) := by decide +kernel
theorem dX9_draw_13 : decode cX9_draw 13 = .ok (.getfield 111, 3) := by decide +kernel
theorem dX9_draw_16 : decode cX9_draw 16 = .ok (.iload 6, 2) := by decide +kernel
theorem dX9_draw_18 : decode cX9_draw 18 = .ok (.iload 6, 2) := by decide +kernel
theorem dX9_draw_20 : decode cX9_draw 20 = .ok (.iastore, 1) := by decide +kernel
theorem dX9_draw_21 : decode cX9_draw 21 = .ok (.iinc 6 1, 3) := by decide +kernel
theorem dX9_draw_24 : decode cX9_draw 24 = .ok (.goto (-18), 3) := by decide +kernel
theorem dX9_draw_27 : decode cX9_draw 27 = .ok (.iconst 0, 1) := by decide +kernel
theorem dX9_draw_28 : decode cX9_draw 28 = .ok (.istore 6, 2) := by decide +kernel
theorem dX9_draw_30 : decode cX9_draw 30 = .ok (.iload 6, 2) := by decide +kernel
theorem dX9_draw_32 : decode cX9_draw 32 = .ok (.iload_n 1, 1) := by decide +kernel
theorem dX9_draw_33 : decode cX9_draw 33 = .ok (.if_icmp .ge 81, 3) := by decide +kernel
theorem dX9_draw_36 : decode cX9_draw 36 = .ok (.iload_n 1, 1) := by decide +kernel
theorem dX9_draw_37 : decode cX9_draw 37 = .ok (.iload 6, 2) := by decide +kernel
theorem dX9_draw_39 : decode cX9_draw 39 = .ok (.isub, 1) := by decide +kernel
theorem dX9_draw_40 : decode cX9_draw 40 = .ok (.istore 7, 2) := by decide +kernel
theorem dX9_draw_42 : decode cX9_draw 42 = .ok (.lload 4, 2) := by decide +kernel
theorem dX9_draw_44 : decode cX9_draw 44 = .ok (.iload 7, 2) := by decide +kernel
theorem dX9_draw_46 : decode cX9_draw 46 = .ok (.i2l, 1) := by decide +kernel
theorem dX9_draw_47 : decode cX9_draw 47 = .ok (.lrem, 1) := by decide +kernel
theorem dX9_draw_48 : decode cX9_draw 48 = .ok (.l2i, 1) := by decide +kernel
theorem dX9_draw_49 : decode cX9_draw 49 = .ok (.istore 8, 2) := by decide +kernel
theorem dX9_draw_51 : decode cX9_draw 51 = .ok (.lload 4, 2) := by decide +kernel
theorem dX9_draw_53 : decode cX9_draw 53 = .ok (.iload 7, 2) := by decide +kernel
theorem dX9_draw_55 : decode cX9_draw 55 = .ok (.i2l, 1) := by decide +kernel
theorem dX9_draw_56 : decode cX9_draw 56 = .ok (.ldiv, 1) := by decide +kernel
theorem dX9_draw_57 : decode cX9_draw 57 = .ok (.lstore 4, 2) := by decide +kernel
theorem dX9_draw_59 : decode cX9_draw 59 = .ok (.aload_n 0, 1) := by decide +kernel
theorem dX9_draw_60 : decode cX9_draw 60 = .ok (.getfield 108, 3) := by decide +kernel
theorem dX9_draw_63 : decode cX9_draw 63 = .ok (.iload 6, 2) := by decide +kernel
theorem dX9_draw_65 : decode cX9_draw 65 = .ok (.aload_n 0, 1) := by decide +kernel
theorem dX9_draw_66 : decode cX9_draw 66 = .ok (.getfield 111, 3) := by decide +kernel
theorem dX9_draw_69 : decode cX9_draw 69 = .ok (.iload 8, 2) := by decide +kernel
theorem dX9_draw_71 : decode cX9_draw 71 = .ok (.iaload, 1) := by decide +kernel
theorem dX9_draw_72 : decode cX9_draw 72 = .ok (.iastore, 1) := by decide +kernel
theorem dX9_draw_73 : decode cX9_draw 73 = .ok (.iload 8, 2) := by decide +kernel
theorem dX9_draw_75 : decode cX9_draw 75 = .ok (.istore 9, 2) := by decide +kernel
theorem dX9_draw_77 : decode cX9_draw 77 = .ok (.iload 9, 2) := by decide +kernel
theorem dX9_draw_79 : decode cX9_draw 79 = .ok (.iload 7, 2) := by decide +kernel
theorem dX9_draw_81 : decode cX9_draw 81 = .ok (.iconst 1, 1) := by decide +kernel
theorem dX9_draw_82 : decode cX9_draw 82 = .ok (.isub, 1) := by decide +kernel
theorem dX9_draw_83 : decode cX9_draw 83 = .ok (.if_icmp .ge 25, 3) := by decide +kernel
theorem dX9_draw_86 : decode cX9_draw 86 = .ok (.aload_n 0, 1) := by decide +kernel
theorem dX9_draw_87 : decode cX9_draw 87 = .ok (.getfield 111, 3) := by decide +kernel
theorem dX9_draw_90 : decode cX9_draw 90 = .ok (.iload 9, 2) := by decide +kernel
theorem dX9_draw_92 : decode cX9_draw 92 = .ok (.aload_n 0, 1) := by decide +kernel
theorem dX9_draw_93 : decode cX9_draw 93 = .ok (.getfield 111, 3) := by decide +kernel
theorem dX9_draw_96 : decode cX9_draw 96 = .ok (.iload 9, 2) := by decide +kernel
theorem dX9_draw_98 : decode cX9_draw 98 = .ok (.iconst 1, 1) := by decide +kernel
theorem dX9_draw_99 : decode cX9_draw 99 = .ok (.iadd, 1) := by decide +kernel
theorem dX9_draw_100 : decode cX9_draw 100 = .ok (.iaload, 1) := by decide +kernel
theorem dX9_draw_101 : decode cX9_draw 101 = .ok (.iastore, 1) := by decide +kernel
theorem dX9_draw_102 : decode cX9_draw 102 = .ok (.iinc 9 1, 3) := by decide +kernel
theorem dX9_draw_105 : decode cX9_draw 105 = .ok (.goto (-28), 3) := by decide +kernel
theorem dX9_draw_108 : decode cX9_draw 108 = .ok (.iinc 6 1, 3) := by decide +kernel
theorem dX9_draw_111 : decode cX9_draw 111 = .ok (.goto (-81), 3) := by decide +kernel
theorem dX9_draw_114 : decode cX9_draw 114 = .ok (.return_, 1) := by decide +kernel
theorem dX9_election_0 : decode cX9_election 0 = .ok (.aload_n 0, 1) := by decide +kernel
theorem dX9_election_1 : decode cX9_election 1 = .ok (.iload_n 1, 1) := by decide +kernel
theorem dX9_election_2 : decode cX9_election 2 = .ok (.iconst 2, 1) := by decide +kernel
theorem dX9_election_3 : decode cX9_election 3 = .ok (.iconst 4, 1) := by decide +kernel
theorem dX9_election_4 : decode cX9_election 4 = .ok (.invokevirtual 147, 3) := by decide +kernel
theorem dX9_election_7 : decode cX9_election 7 = .ok (.ifCond .eq 18, 3) := by decide +kernel
theorem dX9_election_10 : decode cX9_election 10 = .ok (.aload_n 0, 1) := by decide +kernel
theorem dX9_election_11 : decode cX9_election 11 = .ok (.iload_n 2, 1) := by decide +kernel
theorem dX9_election_12 : decode cX9_election 12 = .ok (.iconst 1, 1) := by decide +kernel
theorem dX9_election_13 : decode cX9_election 13 = .ok (.iconst 2, 1) := by decide +kernel
theorem dX9_election_14 : decode cX9_election 14 = .ok (.invokevirtual 147, 3) := by decide +kernel
theorem dX9_election_17 : decode cX9_election 17 = .ok (.ifCond .eq 8, 3) := by decide +kernel
theorem dX9_election_20 : decode cX9_election 20 = .ok (.iload_n 2, 1) := by decide +kernel
theorem dX9_election_21 : decode cX9_election 21 = .ok (.iload_n 1, 1) := by decide +kernel
theorem dX9_election_22 : decode cX9_election 22 = .ok (.if_icmp .lt 5, 3) := by decide +kernel
theorem dX9_election_25 : decode cX9_election 25 = .ok (.iconst (-1), 1) := by decide +kernel
theorem dX9_election_26 : decode cX9_election 26 = .ok (.ireturn, 1) := by decide +kernel
theorem dX9_election_27 : decode cX9_election 27 = .ok (.aload_n 0, 1) := by decide +kernel
theorem dX9_election_28 : decode cX9_election 28 = .ok (.invokevirtual 230, 3) := by decide +kernel
theorem dX9_election_31 : decode cX9_election 31 = .ok (.istore_n 3, 1) := by decide +kernel
theorem dX9_election_32 : decode cX9_election 32 = .ok (.aload_n 0, 1) := by decide +kernel
theorem dX9_election_33 : decode cX9_election 33 = .ok (.iload_n 1, 1) := by decide +kernel
theorem dX9_election_34 : decode cX9_election 34 = .ok (.putfield 99, 3) := by decide +kernel
theorem dX9_election_37 : decode cX9_election 37 = .ok (.aload_n 0, 1) := by decide +kernel
theorem dX9_election_38 : decode cX9_election 38 = .ok (.iload_n 2, 1) := by decide +kernel
theorem dX9_election_39 : decode cX9_election 39 = .ok (.putfield 102, 3) := by decide +kernel
theorem dX9_election_42 : decode cX9_election 42 = .ok (.iconst 0, 1) := by decide +kernel
theorem dX9_election_43 : decode cX9_election 43 = .ok (.istore 4, 2) := by decide +kernel
theorem dX9_election_45 : decode cX9_election 45 = .ok (.iload 4, 2) := by decide +kernel
theorem dX9_election_47 : decode cX9_election 47 = .ok (.bipush 35, 2) := by decide +kernel
theorem dX9_election_49 : decode cX9_election 49 = .ok (.if_icmp .ge 17, 3) := by decide +kernel
theorem dX9_election_52 : decode cX9_election 52 = .ok (.aload_n 0, 1) := by decide +kernel
theorem dX9_election_53 : decode cX9_election 53 = .ok (.getfield 105, 3) := by decide +kernel
theorem dX9_election_56 : decode cX9_election 56 = .ok (.iload 4, 2) := by decide +kernel
theorem dX9_election_58 : decode cX9_election 58 = .ok (.iconst 0, 1) := by decide +kernel
theorem dX9_election_59 : decode cX9_election 59 = .ok (.iastore, 1) := by decide +kernel
theorem dX9_election_60 : decode cX9_election 60 = .ok (.iinc 4 1, 3) := by decide +kernel
theorem dX9_election_63 : decode cX9_election 63 = .ok (.goto (-18), 3) := by decide +kernel
theorem dX9_election_66 : decode cX9_election 66 = .ok (.iload_n 3, 1) := by decide +kernel
theorem dX9_election_67 : decode cX9_election 67 = .ok (.ireturn, 1) := by decide +kernel
theorem dX9_voted_0 : decode cX9_voted 0 = .ok (.iconst 0, 1) := by decide +kernel
theorem dX9_voted_1 : decode cX9_voted 1 = .ok (.istore_n 1, 1) := by decide +kernel
theorem dX9_voted_2 : decode cX9_voted 2 = .ok (.iconst 0, 1) := by decide +kernel
theorem dX9_voted_3 : decode cX9_voted 3 = .ok (.istore_n 2, 1) := by decide +kernel
theorem dX9_voted_4 : decode cX9_voted 4 = .ok (.iload_n 2, 1) := by decide +kernel
theorem dX9_voted_5 : decode cX9_voted 5 = .ok (.bipush 35, 2) := by decide +kernel
theorem dX9_voted_7 : decode cX9_voted 7 = .ok (.if_icmp .ge 26, 3) := by decide +kernel
theorem dX9_voted_10 : decode cX9_voted 10 = .ok (.iload_n 1, 1) := by decide +kernel
theorem dX9_voted_11 : decode cX9_voted 11 = .ok (.aload_n 0, 1) := by decide +kernel
theorem dX9_voted_12 : decode cX9_voted 12 = .ok (.getfield 105, 3) := by decide +kernel
theorem dX9_voted_15 : decode cX9_voted 15 = .ok (.iload_n 2, 1) := by decide +kernel
theorem dX9_voted_16 : decode cX9_voted 16 = .ok (.iaload, 1) := by decide +kernel
theorem dX9_voted_17 : decode cX9_voted 17 = .ok (.ifCond .ne 7, 3) := by decide +kernel
theorem dX9_voted_20 : decode cX9_voted 20 = .ok (.iconst 0, 1) := by decide +kernel
theorem dX9_voted_21 : decode cX9_voted 21 = .ok (.goto 4, 3) := by decide +kernel
theorem dX9_voted_24 : decode cX9_voted 24 = .ok (.iconst 1, 1) := by decide +kernel
theorem dX9_voted_25 : decode cX9_voted 25 = .ok (.iadd, 1) := by decide +kernel
theorem dX9_voted_26 : decode cX9_voted 26 = .ok (.istore_n 1, 1) := by decide +kernel
theorem dX9_voted_27 : decode cX9_voted 27 = .ok (.iinc 2 1, 3) := by decide +kernel
theorem dX9_voted_30 : decode cX9_voted 30 = .ok (.goto (-26), 3) := by decide +kernel
theorem dX9_voted_33 : decode cX9_voted 33 = .ok (.iload_n 1, 1) := by decide +kernel
theorem dX9_voted_34 : decode cX9_voted 34 = .ok (.ireturn, 1) := by decide +kernel
theorem dX9_ones_0 : decode cX9_ones 0 = .ok (.iload_n 1, 1) := by decide +kernel
theorem dX9_ones_1 : decode cX9_ones 1 = .ok (.iconst 1, 1) := by decide +kernel
theorem dX9_ones_2 : decode cX9_ones 2 = .ok (.iand, 1) := by decide +kernel
theorem dX9_ones_3 : decode cX9_ones 3 = .ok (.iload_n 1, 1) := by decide +kernel
theorem dX9_ones_4 : decode cX9_ones 4 = .ok (.iconst 1, 1) := by decide +kernel
theorem dX9_ones_5 : decode cX9_ones 5 = .ok (.ishr, 1) := by decide +kernel
theorem dX9_ones_6 : decode cX9_ones 6 = .ok (.iconst 1, 1) := by decide +kernel
theorem dX9_ones_7 : decode cX9_ones 7 = .ok (.iand, 1) := by decide +kernel
theorem dX9_ones_8 : decode cX9_ones 8 = .ok (.iadd, 1) := by decide +kernel
theorem dX9_ones_9 : decode cX9_ones 9 = .ok (.iload_n 1, 1) := by decide +kernel
theorem dX9_ones_10 : decode cX9_ones 10 = .ok (.iconst 2, 1) := by decide +kernel
theorem dX9_ones_11 : decode cX9_ones 11 = .ok (.ishr, 1) := by decide +kernel
theorem dX9_ones_12 : decode cX9_ones 12 = .ok (.iconst 1, 1) := by decide +kernel
theorem dX9_ones_13 : decode cX9_ones 13 = .ok (.iand, 1) := by decide +kernel
theorem dX9_ones_14 : decode cX9_ones 14 = .ok (.iadd, 1) := by decide +kernel
theorem dX9_ones_15 : decode cX9_ones 15 = .ok (.iload_n 1, 1) := by decide +kernel
theorem dX9_ones_16 : decode cX9_ones 16 = .ok (.iconst 3, 1) := by decide +kernel
theorem dX9_ones_17 : decode cX9_ones 17 = .ok (.ishr, 1) := by decide +kernel
theorem dX9_ones_18 : decode cX9_ones 18 = .ok (.iconst 1, 1) := by decide +kernel
theorem dX9_ones_19 : decode cX9_ones 19 = .ok (.iand, 1) := by decide +kernel
theorem dX9_ones_20 : decode cX9_ones 20 = .ok (.iadd, 1) := by decide +kernel
theorem dX9_ones_21 : decode cX9_ones 21 = .ok (.ireturn, 1) := by decide +kernel
theorem dX9_vote_0 : decode cX9_vote 0 = .ok (.aload_n 0, 1) := by decide +kernel
theorem dX9_vote_1 : decode cX9_vote 1 = .ok (.iload_n 1, 1) := by decide +kernel
theorem dX9_vote_2 : decode cX9_vote 2 = .ok (.iconst 0, 1) := by decide +kernel
theorem dX9_vote_3 : decode cX9_vote 3 = .ok (.bipush 34, 2) := by decide +kernel
theorem dX9_vote_5 : decode cX9_vote 5 = .ok (.invokevirtual 147, 3) := by decide +kernel
theorem dX9_vote_8 : decode cX9_vote 8 = .ok (.ifCond .eq 32, 3) := by decide +kernel
theorem dX9_vote_11 : decode cX9_vote 11 = .ok (.aload_n 0, 1) := by decide +kernel
theorem dX9_vote_12 : decode cX9_vote 12 = .ok (.iload_n 2, 1) := by decide +kernel
theorem dX9_vote_13 : decode cX9_vote 13 = .ok (.iconst 0, 1) := by decide +kernel
theorem dX9_vote_14 : decode cX9_vote 14 = .ok (.iconst 1, 1) := by decide +kernel
theorem dX9_vote_15 : decode cX9_vote 15 = .ok (.aload_n 0, 1) := by decide +kernel
theorem dX9_vote_16 : decode cX9_vote 16 = .ok (.getfield 99, 3) := by decide +kernel
theorem dX9_vote_19 : decode cX9_vote 19 = .ok (.ishl, 1) := by decide +kernel
theorem dX9_vote_20 : decode cX9_vote 20 = .ok (.iconst 1, 1) := by decide +kernel
theorem dX9_vote_21 : decode cX9_vote 21 = .ok (.isub, 1) := by decide +kernel
theorem dX9_vote_22 : decode cX9_vote 22 = .ok (.invokevirtual 147, 3) := by decide +kernel
theorem dX9_vote_25 : decode cX9_vote 25 = .ok (.ifCond .eq 15, 3) := by decide +kernel
theorem dX9_vote_28 : decode cX9_vote 28 = .ok (.aload_n 0, 1) := by decide +kernel
theorem dX9_vote_29 : decode cX9_vote 29 = .ok (.iload_n 2, 1) := by decide +kernel
theorem dX9_vote_30 : decode cX9_vote 30 = .ok (.invokevirtual 234, 3) := by decide +kernel
theorem dX9_vote_33 : decode cX9_vote 33 = .ok (.aload_n 0, 1) := by decide +kernel
theorem dX9_vote_34 : decode cX9_vote 34 = .ok (.getfield 102, 3) := by decide +kernel
theorem dX9_vote_37 : decode cX9_vote 37 = .ok (.if_icmp .eq 5, 3) := by decide +kernel
theorem dX9_vote_40 : decode cX9_vote 40 = .ok (.iconst (-1), 1) := by decide +kernel
theorem dX9_vote_41 : decode cX9_vote 41 = .ok (.ireturn, 1) := by decide +kernel
theorem dX9_vote_42 : decode cX9_vote 42 = .ok (.aload_n 0, 1) := by decide +kernel
theorem dX9_vote_43 : decode cX9_vote 43 = .ok (.getfield 105, 3) := by decide +kernel
theorem dX9_vote_46 : decode cX9_vote 46 = .ok (.iload_n 1, 1) := by decide +kernel
theorem dX9_vote_47 : decode cX9_vote 47 = .ok (.iaload, 1) := by decide +kernel
theorem dX9_vote_48 : decode cX9_vote 48 = .ok (.iload_n 2, 1) := by decide +kernel
theorem dX9_vote_49 : decode cX9_vote 49 = .ok (.if_icmp .ne 7, 3) := by decide +kernel
theorem dX9_vote_52 : decode cX9_vote 52 = .ok (.iconst 0, 1) := by decide +kernel
theorem dX9_vote_53 : decode cX9_vote 53 = .ok (.goto 4, 3) := by decide +kernel
theorem dX9_vote_56 : decode cX9_vote 56 = .ok (.iconst 1, 1) := by decide +kernel
theorem dX9_vote_57 : decode cX9_vote 57 = .ok (.istore_n 3, 1) := by decide +kernel
theorem dX9_vote_58 : decode cX9_vote 58 = .ok (.aload_n 0, 1) := by decide +kernel
theorem dX9_vote_59 : decode cX9_vote 59 = .ok (.getfield 105, 3) := by decide +kernel
theorem dX9_vote_62 : decode cX9_vote 62 = .ok (.iload_n 1, 1) := by decide +kernel
theorem dX9_vote_63 : decode cX9_vote 63 = .ok (.iload_n 2, 1) := by decide +kernel
theorem dX9_vote_64 : decode cX9_vote 64 = .ok (.iastore, 1) := by decide +kernel
theorem dX9_vote_65 : decode cX9_vote 65 = .ok (.iload_n 3, 1) := by decide +kernel
theorem dX9_vote_66 : decode cX9_vote 66 = .ok (.ireturn, 1) := by decide +kernel
theorem dX9_choose_0 : decode cX9_choose 0 = .ok (.aload_n 0, 1) := by decide +kernel
theorem dX9_choose_1 : decode cX9_choose 1 = .ok (.getfield 120, 3) := by decide +kernel
theorem dX9_choose_4 : decode cX9_choose 4 = .ok (.aload_n 0, 1) := by decide +kernel
theorem dX9_choose_5 : decode cX9_choose 5 = .ok (.getfield 126, 3) := by decide +kernel
theorem dX9_choose_8 : decode cX9_choose 8 = .ok (.iload_n 1, 1) := by decide +kernel
theorem dX9_choose_9 : decode cX9_choose 9 = .ok (.iastore, 1) := by decide +kernel
theorem dX9_choose_10 : decode cX9_choose 10 = .ok (.aload_n 0, 1) := by decide +kernel
theorem dX9_choose_11 : decode cX9_choose 11 = .ok (.getfield 123, 3) := by decide +kernel
theorem dX9_choose_14 : decode cX9_choose 14 = .ok (.aload_n 0, 1) := by decide +kernel
theorem dX9_choose_15 : decode cX9_choose 15 = .ok (.getfield 126, 3) := by decide +kernel
theorem dX9_choose_18 : decode cX9_choose 18 = .ok (.iload_n 2, 1) := by decide +kernel
theorem dX9_choose_19 : decode cX9_choose 19 = .ok (.iastore, 1) := by decide +kernel
theorem dX9_choose_20 : decode cX9_choose 20 = .ok (.aload_n 0, 1) := by decide +kernel
theorem dX9_choose_21 : decode cX9_choose 21 = .ok (.getfield 129, 3) := by decide +kernel
theorem dX9_choose_24 : decode cX9_choose 24 = .ok (.iload_n 1, 1) := by decide +kernel
theorem dX9_choose_25 : decode cX9_choose 25 = .ok (.iconst 1, 1) := by decide +kernel
theorem dX9_choose_26 : decode cX9_choose 26 = .ok (.bastore, 1) := by decide +kernel
theorem dX9_choose_27 : decode cX9_choose 27 = .ok (.aload_n 0, 1) := by decide +kernel
theorem dX9_choose_28 : decode cX9_choose 28 = .ok (.dup, 1) := by decide +kernel
theorem dX9_choose_29 : decode cX9_choose 29 = .ok (.getfield 126, 3) := by decide +kernel
theorem dX9_choose_32 : decode cX9_choose 32 = .ok (.iconst 1, 1) := by decide +kernel
theorem dX9_choose_33 : decode cX9_choose 33 = .ok (.iadd, 1) := by decide +kernel
theorem dX9_choose_34 : decode cX9_choose 34 = .ok (.putfield 126, 3) := by decide +kernel
theorem dX9_choose_37 : decode cX9_choose 37 = .ok (.return_, 1) := by decide +kernel
theorem dX9_beginVotes_0 : decode cX9_beginVotes 0 = .ok (.aload_n 0, 1) := by decide +kernel
theorem dX9_beginVotes_1 : decode cX9_beginVotes 1 = .ok (.iconst 0, 1) := by decide +kernel
theorem dX9_beginVotes_2 : decode cX9_beginVotes 2 = .ok (.putfield 126, 3) := by decide +kernel
theorem dX9_beginVotes_5 : decode cX9_beginVotes 5 = .ok (.iconst 0, 1) := by decide +kernel
theorem dX9_beginVotes_6 : decode cX9_beginVotes 6 = .ok (.istore_n 1, 1) := by decide +kernel
theorem dX9_beginVotes_7 : decode cX9_beginVotes 7 = .ok (.iload_n 1, 1) := by decide +kernel
theorem dX9_beginVotes_8 : decode cX9_beginVotes 8 = .ok (.iconst 4, 1) := by decide +kernel
theorem dX9_beginVotes_9 : decode cX9_beginVotes 9 = .ok (.if_icmp .ge 30, 3) := by decide +kernel
theorem dX9_beginVotes_12 : decode cX9_beginVotes 12 = .ok (.aload_n 0, 1) := by decide +kernel
theorem dX9_beginVotes_13 : decode cX9_beginVotes 13 = .ok (.getfield 114, 3) := by decide +kernel
theorem dX9_beginVotes_16 : decode cX9_beginVotes 16 = .ok (.iload_n 1, 1) := by decide +kernel
theorem dX9_beginVotes_17 : decode cX9_beginVotes 17 = .ok (.iconst 0, 1) := by decide +kernel
theorem dX9_beginVotes_18 : decode cX9_beginVotes 18 = .ok (.iastore, 1) := by decide +kernel
theorem dX9_beginVotes_19 : decode cX9_beginVotes 19 = .ok (.aload_n 0, 1) := by decide +kernel
theorem dX9_beginVotes_20 : decode cX9_beginVotes 20 = .ok (.getfield 117, 3) := by decide +kernel
theorem dX9_beginVotes_23 : decode cX9_beginVotes 23 = .ok (.iload_n 1, 1) := by decide +kernel
theorem dX9_beginVotes_24 : decode cX9_beginVotes 24 = .ok (.iconst 0, 1) := by decide +kernel
theorem dX9_beginVotes_25 : decode cX9_beginVotes 25 = .ok (.iastore, 1) := by decide +kernel
theorem dX9_beginVotes_26 : decode cX9_beginVotes 26 = .ok (.aload_n 0, 1) := by decide +kernel
theorem dX9_beginVotes_27 : decode cX9_beginVotes 27 = .ok (.getfield 129, 3) := by decide +kernel
theorem dX9_beginVotes_30 : decode cX9_beginVotes 30 = .ok (.iload_n 1, 1) := by decide +kernel
theorem dX9_beginVotes_31 : decode cX9_beginVotes 31 = .ok (.iconst 0, 1) := by decide +kernel
theorem dX9_beginVotes_32 : decode cX9_beginVotes 32 = .ok (.bastore, 1) := by decide +kernel
theorem dX9_beginVotes_33 : decode cX9_beginVotes 33 = .ok (.iinc 1 1, 3) := by decide +kernel
theorem dX9_beginVotes_36 : decode cX9_beginVotes 36 = .ok (.goto (-29), 3) := by decide +kernel
theorem dX9_beginVotes_39 : decode cX9_beginVotes 39 = .ok (.return_, 1) := by decide +kernel
theorem dX9_unitVotes_0 : decode cX9_unitVotes 0 = .ok (.iconst 0, 1) := by decide +kernel
theorem dX9_unitVotes_1 : decode cX9_unitVotes 1 = .ok (.istore_n 2, 1) := by decide +kernel
theorem dX9_unitVotes_2 : decode cX9_unitVotes 2 = .ok (.iload_n 2, 1) := by decide +kernel
theorem dX9_unitVotes_3 : decode cX9_unitVotes 3 = .ok (.aload_n 0, 1) := by decide +kernel
theorem dX9_unitVotes_4 : decode cX9_unitVotes 4 = .ok (.getfield 99, 3) := by decide +kernel
theorem dX9_unitVotes_7 : decode cX9_unitVotes 7 = .ok (.if_icmp .ge 79, 3) := by decide +kernel
theorem dX9_unitVotes_10 : decode cX9_unitVotes 10 = .ok (.aload_n 0, 1) := by decide +kernel
theorem dX9_unitVotes_11 : decode cX9_unitVotes 11 = .ok (.getfield 105, 3) := by decide +kernel
theorem dX9_unitVotes_14 : decode cX9_unitVotes 14 = .ok (.aload_n 0, 1) := by decide +kernel
theorem dX9_unitVotes_15 : decode cX9_unitVotes 15 = .ok (.getfield 108, 3) := by decide +kernel
theorem dX9_unitVotes_18 : decode cX9_unitVotes 18 = .ok (.iload_n 1, 1) := by decide +kernel
theorem dX9_unitVotes_19 : decode cX9_unitVotes 19 = .ok (.iaload, 1) := by decide +kernel
theorem dX9_unitVotes_20 : decode cX9_unitVotes 20 = .ok (.iaload, 1) := by decide +kernel
theorem dX9_unitVotes_21 : decode cX9_unitVotes 21 = .ok (.iload_n 2, 1) := by decide +kernel
theorem dX9_unitVotes_22 : decode cX9_unitVotes 22 = .ok (.ishr, 1) := by decide +kernel
theorem dX9_unitVotes_23 : decode cX9_unitVotes 23 = .ok (.iconst 1, 1) := by decide +kernel
theorem dX9_unitVotes_24 : decode cX9_unitVotes 24 = .ok (.iand, 1) := by decide +kernel
theorem dX9_unitVotes_25 : decode cX9_unitVotes 25 = .ok (.ifCond .ne 6, 3) := by decide +kernel
theorem dX9_unitVotes_28 : decode cX9_unitVotes 28 = .ok (.goto 52, 3) := by decide +kernel
theorem dX9_unitVotes_31 : decode cX9_unitVotes 31 = .ok (.aload_n 0, 1) := by decide +kernel
theorem dX9_unitVotes_32 : decode cX9_unitVotes 32 = .ok (.getfield 114, 3) := by decide +kernel
theorem dX9_unitVotes_35 : decode cX9_unitVotes 35 = .ok (.iload_n 2, 1) := by decide +kernel
theorem dX9_unitVotes_36 : decode cX9_unitVotes 36 = .ok (.dup2, 1) := by decide +kernel
theorem dX9_unitVotes_37 : decode cX9_unitVotes 37 = .ok (.iaload, 1) := by decide +kernel
theorem dX9_unitVotes_38 : decode cX9_unitVotes 38 = .ok (.iconst 1, 1) := by decide +kernel
theorem dX9_unitVotes_39 : decode cX9_unitVotes 39 = .ok (.iadd, 1) := by decide +kernel
theorem dX9_unitVotes_40 : decode cX9_unitVotes 40 = .ok (.iastore, 1) := by decide +kernel
theorem dX9_unitVotes_41 : decode cX9_unitVotes 41 = .ok (.aload_n 0, 1) := by decide +kernel
theorem dX9_unitVotes_42 : decode cX9_unitVotes 42 = .ok (.getfield 117, 3) := by decide +kernel
theorem dX9_unitVotes_45 : decode cX9_unitVotes 45 = .ok (.iload_n 2, 1) := by decide +kernel
theorem dX9_unitVotes_46 : decode cX9_unitVotes 46 = .ok (.iload_n 1, 1) := by decide +kernel
theorem dX9_unitVotes_47 : decode cX9_unitVotes 47 = .ok (.iconst 1, 1) := by decide +kernel
theorem dX9_unitVotes_48 : decode cX9_unitVotes 48 = .ok (.iadd, 1) := by decide +kernel
theorem dX9_unitVotes_49 : decode cX9_unitVotes 49 = .ok (.iastore, 1) := by decide +kernel
theorem dX9_unitVotes_50 : decode cX9_unitVotes 50 = .ok (.aload_n 0, 1) := by decide +kernel
theorem dX9_unitVotes_51 : decode cX9_unitVotes 51 = .ok (.getfield 114, 3) := by decide +kernel
theorem dX9_unitVotes_54 : decode cX9_unitVotes 54 = .ok (.iload_n 2, 1) := by decide +kernel
theorem dX9_unitVotes_55 : decode cX9_unitVotes 55 = .ok (.iaload, 1) := by decide +kernel
theorem dX9_unitVotes_56 : decode cX9_unitVotes 56 = .ok (.bipush 18, 2) := by decide +kernel
theorem dX9_unitVotes_58 : decode cX9_unitVotes 58 = .ok (.if_icmp .ne 22, 3) := by decide +kernel
theorem dX9_unitVotes_61 : decode cX9_unitVotes 61 = .ok (.aload_n 0, 1) := by decide +kernel
theorem dX9_unitVotes_62 : decode cX9_unitVotes 62 = .ok (.getfield 126, 3) := by decide +kernel
theorem dX9_unitVotes_65 : decode cX9_unitVotes 65 = .ok (.aload_n 0, 1) := by decide +kernel
theorem dX9_unitVotes_66 : decode cX9_unitVotes 66 = .ok (.getfield 102, 3) := by decide +kernel
theorem dX9_unitVotes_69 : decode cX9_unitVotes 69 = .ok (.if_icmp .ge 11, 3) := by decide +kernel
theorem dX9_unitVotes_72 : decode cX9_unitVotes 72 = .ok (.aload_n 0, 1) := by decide +kernel
theorem dX9_unitVotes_73 : decode cX9_unitVotes 73 = .ok (.iload_n 2, 1) := by decide +kernel
theorem dX9_unitVotes_74 : decode cX9_unitVotes 74 = .ok (.iload_n 1, 1) := by decide +kernel
theorem dX9_unitVotes_75 : decode cX9_unitVotes 75 = .ok (.iconst 1, 1) := by decide +kernel
theorem dX9_unitVotes_76 : decode cX9_unitVotes 76 = .ok (.iadd, 1) := by decide +kernel
theorem dX9_unitVotes_77 : decode cX9_unitVotes 77 = .ok (.invokevirtual 237, 3) := by decide +kernel
theorem dX9_unitVotes_80 : decode cX9_unitVotes 80 = .ok (.iinc 2 1, 3) := by decide +kernel
theorem dX9_unitVotes_83 : decode cX9_unitVotes 83 = .ok (.goto (-81), 3) := by decide +kernel
theorem dX9_unitVotes_86 : decode cX9_unitVotes 86 = .ok (.return_, 1) := by decide +kernel
theorem dX9_elect_0 : decode cX9_elect 0 = .ok (.aload_n 0, 1) := by decide +kernel
theorem dX9_elect_1 : decode cX9_elect 1 = .ok (.bipush 35, 2) := by decide +kernel
theorem dX9_elect_3 : decode cX9_elect 3 = .ok (.lload_n 1, 1) := by decide +kernel
theorem dX9_elect_4 : decode cX9_elect 4 = .ok (.invokevirtual 240, 3) := by decide +kernel
theorem dX9_elect_7 : decode cX9_elect 7 = .ok (.aload_n 0, 1) := by decide +kernel
theorem dX9_elect_8 : decode cX9_elect 8 = .ok (.invokevirtual 244, 3) := by decide +kernel
theorem dX9_elect_11 : decode cX9_elect 11 = .ok (.iconst 0, 1) := by decide +kernel
theorem dX9_elect_12 : decode cX9_elect 12 = .ok (.istore_n 3, 1) := by decide +kernel
theorem dX9_elect_13 : decode cX9_elect 13 = .ok (.iload_n 3, 1) := by decide +kernel
theorem dX9_elect_14 : decode cX9_elect 14 = .ok (.bipush 35, 2) := by decide +kernel
theorem dX9_elect_16 : decode cX9_elect 16 = .ok (.if_icmp .ge 14, 3) := by decide +kernel
theorem dX9_elect_19 : decode cX9_elect 19 = .ok (.aload_n 0, 1) := by decide +kernel
theorem dX9_elect_20 : decode cX9_elect 20 = .ok (.iload_n 3, 1) := by decide +kernel
theorem dX9_elect_21 : decode cX9_elect 21 = .ok (.invokevirtual 247, 3) := by decide +kernel
theorem dX9_elect_24 : decode cX9_elect 24 = .ok (.iinc 3 1, 3) := by decide +kernel
theorem dX9_elect_27 : decode cX9_elect 27 = .ok (.goto (-14), 3) := by decide +kernel
theorem dX9_elect_30 : decode cX9_elect 30 = .ok (.aload_n 0, 1) := by decide +kernel
theorem dX9_elect_31 : decode cX9_elect 31 = .ok (.getfield 126, 3) := by decide +kernel
theorem dX9_elect_34 : decode cX9_elect 34 = .ok (.aload_n 0, 1) := by decide +kernel
theorem dX9_elect_35 : decode cX9_elect 35 = .ok (.getfield 102, 3) := by decide +kernel
theorem dX9_elect_38 : decode cX9_elect 38 = .ok (.if_icmp .ge 101, 3) := by decide +kernel
theorem dX9_elect_41 : decode cX9_elect 41 = .ok (.iconst (-1), 1) := by decide +kernel
theorem dX9_elect_42 : decode cX9_elect 42 = .ok (.istore_n 3, 1) := by decide +kernel
theorem dX9_elect_43 : decode cX9_elect 43 = .ok (.iconst 0, 1) := by decide +kernel
theorem dX9_elect_44 : decode cX9_elect 44 = .ok (.istore 4, 2) := by decide +kernel
theorem dX9_elect_46 : decode cX9_elect 46 = .ok (.iload 4, 2) := by decide +kernel
theorem dX9_elect_48 : decode cX9_elect 48 = .ok (.aload_n 0, 1) := by decide +kernel
theorem dX9_elect_49 : decode cX9_elect 49 = .ok (.getfield 99, 3) := by decide +kernel
theorem dX9_elect_52 : decode cX9_elect 52 = .ok (.if_icmp .ge 77, 3) := by decide +kernel
theorem dX9_elect_55 : decode cX9_elect 55 = .ok (.aload_n 0, 1) := by decide +kernel
theorem dX9_elect_56 : decode cX9_elect 56 = .ok (.getfield 129, 3) := by decide +kernel
theorem dX9_elect_59 : decode cX9_elect 59 = .ok (.iload 4, 2) := by decide +kernel
theorem dX9_elect_61 : decode cX9_elect 61 = .ok (.baload, 1) := by decide +kernel
theorem dX9_elect_62 : decode cX9_elect 62 = .ok (.ifCond .eq 6, 3) := by decide +kernel
theorem dX9_elect_65 : decode cX9_elect 65 = .ok (.goto 58, 3) := by decide +kernel
theorem dX9_elect_68 : decode cX9_elect 68 = .ok (.iload_n 3, 1) := by decide +kernel
theorem dX9_elect_69 : decode cX9_elect 69 = .ok (.ifCond .lt 51, 3) := by decide +kernel
theorem dX9_elect_72 : decode cX9_elect 72 = .ok (.aload_n 0, 1) := by decide +kernel
theorem dX9_elect_73 : decode cX9_elect 73 = .ok (.getfield 114, 3) := by decide +kernel
theorem dX9_elect_76 : decode cX9_elect 76 = .ok (.iload 4, 2) := by decide +kernel
theorem dX9_elect_78 : decode cX9_elect 78 = .ok (.iaload, 1) := by decide +kernel
theorem dX9_elect_79 : decode cX9_elect 79 = .ok (.aload_n 0, 1) := by decide +kernel
theorem dX9_elect_80 : decode cX9_elect 80 = .ok (.getfield 114, 3) := by decide +kernel
theorem dX9_elect_83 : decode cX9_elect 83 = .ok (.iload_n 3, 1) := by decide +kernel
theorem dX9_elect_84 : decode cX9_elect 84 = .ok (.iaload, 1) := by decide +kernel
theorem dX9_elect_85 : decode cX9_elect 85 = .ok (.if_icmp .gt 35, 3) := by decide +kernel
theorem dX9_elect_88 : decode cX9_elect 88 = .ok (.aload_n 0, 1) := by decide +kernel
theorem dX9_elect_89 : decode cX9_elect 89 = .ok (.getfield 114, 3) := by decide +kernel
theorem dX9_elect_92 : decode cX9_elect 92 = .ok (.iload 4, 2) := by decide +kernel
theorem dX9_elect_94 : decode cX9_elect 94 = .ok (.iaload, 1) := by decide +kernel
theorem dX9_elect_95 : decode cX9_elect 95 = .ok (.aload_n 0, 1) := by decide +kernel
theorem dX9_elect_96 : decode cX9_elect 96 = .ok (.getfield 114, 3) := by decide +kernel
theorem dX9_elect_99 : decode cX9_elect 99 = .ok (.iload_n 3, 1) := by decide +kernel
theorem dX9_elect_100 : decode cX9_elect 100 = .ok (.iaload, 1) := by decide +kernel
theorem dX9_elect_101 : decode cX9_elect 101 = .ok (.if_icmp .ne 22, 3) := by decide +kernel
theorem dX9_elect_104 : decode cX9_elect 104 = .ok (.aload_n 0, 1) := by decide +kernel
theorem dX9_elect_105 : decode cX9_elect 105 = .ok (.getfield 117, 3) := by decide +kernel
theorem dX9_elect_108 : decode cX9_elect 108 = .ok (.iload 4, 2) := by decide +kernel
theorem dX9_elect_110 : decode cX9_elect 110 = .ok (.iaload, 1) := by decide +kernel
theorem dX9_elect_111 : decode cX9_elect 111 = .ok (.aload_n 0, 1) := by decide +kernel
theorem dX9_elect_112 : decode cX9_elect 112 = .ok (.getfield 117, 3) := by decide +kernel
theorem dX9_elect_115 : decode cX9_elect 115 = .ok (.iload_n 3, 1) := by decide +kernel
theorem dX9_elect_116 : decode cX9_elect 116 = .ok (.iaload, 1) := by decide +kernel
theorem dX9_elect_117 : decode cX9_elect 117 = .ok (.if_icmp .ge 6, 3) := by decide +kernel
theorem dX9_elect_120 : decode cX9_elect 120 = .ok (.iload 4, 2) := by decide +kernel
theorem dX9_elect_122 : decode cX9_elect 122 = .ok (.istore_n 3, 1) := by decide +kernel
theorem dX9_elect_123 : decode cX9_elect 123 = .ok (.iinc 4 1, 3) := by decide +kernel
theorem dX9_elect_126 : decode cX9_elect 126 = .ok (.goto (-80), 3) := by decide +kernel
theorem dX9_elect_129 : decode cX9_elect 129 = .ok (.aload_n 0, 1) := by decide +kernel
theorem dX9_elect_130 : decode cX9_elect 130 = .ok (.iload_n 3, 1) := by decide +kernel
theorem dX9_elect_131 : decode cX9_elect 131 = .ok (.bipush 35, 2) := by decide +kernel
theorem dX9_elect_133 : decode cX9_elect 133 = .ok (.invokevirtual 237, 3) := by decide +kernel
theorem dX9_elect_136 : decode cX9_elect 136 = .ok (.goto (-106), 3) := by decide +kernel
theorem dX9_elect_139 : decode cX9_elect 139 = .ok (.return_, 1) := by decide +kernel
theorem dX9_elected_0 : decode cX9_elected 0 = .ok (.lload_n 1, 1) := by decide +kernel
theorem dX9_elected_1 : decode cX9_elected 1 = .ok (.lconst 0, 1) := by decide +kernel
theorem dX9_elected_2 : decode cX9_elected 2 = .ok (.lcmp, 1) := by decide +kernel
theorem dX9_elected_3 : decode cX9_elected 3 = .ok (.ifCond .lt 29, 3) := by decide +kernel
theorem dX9_elected_6 : decode cX9_elected 6 = .ok (.aload_n 0, 1) := by decide +kernel
theorem dX9_elected_7 : decode cX9_elected 7 = .ok (.iload_n 3, 1) := by decide +kernel
theorem dX9_elected_8 : decode cX9_elected 8 = .ok (.iconst 0, 1) := by decide +kernel
theorem dX9_elected_9 : decode cX9_elected 9 = .ok (.aload_n 0, 1) := by decide +kernel
theorem dX9_elected_10 : decode cX9_elected 10 = .ok (.getfield 102, 3) := by decide +kernel
theorem dX9_elected_13 : decode cX9_elected 13 = .ok (.iconst 1, 1) := by decide +kernel
theorem dX9_elected_14 : decode cX9_elected 14 = .ok (.isub, 1) := by decide +kernel
theorem dX9_elected_15 : decode cX9_elected 15 = .ok (.invokevirtual 147, 3) := by decide +kernel
theorem dX9_elected_18 : decode cX9_elected 18 = .ok (.ifCond .eq 14, 3) := by decide +kernel
theorem dX9_elected_21 : decode cX9_elected 21 = .ok (.aload_n 0, 1) := by decide +kernel
theorem dX9_elected_22 : decode cX9_elected 22 = .ok (.iload 4, 2) := by decide +kernel
theorem dX9_elected_24 : decode cX9_elected 24 = .ok (.iconst 0, 1) := by decide +kernel
theorem dX9_elected_25 : decode cX9_elected 25 = .ok (.iconst 1, 1) := by decide +kernel
theorem dX9_elected_26 : decode cX9_elected 26 = .ok (.invokevirtual 147, 3) := by decide +kernel
theorem dX9_elected_29 : decode cX9_elected 29 = .ok (.ifCond .ne 5, 3) := by decide +kernel
theorem dX9_elected_32 : decode cX9_elected 32 = .ok (.iconst (-1), 1) := by decide +kernel
theorem dX9_elected_33 : decode cX9_elected 33 = .ok (.ireturn, 1) := by decide +kernel
theorem dX9_elected_34 : decode cX9_elected 34 = .ok (.aload_n 0, 1) := by decide +kernel
theorem dX9_elected_35 : decode cX9_elected 35 = .ok (.lload_n 1, 1) := by decide +kernel
theorem dX9_elected_36 : decode cX9_elected 36 = .ok (.invokevirtual 251, 3) := by decide +kernel
theorem dX9_elected_39 : decode cX9_elected 39 = .ok (.iload 4, 2) := by decide +kernel
theorem dX9_elected_41 : decode cX9_elected 41 = .ok (.ifCond .ne 12, 3) := by decide +kernel
theorem dX9_elected_44 : decode cX9_elected 44 = .ok (.aload_n 0, 1) := by decide +kernel
theorem dX9_elected_45 : decode cX9_elected 45 = .ok (.getfield 120, 3) := by decide +kernel
theorem dX9_elected_48 : decode cX9_elected 48 = .ok (.iload_n 3, 1) := by decide +kernel
theorem dX9_elected_49 : decode cX9_elected 49 = .ok (.iaload, 1) := by decide +kernel
theorem dX9_elected_50 : decode cX9_elected 50 = .ok (.goto 9, 3) := by decide +kernel
theorem dX9_elected_53 : decode cX9_elected 53 = .ok (.aload_n 0, 1) := by decide +kernel
theorem dX9_elected_54 : decode cX9_elected 54 = .ok (.getfield 123, 3) := by decide +kernel
theorem dX9_elected_57 : decode cX9_elected 57 = .ok (.iload_n 3, 1) := by decide +kernel
theorem dX9_elected_58 : decode cX9_elected 58 = .ok (.iaload, 1) := by decide +kernel
theorem dX9_elected_59 : decode cX9_elected 59 = .ok (.ireturn, 1) := by decide +kernel
theorem dX9_ahead_0 : decode cX9_ahead 0 = .ok (.iconst 0, 1) := by decide +kernel
theorem dX9_ahead_1 : decode cX9_ahead 1 = .ok (.istore_n 1, 1) := by decide +kernel
theorem dX9_ahead_2 : decode cX9_ahead 2 = .ok (.iconst 0, 1) := by decide +kernel
theorem dX9_ahead_3 : decode cX9_ahead 3 = .ok (.istore_n 2, 1) := by decide +kernel
theorem dX9_ahead_4 : decode cX9_ahead 4 = .ok (.iconst 0, 1) := by decide +kernel
theorem dX9_ahead_5 : decode cX9_ahead 5 = .ok (.istore_n 3, 1) := by decide +kernel
theorem dX9_ahead_6 : decode cX9_ahead 6 = .ok (.iload_n 3, 1) := by decide +kernel
theorem dX9_ahead_7 : decode cX9_ahead 7 = .ok (.aload_n 0, 1) := by decide +kernel
theorem dX9_ahead_8 : decode cX9_ahead 8 = .ok (.getfield 99, 3) := by decide +kernel
theorem dX9_ahead_11 : decode cX9_ahead 11 = .ok (.if_icmp .ge 112, 3) := by decide +kernel
theorem dX9_ahead_14 : decode cX9_ahead 14 = .ok (.iconst 0, 1) := by decide +kernel
theorem dX9_ahead_15 : decode cX9_ahead 15 = .ok (.istore 4, 2) := by decide +kernel
theorem dX9_ahead_17 : decode cX9_ahead 17 = .ok (.iconst 0, 1) := by decide +kernel
theorem dX9_ahead_18 : decode cX9_ahead 18 = .ok (.istore 5, 2) := by decide +kernel
theorem dX9_ahead_20 : decode cX9_ahead 20 = .ok (.iload 5, 2) := by decide +kernel
theorem dX9_ahead_22 : decode cX9_ahead 22 = .ok (.aload_n 0, 1) := by decide +kernel
theorem dX9_ahead_23 : decode cX9_ahead 23 = .ok (.getfield 99, 3) := by decide +kernel
theorem dX9_ahead_26 : decode cX9_ahead 26 = .ok (.if_icmp .ge 57, 3) := by decide +kernel
theorem dX9_ahead_29 : decode cX9_ahead 29 = .ok (.iload 4, 2) := by decide +kernel
theorem dX9_ahead_31 : decode cX9_ahead 31 = .ok (.aload_n 0, 1) := by decide +kernel
theorem dX9_ahead_32 : decode cX9_ahead 32 = .ok (.getfield 114, 3) := by decide +kernel
theorem dX9_ahead_35 : decode cX9_ahead 35 = .ok (.iload 5, 2) := by decide +kernel
theorem dX9_ahead_37 : decode cX9_ahead 37 = .ok (.iaload, 1) := by decide +kernel
theorem dX9_ahead_38 : decode cX9_ahead 38 = .ok (.aload_n 0, 1) := by decide +kernel
theorem dX9_ahead_39 : decode cX9_ahead 39 = .ok (.getfield 114, 3) := by decide +kernel
theorem dX9_ahead_42 : decode cX9_ahead 42 = .ok (.iload_n 3, 1) := by decide +kernel
theorem dX9_ahead_43 : decode cX9_ahead 43 = .ok (.iaload, 1) := by decide +kernel
theorem dX9_ahead_44 : decode cX9_ahead 44 = .ok (.if_icmp .gt 25, 3) := by decide +kernel
theorem dX9_ahead_47 : decode cX9_ahead 47 = .ok (.aload_n 0, 1) := by decide +kernel
theorem dX9_ahead_48 : decode cX9_ahead 48 = .ok (.getfield 114, 3) := by decide +kernel
theorem dX9_ahead_51 : decode cX9_ahead 51 = .ok (.iload 5, 2) := by decide +kernel
theorem dX9_ahead_53 : decode cX9_ahead 53 = .ok (.iaload, 1) := by decide +kernel
theorem dX9_ahead_54 : decode cX9_ahead 54 = .ok (.aload_n 0, 1) := by decide +kernel
theorem dX9_ahead_55 : decode cX9_ahead 55 = .ok (.getfield 114, 3) := by decide +kernel
theorem dX9_ahead_58 : decode cX9_ahead 58 = .ok (.iload_n 3, 1) := by decide +kernel
theorem dX9_ahead_59 : decode cX9_ahead 59 = .ok (.iaload, 1) := by decide +kernel
theorem dX9_ahead_60 : decode cX9_ahead 60 = .ok (.if_icmp .ne 13, 3) := by decide +kernel
theorem dX9_ahead_63 : decode cX9_ahead 63 = .ok (.iload 5, 2) := by decide +kernel
theorem dX9_ahead_65 : decode cX9_ahead 65 = .ok (.iload_n 3, 1) := by decide +kernel
theorem dX9_ahead_66 : decode cX9_ahead 66 = .ok (.if_icmp .ge 7, 3) := by decide +kernel
theorem dX9_ahead_69 : decode cX9_ahead 69 = .ok (.iconst 1, 1) := by decide +kernel
theorem dX9_ahead_70 : decode cX9_ahead 70 = .ok (.goto 4, 3) := by decide +kernel
theorem dX9_ahead_73 : decode cX9_ahead 73 = .ok (.iconst 0, 1) := by decide +kernel
theorem dX9_ahead_74 : decode cX9_ahead 74 = .ok (.iadd, 1) := by decide +kernel
theorem dX9_ahead_75 : decode cX9_ahead 75 = .ok (.istore 4, 2) := by decide +kernel
theorem dX9_ahead_77 : decode cX9_ahead 77 = .ok (.iinc 5 1, 3) := by decide +kernel
theorem dX9_ahead_80 : decode cX9_ahead 80 = .ok (.goto (-60), 3) := by decide +kernel
theorem dX9_ahead_83 : decode cX9_ahead 83 = .ok (.iload 4, 2) := by decide +kernel
theorem dX9_ahead_85 : decode cX9_ahead 85 = .ok (.aload_n 0, 1) := by decide +kernel
theorem dX9_ahead_86 : decode cX9_ahead 86 = .ok (.getfield 102, 3) := by decide +kernel
theorem dX9_ahead_89 : decode cX9_ahead 89 = .ok (.iconst 1, 1) := by decide +kernel
theorem dX9_ahead_90 : decode cX9_ahead 90 = .ok (.isub, 1) := by decide +kernel
theorem dX9_ahead_91 : decode cX9_ahead 91 = .ok (.if_icmp .ne 10, 3) := by decide +kernel
theorem dX9_ahead_94 : decode cX9_ahead 94 = .ok (.aload_n 0, 1) := by decide +kernel
theorem dX9_ahead_95 : decode cX9_ahead 95 = .ok (.getfield 114, 3) := by decide +kernel
theorem dX9_ahead_98 : decode cX9_ahead 98 = .ok (.iload_n 3, 1) := by decide +kernel
theorem dX9_ahead_99 : decode cX9_ahead 99 = .ok (.iaload, 1) := by decide +kernel
theorem dX9_ahead_100 : decode cX9_ahead 100 = .ok (.istore_n 1, 1) := by decide +kernel
theorem dX9_ahead_101 : decode cX9_ahead 101 = .ok (.iload 4, 2) := by decide +kernel
theorem dX9_ahead_103 : decode cX9_ahead 103 = .ok (.aload_n 0, 1) := by decide +kernel
theorem dX9_ahead_104 : decode cX9_ahead 104 = .ok (.getfield 102, 3) := by decide +kernel
theorem dX9_ahead_107 : decode cX9_ahead 107 = .ok (.if_icmp .ne 10, 3) := by decide +kernel
theorem dX9_ahead_110 : decode cX9_ahead 110 = .ok (.aload_n 0, 1) := by decide +kernel
theorem dX9_ahead_111 : decode cX9_ahead 111 = .ok (.getfield 114, 3) := by decide +kernel
theorem dX9_ahead_114 : decode cX9_ahead 114 = .ok (.iload_n 3, 1) := by decide +kernel
theorem dX9_ahead_115 : decode cX9_ahead 115 = .ok (.iaload, 1) := by decide +kernel
theorem dX9_ahead_116 : decode cX9_ahead 116 = .ok (.istore_n 2, 1) := by decide +kernel
theorem dX9_ahead_117 : decode cX9_ahead 117 = .ok (.iinc 3 1, 3) := by decide +kernel
theorem dX9_ahead_120 : decode cX9_ahead 120 = .ok (.goto (-114), 3) := by decide +kernel
theorem dX9_ahead_123 : decode cX9_ahead 123 = .ok (.iload_n 1, 1) := by decide +kernel
theorem dX9_ahead_124 : decode cX9_ahead 124 = .ok (.iload_n 2, 1) := by decide +kernel
theorem dX9_ahead_125 : decode cX9_ahead 125 = .ok (.isub, 1) := by decide +kernel
theorem dX9_ahead_126 : decode cX9_ahead 126 = .ok (.ireturn, 1) := by decide +kernel
theorem dX9_sure_0 : decode cX9_sure 0 = .ok (.lload_n 1, 1) := by decide +kernel
theorem dX9_sure_1 : decode cX9_sure 1 = .ok (.lconst 0, 1) := by decide +kernel
theorem dX9_sure_2 : decode cX9_sure 2 = .ok (.lcmp, 1) := by decide +kernel
theorem dX9_sure_3 : decode cX9_sure 3 = .ok (.ifCond .ge 5, 3) := by decide +kernel
theorem dX9_sure_6 : decode cX9_sure 6 = .ok (.iconst (-1), 1) := by decide +kernel
theorem dX9_sure_7 : decode cX9_sure 7 = .ok (.ireturn, 1) := by decide +kernel
theorem dX9_sure_8 : decode cX9_sure 8 = .ok (.aload_n 0, 1) := by decide +kernel
theorem dX9_sure_9 : decode cX9_sure 9 = .ok (.bipush 35, 2) := by decide +kernel
theorem dX9_sure_11 : decode cX9_sure 11 = .ok (.lload_n 1, 1) := by decide +kernel
theorem dX9_sure_12 : decode cX9_sure 12 = .ok (.invokevirtual 240, 3) := by decide +kernel
theorem dX9_sure_15 : decode cX9_sure 15 = .ok (.aload_n 0, 1) := by decide +kernel
theorem dX9_sure_16 : decode cX9_sure 16 = .ok (.invokevirtual 244, 3) := by decide +kernel
theorem dX9_sure_19 : decode cX9_sure 19 = .ok (.iconst 0, 1) := by decide +kernel
theorem dX9_sure_20 : decode cX9_sure 20 = .ok (.istore_n 3, 1) := by decide +kernel
theorem dX9_sure_21 : decode cX9_sure 21 = .ok (.iload_n 3, 1) := by decide +kernel
theorem dX9_sure_22 : decode cX9_sure 22 = .ok (.bipush 35, 2) := by decide +kernel
theorem dX9_sure_24 : decode cX9_sure 24 = .ok (.if_icmp .ge 38, 3) := by decide +kernel
theorem dX9_sure_27 : decode cX9_sure 27 = .ok (.aload_n 0, 1) := by decide +kernel
theorem dX9_sure_28 : decode cX9_sure 28 = .ok (.getfield 126, 3) := by decide +kernel
theorem dX9_sure_31 : decode cX9_sure 31 = .ok (.aload_n 0, 1) := by decide +kernel
theorem dX9_sure_32 : decode cX9_sure 32 = .ok (.getfield 102, 3) := by decide +kernel
theorem dX9_sure_35 : decode cX9_sure 35 = .ok (.if_icmp .eq 14, 3) := by decide +kernel
theorem dX9_sure_38 : decode cX9_sure 38 = .ok (.aload_n 0, 1) := by decide +kernel
theorem dX9_sure_39 : decode cX9_sure 39 = .ok (.invokevirtual 255, 3) := by decide +kernel
theorem dX9_sure_42 : decode cX9_sure 42 = .ok (.bipush 35, 2) := by decide +kernel
theorem dX9_sure_44 : decode cX9_sure 44 = .ok (.iload_n 3, 1) := by decide +kernel
theorem dX9_sure_45 : decode cX9_sure 45 = .ok (.isub, 1) := by decide +kernel
theorem dX9_sure_46 : decode cX9_sure 46 = .ok (.if_icmp .lt 5, 3) := by decide +kernel
theorem dX9_sure_49 : decode cX9_sure 49 = .ok (.iload_n 3, 1) := by decide +kernel
theorem dX9_sure_50 : decode cX9_sure 50 = .ok (.ireturn, 1) := by decide +kernel
theorem dX9_sure_51 : decode cX9_sure 51 = .ok (.aload_n 0, 1) := by decide +kernel
theorem dX9_sure_52 : decode cX9_sure 52 = .ok (.iload_n 3, 1) := by decide +kernel
theorem dX9_sure_53 : decode cX9_sure 53 = .ok (.invokevirtual 247, 3) := by decide +kernel
theorem dX9_sure_56 : decode cX9_sure 56 = .ok (.iinc 3 1, 3) := by decide +kernel
theorem dX9_sure_59 : decode cX9_sure 59 = .ok (.goto (-38), 3) := by decide +kernel
theorem dX9_sure_62 : decode cX9_sure 62 = .ok (.bipush 35, 2) := by decide +kernel
theorem dX9_sure_64 : decode cX9_sure 64 = .ok (.ireturn, 1) := by decide +kernel
theorem dX9_drawn_0 : decode cX9_drawn 0 = .ok (.aload_n 0, 1) := by decide +kernel
theorem dX9_drawn_1 : decode cX9_drawn 1 = .ok (.iload_n 1, 1) := by decide +kernel
theorem dX9_drawn_2 : decode cX9_drawn 2 = .ok (.iconst 1, 1) := by decide +kernel
theorem dX9_drawn_3 : decode cX9_drawn 3 = .ok (.bipush 35, 2) := by decide +kernel
theorem dX9_drawn_5 : decode cX9_drawn 5 = .ok (.invokevirtual 147, 3) := by decide +kernel
theorem dX9_drawn_8 : decode cX9_drawn 8 = .ok (.ifCond .eq 22, 3) := by decide +kernel
theorem dX9_drawn_11 : decode cX9_drawn 11 = .ok (.lload_n 2, 1) := by decide +kernel
theorem dX9_drawn_12 : decode cX9_drawn 12 = .ok (.lconst 0, 1) := by decide +kernel
theorem dX9_drawn_13 : decode cX9_drawn 13 = .ok (.lcmp, 1) := by decide +kernel
theorem dX9_drawn_14 : decode cX9_drawn 14 = .ok (.ifCond .lt 16, 3) := by decide +kernel
theorem dX9_drawn_17 : decode cX9_drawn 17 = .ok (.aload_n 0, 1) := by decide +kernel
theorem dX9_drawn_18 : decode cX9_drawn 18 = .ok (.iload 4, 2) := by decide +kernel
theorem dX9_drawn_20 : decode cX9_drawn 20 = .ok (.iconst 0, 1) := by decide +kernel
theorem dX9_drawn_21 : decode cX9_drawn 21 = .ok (.iload_n 1, 1) := by decide +kernel
theorem dX9_drawn_22 : decode cX9_drawn 22 = .ok (.iconst 1, 1) := by decide +kernel
theorem dX9_drawn_23 : decode cX9_drawn 23 = .ok (.isub, 1) := by decide +kernel
theorem dX9_drawn_24 : decode cX9_drawn 24 = .ok (.invokevirtual 147, 3) := by decide +kernel
theorem dX9_drawn_27 : decode cX9_drawn 27 = .ok (.ifCond .ne 5, 3) := by decide +kernel
theorem dX9_drawn_30 : decode cX9_drawn 30 = .ok (.iconst (-1), 1) := by decide +kernel
theorem dX9_drawn_31 : decode cX9_drawn 31 = .ok (.ireturn, 1) := by decide +kernel
theorem dX9_drawn_32 : decode cX9_drawn 32 = .ok (.aload_n 0, 1) := by decide +kernel
theorem dX9_drawn_33 : decode cX9_drawn 33 = .ok (.iload_n 1, 1) := by decide +kernel
theorem dX9_drawn_34 : decode cX9_drawn 34 = .ok (.lload_n 2, 1) := by decide +kernel
theorem dX9_drawn_35 : decode cX9_drawn 35 = .ok (.invokevirtual 240, 3) := by decide +kernel
theorem dX9_drawn_38 : decode cX9_drawn 38 = .ok (.aload_n 0, 1) := by decide +kernel
theorem dX9_drawn_39 : decode cX9_drawn 39 = .ok (.getfield 108, 3) := by decide +kernel
theorem dX9_drawn_42 : decode cX9_drawn 42 = .ok (.iload 4, 2) := by decide +kernel
theorem dX9_drawn_44 : decode cX9_drawn 44 = .ok (.iaload, 1) := by decide +kernel
theorem dX9_drawn_45 : decode cX9_drawn 45 = .ok (.ireturn, 1) := by decide +kernel
theorem dX9_province_0 : decode cX9_province 0 = .ok (.aload_n 0, 1) := by decide +kernel
theorem dX9_province_1 : decode cX9_province 1 = .ok (.iload_n 1, 1) := by decide +kernel
theorem dX9_province_2 : decode cX9_province 2 = .ok (.iload_n 2, 1) := by decide +kernel
theorem dX9_province_3 : decode cX9_province 3 = .ok (.iload_n 3, 1) := by decide +kernel
theorem dX9_province_4 : decode cX9_province 4 = .ok (.invokevirtual 173, 3) := by decide +kernel
theorem dX9_province_7 : decode cX9_province 7 = .ok (.ifCond .eq 22, 3) := by decide +kernel
theorem dX9_province_10 : decode cX9_province 10 = .ok (.aload_n 0, 1) := by decide +kernel
theorem dX9_province_11 : decode cX9_province 11 = .ok (.iload 4, 2) := by decide +kernel
theorem dX9_province_13 : decode cX9_province 13 = .ok (.iconst 1, 1) := by decide +kernel
theorem dX9_province_14 : decode cX9_province 14 = .ok (.bipush 9, 2) := by decide +kernel
theorem dX9_province_16 : decode cX9_province 16 = .ok (.invokevirtual 147, 3) := by decide +kernel
theorem dX9_province_19 : decode cX9_province 19 = .ok (.ifCond .eq 10, 3) := by decide +kernel
theorem dX9_province_22 : decode cX9_province 22 = .ok (.lload 5, 2) := by decide +kernel
theorem dX9_province_24 : decode cX9_province 24 = .ok (.lconst 0, 1) := by decide +kernel
theorem dX9_province_25 : decode cX9_province 25 = .ok (.lcmp, 1) := by decide +kernel
theorem dX9_province_26 : decode cX9_province 26 = .ok (.ifCond .ge 5, 3) := by decide +kernel
theorem dX9_province_29 : decode cX9_province 29 = .ok (.iconst (-1), 1) := by decide +kernel
theorem dX9_province_30 : decode cX9_province 30 = .ok (.ireturn, 1) := by decide +kernel
theorem dX9_province_31 : decode cX9_province 31 = .ok (.aload_n 0, 1) := by decide +kernel
theorem dX9_province_32 : decode cX9_province 32 = .ok (.getfield 66, 3) := by decide +kernel
theorem dX9_province_35 : decode cX9_province 35 = .ok (.aload_n 0, 1) := by decide +kernel
theorem dX9_province_36 : decode cX9_province 36 = .ok (.iload_n 1, 1) := by decide +kernel
theorem dX9_province_37 : decode cX9_province 37 = .ok (.iload_n 2, 1) := by decide +kernel
theorem dX9_province_38 : decode cX9_province 38 = .ok (.iload_n 3, 1) := by decide +kernel
theorem dX9_province_39 : decode cX9_province 39 = .ok (.invokevirtual 165, 3) := by decide +kernel
theorem dX9_province_42 : decode cX9_province 42 = .ok (.iaload, 1) := by decide +kernel
theorem dX9_province_43 : decode cX9_province 43 = .ok (.ifCond .ge 6, 3) := by decide +kernel
theorem dX9_province_46 : decode cX9_province 46 = .ok (.bipush (-3), 2) := by decide +kernel
theorem dX9_province_48 : decode cX9_province 48 = .ok (.ireturn, 1) := by decide +kernel
theorem dX9_province_49 : decode cX9_province 49 = .ok (.iconst 0, 1) := by decide +kernel
theorem dX9_province_50 : decode cX9_province 50 = .ok (.istore 7, 2) := by decide +kernel
theorem dX9_province_52 : decode cX9_province 52 = .ok (.iconst 0, 1) := by decide +kernel
theorem dX9_province_53 : decode cX9_province 53 = .ok (.istore 8, 2) := by decide +kernel
theorem dX9_province_55 : decode cX9_province 55 = .ok (.iload 8, 2) := by decide +kernel
theorem dX9_province_57 : decode cX9_province 57 = .ok (.iload_n 3, 1) := by decide +kernel
theorem dX9_province_58 : decode cX9_province 58 = .ok (.if_icmp .ge 35, 3) := by decide +kernel
theorem dX9_province_61 : decode cX9_province 61 = .ok (.iload 7, 2) := by decide +kernel
theorem dX9_province_63 : decode cX9_province 63 = .ok (.aload_n 0, 1) := by decide +kernel
theorem dX9_province_64 : decode cX9_province 64 = .ok (.getfield 66, 3) := by decide +kernel
theorem dX9_province_67 : decode cX9_province 67 = .ok (.aload_n 0, 1) := by decide +kernel
theorem dX9_province_68 : decode cX9_province 68 = .ok (.iload_n 1, 1) := by decide +kernel
theorem dX9_province_69 : decode cX9_province 69 = .ok (.iload_n 2, 1) := by decide +kernel
theorem dX9_province_70 : decode cX9_province 70 = .ok (.iload 8, 2) := by decide +kernel
theorem dX9_province_72 : decode cX9_province 72 = .ok (.invokevirtual 165, 3) := by decide +kernel
theorem dX9_province_75 : decode cX9_province 75 = .ok (.iaload, 1) := by decide +kernel
theorem dX9_province_76 : decode cX9_province 76 = .ok (.ifCond .ge 7, 3) := by decide +kernel
theorem dX9_province_79 : decode cX9_province 79 = .ok (.iconst 0, 1) := by decide +kernel
theorem dX9_province_80 : decode cX9_province 80 = .ok (.goto 4, 3) := by decide +kernel
theorem dX9_province_83 : decode cX9_province 83 = .ok (.iconst 1, 1) := by decide +kernel
theorem dX9_province_84 : decode cX9_province 84 = .ok (.iadd, 1) := by decide +kernel
theorem dX9_province_85 : decode cX9_province 85 = .ok (.istore 7, 2) := by decide +kernel
theorem dX9_province_87 : decode cX9_province 87 = .ok (.iinc 8 1, 3) := by decide +kernel
theorem dX9_province_90 : decode cX9_province 90 = .ok (.goto (-35), 3) := by decide +kernel
theorem dX9_province_93 : decode cX9_province 93 = .ok (.aload_n 0, 1) := by decide +kernel
theorem dX9_province_94 : decode cX9_province 94 = .ok (.iload 4, 2) := by decide +kernel
theorem dX9_province_96 : decode cX9_province 96 = .ok (.lload 5, 2) := by decide +kernel
theorem dX9_province_98 : decode cX9_province 98 = .ok (.invokevirtual 240, 3) := by decide +kernel
theorem dX9_province_101 : decode cX9_province 101 = .ok (.iload 7, 2) := by decide +kernel
theorem dX9_province_103 : decode cX9_province 103 = .ok (.iload 4, 2) := by decide +kernel
theorem dX9_province_105 : decode cX9_province 105 = .ok (.if_icmp .ge 13, 3) := by decide +kernel
theorem dX9_province_108 : decode cX9_province 108 = .ok (.aload_n 0, 1) := by decide +kernel
theorem dX9_province_109 : decode cX9_province 109 = .ok (.getfield 108, 3) := by decide +kernel
theorem dX9_province_112 : decode cX9_province 112 = .ok (.iload 7, 2) := by decide +kernel
theorem dX9_province_114 : decode cX9_province 114 = .ok (.iaload, 1) := by decide +kernel
theorem dX9_province_115 : decode cX9_province 115 = .ok (.goto 5, 3) := by decide +kernel
theorem dX9_province_118 : decode cX9_province 118 = .ok (.bipush (-2), 2) := by decide +kernel
theorem dX9_province_120 : decode cX9_province 120 = .ok (.ireturn, 1) := by decide +kernel
theorem dX9_count_0 : decode cX9_count 0 = .ok (.iconst 0, 1) := by decide +kernel
theorem dX9_count_1 : decode cX9_count 1 = .ok (.istore_n 2, 1) := by decide +kernel
theorem dX9_count_2 : decode cX9_count 2 = .ok (.iload_n 1, 1) := by decide +kernel
theorem dX9_count_3 : decode cX9_count 3 = .ok (.tableswitch 105 0 5 #[37, 42, 47, 52, 52, 100], 37) := by decide +kernel
theorem dX9_count_40 : decode cX9_count 40 = .ok (.aload_n 0, 1) := by decide +kernel
theorem dX9_count_41 : decode cX9_count 41 = .ok (.getfield 13, 3) := by decide +kernel
theorem dX9_count_44 : decode cX9_count 44 = .ok (.ireturn, 1) := by decide +kernel
theorem dX9_count_45 : decode cX9_count 45 = .ok (.aload_n 0, 1) := by decide +kernel
theorem dX9_count_46 : decode cX9_count 46 = .ok (.getfield 16, 3) := by decide +kernel
theorem dX9_count_49 : decode cX9_count 49 = .ok (.ireturn, 1) := by decide +kernel
theorem dX9_count_50 : decode cX9_count 50 = .ok (.aload_n 0, 1) := by decide +kernel
theorem dX9_count_51 : decode cX9_count 51 = .ok (.getfield 19, 3) := by decide +kernel
theorem dX9_count_54 : decode cX9_count 54 = .ok (.ireturn, 1) := by decide +kernel
theorem dX9_count_55 : decode cX9_count 55 = .ok (.iconst 0, 1) := by decide +kernel
theorem dX9_count_56 : decode cX9_count 56 = .ok (.istore_n 3, 1) := by decide +kernel
theorem dX9_count_57 : decode cX9_count 57 = .ok (.iload_n 3, 1) := by decide +kernel
theorem dX9_count_58 : decode cX9_count 58 = .ok (.sipush 4800, 3) := by decide +kernel
theorem dX9_count_61 : decode cX9_count 61 = .ok (.if_icmp .ge 40, 3) := by decide +kernel
theorem dX9_count_64 : decode cX9_count 64 = .ok (.iload_n 2, 1) := by decide +kernel
theorem dX9_count_65 : decode cX9_count 65 = .ok (.aload_n 0, 1) := by decide +kernel
theorem dX9_count_66 : decode cX9_count 66 = .ok (.getfield 66, 3) := by decide +kernel
theorem dX9_count_69 : decode cX9_count 69 = .ok (.iload_n 3, 1) := by decide +kernel
theorem dX9_count_70 : decode cX9_count 70 = .ok (.iaload, 1) := by decide +kernel
theorem dX9_count_71 : decode cX9_count 71 = .ok (.ifCond .lt 21, 3) := by decide +kernel
theorem dX9_count_74 : decode cX9_count 74 = .ok (.iload_n 1, 1) := by decide +kernel
theorem dX9_count_75 : decode cX9_count 75 = .ok (.iconst 3, 1) := by decide +kernel
theorem dX9_count_76 : decode cX9_count 76 = .ok (.if_icmp .eq 12, 3) := by decide +kernel
theorem dX9_count_79 : decode cX9_count 79 = .ok (.aload_n 0, 1) := by decide +kernel
theorem dX9_count_80 : decode cX9_count 80 = .ok (.getfield 69, 3) := by decide +kernel
theorem dX9_count_83 : decode cX9_count 83 = .ok (.iload_n 3, 1) := by decide +kernel
theorem dX9_count_84 : decode cX9_count 84 = .ok (.baload, 1) := by decide +kernel
theorem dX9_count_85 : decode cX9_count 85 = .ok (.ifCond .eq 7, 3) := by decide +kernel
theorem dX9_count_88 : decode cX9_count 88 = .ok (.iconst 1, 1) := by decide +kernel
theorem dX9_count_89 : decode cX9_count 89 = .ok (.goto 4, 3) := by decide +kernel
theorem dX9_count_92 : decode cX9_count 92 = .ok (.iconst 0, 1) := by decide +kernel
theorem dX9_count_93 : decode cX9_count 93 = .ok (.iadd, 1) := by decide +kernel
theorem dX9_count_94 : decode cX9_count 94 = .ok (.istore_n 2, 1) := by decide +kernel
theorem dX9_count_95 : decode cX9_count 95 = .ok (.iinc 3 1, 3) := by decide +kernel
theorem dX9_count_98 : decode cX9_count 98 = .ok (.goto (-41), 3) := by decide +kernel
theorem dX9_count_101 : decode cX9_count 101 = .ok (.iload_n 2, 1) := by decide +kernel
theorem dX9_count_102 : decode cX9_count 102 = .ok (.ireturn, 1) := by decide +kernel
theorem dX9_count_103 : decode cX9_count 103 = .ok (.aload_n 0, 1) := by decide +kernel
theorem dX9_count_104 : decode cX9_count 104 = .ok (.invokevirtual 230, 3) := by decide +kernel
theorem dX9_count_107 : decode cX9_count 107 = .ok (.ireturn, 1) := by decide +kernel
theorem dX9_count_108 : decode cX9_count 108 = .ok (.iconst (-1), 1) := by decide +kernel
theorem dX9_count_109 : decode cX9_count 109 = .ok (.ireturn, 1) := by decide +kernel
theorem dX9_isShelf_0 : decode cX9_isShelf 0 = .ok (.aload_n 0, 1) := by decide +kernel
theorem dX9_isShelf_1 : decode cX9_isShelf 1 = .ok (.iload_n 1, 1) := by decide +kernel
theorem dX9_isShelf_2 : decode cX9_isShelf 2 = .ok (.iconst 0, 1) := by decide +kernel
theorem dX9_isShelf_3 : decode cX9_isShelf 3 = .ok (.bipush 7, 2) := by decide +kernel
theorem dX9_isShelf_5 : decode cX9_isShelf 5 = .ok (.invokevirtual 147, 3) := by decide +kernel
theorem dX9_isShelf_8 : decode cX9_isShelf 8 = .ok (.ireturn, 1) := by decide +kernel
theorem dX9_wipe_0 : decode cX9_wipe 0 = .ok (.iconst 0, 1) := by decide +kernel
theorem dX9_wipe_1 : decode cX9_wipe 1 = .ok (.istore_n 2, 1) := by decide +kernel
theorem dX9_wipe_2 : decode cX9_wipe 2 = .ok (.iload_n 2, 1) := by decide +kernel
theorem dX9_wipe_3 : decode cX9_wipe 3 = .ok (.sipush 200, 3) := by decide +kernel
theorem dX9_wipe_6 : decode cX9_wipe 6 = .ok (.if_icmp .ge 22, 3) := by decide +kernel
theorem dX9_wipe_9 : decode cX9_wipe 9 = .ok (.aload_n 0, 1) := by decide +kernel
theorem dX9_wipe_10 : decode cX9_wipe 10 = .ok (.getfield 141, 3) := by decide +kernel
theorem dX9_wipe_13 : decode cX9_wipe 13 = .ok (.sipush 200, 3) := by decide +kernel
theorem dX9_wipe_16 : decode cX9_wipe 16 = .ok (.iload_n 1, 1) := by decide +kernel
theorem dX9_wipe_17 : decode cX9_wipe 17 = .ok (.imul, 1) := by decide +kernel
theorem dX9_wipe_18 : decode cX9_wipe 18 = .ok (.iload_n 2, 1) := by decide +kernel
theorem dX9_wipe_19 : decode cX9_wipe 19 = .ok (.iadd, 1) := by decide +kernel
theorem dX9_wipe_20 : decode cX9_wipe 20 = .ok (.iconst 0, 1) := by decide +kernel
theorem dX9_wipe_21 : decode cX9_wipe 21 = .ok (.iastore, 1) := by decide +kernel
theorem dX9_wipe_22 : decode cX9_wipe 22 = .ok (.iinc 2 1, 3) := by decide +kernel
theorem dX9_wipe_25 : decode cX9_wipe 25 = .ok (.goto (-23), 3) := by decide +kernel
theorem dX9_wipe_28 : decode cX9_wipe 28 = .ok (.return_, 1) := by decide +kernel
theorem dX9_keep_0 : decode cX9_keep 0 = .ok (.aload_n 0, 1) := by decide +kernel
theorem dX9_keep_1 : decode cX9_keep 1 = .ok (.iload_n 1, 1) := by decide +kernel
theorem dX9_keep_2 : decode cX9_keep 2 = .ok (.invokevirtual 258, 3) := by decide +kernel
theorem dX9_keep_5 : decode cX9_keep 5 = .ok (.ifCond .eq 57, 3) := by decide +kernel
theorem dX9_keep_8 : decode cX9_keep 8 = .ok (.iload_n 2, 1) := by decide +kernel
theorem dX9_keep_9 : decode cX9_keep 9 = .ok (.ifCond .eq 49, 3) := by decide +kernel
theorem dX9_keep_12 : decode cX9_keep 12 = .ok (.iload_n 2, 1) := by decide +kernel
theorem dX9_keep_13 : decode cX9_keep 13 = .ok (.iconst 1, 1) := by decide +kernel
theorem dX9_keep_14 : decode cX9_keep 14 = .ok (.if_icmp .ne 18, 3) := by decide +kernel
theorem dX9_keep_17 : decode cX9_keep 17 = .ok (.aload_n 0, 1) := by decide +kernel
theorem dX9_keep_18 : decode cX9_keep 18 = .ok (.iload_n 3, 1) := by decide +kernel
theorem dX9_keep_19 : decode cX9_keep 19 = .ok (.iconst 0, 1) := by decide +kernel
theorem dX9_keep_20 : decode cX9_keep 20 = .ok (.aload_n 0, 1) := by decide +kernel
theorem dX9_keep_21 : decode cX9_keep 21 = .ok (.getfield 19, 3) := by decide +kernel
theorem dX9_keep_24 : decode cX9_keep 24 = .ok (.iconst 1, 1) := by decide +kernel
theorem dX9_keep_25 : decode cX9_keep 25 = .ok (.isub, 1) := by decide +kernel
theorem dX9_keep_26 : decode cX9_keep 26 = .ok (.invokevirtual 147, 3) := by decide +kernel
theorem dX9_keep_29 : decode cX9_keep 29 = .ok (.ifCond .ne 29, 3) := by decide +kernel
theorem dX9_keep_32 : decode cX9_keep 32 = .ok (.iload_n 2, 1) := by decide +kernel
theorem dX9_keep_33 : decode cX9_keep 33 = .ok (.iconst 3, 1) := by decide +kernel
theorem dX9_keep_34 : decode cX9_keep 34 = .ok (.if_icmp .ne 11, 3) := by decide +kernel
theorem dX9_keep_37 : decode cX9_keep 37 = .ok (.aload_n 0, 1) := by decide +kernel
theorem dX9_keep_38 : decode cX9_keep 38 = .ok (.iload_n 3, 1) := by decide +kernel
theorem dX9_keep_39 : decode cX9_keep 39 = .ok (.invokevirtual 162, 3) := by decide +kernel
theorem dX9_keep_42 : decode cX9_keep 42 = .ok (.ifCond .ne 16, 3) := by decide +kernel
theorem dX9_keep_45 : decode cX9_keep 45 = .ok (.iload_n 2, 1) := by decide +kernel
theorem dX9_keep_46 : decode cX9_keep 46 = .ok (.iconst 4, 1) := by decide +kernel
theorem dX9_keep_47 : decode cX9_keep 47 = .ok (.if_icmp .ne 15, 3) := by decide +kernel
theorem dX9_keep_50 : decode cX9_keep 50 = .ok (.aload_n 0, 1) := by decide +kernel
theorem dX9_keep_51 : decode cX9_keep 51 = .ok (.iload_n 3, 1) := by decide +kernel
theorem dX9_keep_52 : decode cX9_keep 52 = .ok (.invokevirtual 155, 3) := by decide +kernel
theorem dX9_keep_55 : decode cX9_keep 55 = .ok (.ifCond .eq 7, 3) := by decide +kernel
theorem dX9_keep_58 : decode cX9_keep 58 = .ok (.iconst 1, 1) := by decide +kernel
theorem dX9_keep_59 : decode cX9_keep 59 = .ok (.goto 4, 3) := by decide +kernel
theorem dX9_keep_62 : decode cX9_keep 62 = .ok (.iconst 0, 1) := by decide +kernel
theorem dX9_keep_63 : decode cX9_keep 63 = .ok (.istore 4, 2) := by decide +kernel
theorem dX9_keep_65 : decode cX9_keep 65 = .ok (.iload 4, 2) := by decide +kernel
theorem dX9_keep_67 : decode cX9_keep 67 = .ok (.ifCond .ne 5, 3) := by decide +kernel
theorem dX9_keep_70 : decode cX9_keep 70 = .ok (.iconst (-1), 1) := by decide +kernel
theorem dX9_keep_71 : decode cX9_keep 71 = .ok (.ireturn, 1) := by decide +kernel
theorem dX9_keep_72 : decode cX9_keep 72 = .ok (.aload_n 0, 1) := by decide +kernel
theorem dX9_keep_73 : decode cX9_keep 73 = .ok (.getfield 132, 3) := by decide +kernel
theorem dX9_keep_76 : decode cX9_keep 76 = .ok (.iload_n 1, 1) := by decide +kernel
theorem dX9_keep_77 : decode cX9_keep 77 = .ok (.iload_n 2, 1) := by decide +kernel
theorem dX9_keep_78 : decode cX9_keep 78 = .ok (.iastore, 1) := by decide +kernel
theorem dX9_keep_79 : decode cX9_keep 79 = .ok (.aload_n 0, 1) := by decide +kernel
theorem dX9_keep_80 : decode cX9_keep 80 = .ok (.getfield 135, 3) := by decide +kernel
theorem dX9_keep_83 : decode cX9_keep 83 = .ok (.iload_n 1, 1) := by decide +kernel
theorem dX9_keep_84 : decode cX9_keep 84 = .ok (.iload_n 3, 1) := by decide +kernel
theorem dX9_keep_85 : decode cX9_keep 85 = .ok (.iastore, 1) := by decide +kernel
theorem dX9_keep_86 : decode cX9_keep 86 = .ok (.aload_n 0, 1) := by decide +kernel
theorem dX9_keep_87 : decode cX9_keep 87 = .ok (.iload_n 1, 1) := by decide +kernel
theorem dX9_keep_88 : decode cX9_keep 88 = .ok (.invokevirtual 261, 3) := by decide +kernel
theorem dX9_keep_91 : decode cX9_keep 91 = .ok (.aload_n 0, 1) := by decide +kernel
theorem dX9_keep_92 : decode cX9_keep 92 = .ok (.getfield 138, 3) := by decide +kernel
theorem dX9_keep_95 : decode cX9_keep 95 = .ok (.iload_n 1, 1) := by decide +kernel
theorem dX9_keep_96 : decode cX9_keep 96 = .ok (.iload_n 2, 1) := by decide +kernel
theorem dX9_keep_97 : decode cX9_keep 97 = .ok (.iconst 3, 1) := by decide +kernel
theorem dX9_keep_98 : decode cX9_keep 98 = .ok (.if_icmp .ne 9, 3) := by decide +kernel
theorem dX9_keep_101 : decode cX9_keep 101 = .ok (.sipush 200, 3) := by decide +kernel
theorem dX9_keep_104 : decode cX9_keep 104 = .ok (.goto 4, 3) := by decide +kernel
theorem dX9_keep_107 : decode cX9_keep 107 = .ok (.iconst 5, 1) := by decide +kernel
theorem dX9_keep_108 : decode cX9_keep 108 = .ok (.iastore, 1) := by decide +kernel
theorem dX9_keep_109 : decode cX9_keep 109 = .ok (.iconst 0, 1) := by decide +kernel
theorem dX9_keep_110 : decode cX9_keep 110 = .ok (.istore 5, 2) := by decide +kernel
theorem dX9_keep_112 : decode cX9_keep 112 = .ok (.iload 5, 2) := by decide +kernel
theorem dX9_keep_114 : decode cX9_keep 114 = .ok (.sipush 200, 3) := by decide +kernel
theorem dX9_keep_117 : decode cX9_keep 117 = .ok (.if_icmp .ge 40, 3) := by decide +kernel
theorem dX9_keep_120 : decode cX9_keep 120 = .ok (.iload_n 2, 1) := by decide +kernel
theorem dX9_keep_121 : decode cX9_keep 121 = .ok (.iconst 3, 1) := by decide +kernel
theorem dX9_keep_122 : decode cX9_keep 122 = .ok (.if_icmp .ne 35, 3) := by decide +kernel
theorem dX9_keep_125 : decode cX9_keep 125 = .ok (.aload_n 0, 1) := by decide +kernel
theorem dX9_keep_126 : decode cX9_keep 126 = .ok (.getfield 141, 3) := by decide +kernel
theorem dX9_keep_129 : decode cX9_keep 129 = .ok (.sipush 200, 3) := by decide +kernel
theorem dX9_keep_132 : decode cX9_keep 132 = .ok (.iload_n 1, 1) := by decide +kernel
theorem dX9_keep_133 : decode cX9_keep 133 = .ok (.imul, 1) := by decide +kernel
theorem dX9_keep_134 : decode cX9_keep 134 = .ok (.iload 5, 2) := by decide +kernel
theorem dX9_keep_136 : decode cX9_keep 136 = .ok (.iadd, 1) := by decide +kernel
theorem dX9_keep_137 : decode cX9_keep 137 = .ok (.aload_n 0, 1) := by decide +kernel
theorem dX9_keep_138 : decode cX9_keep 138 = .ok (.getfield 66, 3) := by decide +kernel
theorem dX9_keep_141 : decode cX9_keep 141 = .ok (.aload_n 0, 1) := by decide +kernel
theorem dX9_keep_142 : decode cX9_keep 142 = .ok (.iload_n 3, 1) := by decide +kernel
theorem dX9_keep_143 : decode cX9_keep 143 = .ok (.iload 5, 2) := by decide +kernel
theorem dX9_keep_145 : decode cX9_keep 145 = .ok (.iconst 0, 1) := by decide +kernel
theorem dX9_keep_146 : decode cX9_keep 146 = .ok (.invokevirtual 165, 3) := by decide +kernel
theorem dX9_keep_149 : decode cX9_keep 149 = .ok (.iaload, 1) := by decide +kernel
theorem dX9_keep_150 : decode cX9_keep 150 = .ok (.iastore, 1) := by decide +kernel
theorem dX9_keep_151 : decode cX9_keep 151 = .ok (.iinc 5 1, 3) := by decide +kernel
theorem dX9_keep_154 : decode cX9_keep 154 = .ok (.goto (-42), 3) := by decide +kernel
theorem dX9_keep_157 : decode cX9_keep 157 = .ok (.iload_n 2, 1) := by decide +kernel
theorem dX9_keep_158 : decode cX9_keep 158 = .ok (.iconst 4, 1) := by decide +kernel
theorem dX9_keep_159 : decode cX9_keep 159 = .ok (.if_icmp .eq 5, 3) := by decide +kernel
theorem dX9_keep_162 : decode cX9_keep 162 = .ok (.iconst 0, 1) := by decide +kernel
theorem dX9_keep_163 : decode cX9_keep 163 = .ok (.ireturn, 1) := by decide +kernel
theorem dX9_keep_164 : decode cX9_keep 164 = .ok (.aload_n 0, 1) := by decide +kernel
theorem dX9_keep_165 : decode cX9_keep 165 = .ok (.getfield 141, 3) := by decide +kernel
theorem dX9_keep_168 : decode cX9_keep 168 = .ok (.sipush 200, 3) := by decide +kernel
theorem dX9_keep_171 : decode cX9_keep 171 = .ok (.iload_n 1, 1) := by decide +kernel
theorem dX9_keep_172 : decode cX9_keep 172 = .ok (.imul, 1) := by decide +kernel
theorem dX9_keep_173 : decode cX9_keep 173 = .ok (.aload_n 0, 1) := by decide +kernel
theorem dX9_keep_174 : decode cX9_keep 174 = .ok (.getfield 33, 3) := by decide +kernel
theorem dX9_keep_177 : decode cX9_keep 177 = .ok (.iload_n 3, 1) := by decide +kernel
theorem dX9_keep_178 : decode cX9_keep 178 = .ok (.iaload, 1) := by decide +kernel
theorem dX9_keep_179 : decode cX9_keep 179 = .ok (.iastore, 1) := by decide +kernel
theorem dX9_keep_180 : decode cX9_keep 180 = .ok (.aload_n 0, 1) := by decide +kernel
theorem dX9_keep_181 : decode cX9_keep 181 = .ok (.getfield 141, 3) := by decide +kernel
theorem dX9_keep_184 : decode cX9_keep 184 = .ok (.sipush 200, 3) := by decide +kernel
theorem dX9_keep_187 : decode cX9_keep 187 = .ok (.iload_n 1, 1) := by decide +kernel
theorem dX9_keep_188 : decode cX9_keep 188 = .ok (.imul, 1) := by decide +kernel
theorem dX9_keep_189 : decode cX9_keep 189 = .ok (.iconst 1, 1) := by decide +kernel
theorem dX9_keep_190 : decode cX9_keep 190 = .ok (.iadd, 1) := by decide +kernel
theorem dX9_keep_191 : decode cX9_keep 191 = .ok (.aload_n 0, 1) := by decide +kernel
theorem dX9_keep_192 : decode cX9_keep 192 = .ok (.getfield 36, 3) := by decide +kernel
theorem dX9_keep_195 : decode cX9_keep 195 = .ok (.iload_n 3, 1) := by decide +kernel
theorem dX9_keep_196 : decode cX9_keep 196 = .ok (.iaload, 1) := by decide +kernel
theorem dX9_keep_197 : decode cX9_keep 197 = .ok (.iastore, 1) := by decide +kernel
theorem dX9_keep_198 : decode cX9_keep 198 = .ok (.aload_n 0, 1) := by decide +kernel
theorem dX9_keep_199 : decode cX9_keep 199 = .ok (.getfield 141, 3) := by decide +kernel
theorem dX9_keep_202 : decode cX9_keep 202 = .ok (.sipush 200, 3) := by decide +kernel
theorem dX9_keep_205 : decode cX9_keep 205 = .ok (.iload_n 1, 1) := by decide +kernel
theorem dX9_keep_206 : decode cX9_keep 206 = .ok (.imul, 1) := by decide +kernel
theorem dX9_keep_207 : decode cX9_keep 207 = .ok (.iconst 2, 1) := by decide +kernel
theorem dX9_keep_208 : decode cX9_keep 208 = .ok (.iadd, 1) := by decide +kernel
theorem dX9_keep_209 : decode cX9_keep 209 = .ok (.aload_n 0, 1) := by decide +kernel
theorem dX9_keep_210 : decode cX9_keep 210 = .ok (.getfield 42, 3) := by decide +kernel
theorem dX9_keep_213 : decode cX9_keep 213 = .ok (.iload_n 3, 1) := by decide +kernel
theorem dX9_keep_214 : decode cX9_keep 214 = .ok (.iaload, 1) := by decide +kernel
theorem dX9_keep_215 : decode cX9_keep 215 = .ok (.iastore, 1) := by decide +kernel
theorem dX9_keep_216 : decode cX9_keep 216 = .ok (.aload_n 0, 1) := by decide +kernel
theorem dX9_keep_217 : decode cX9_keep 217 = .ok (.getfield 141, 3) := by decide +kernel
theorem dX9_keep_220 : decode cX9_keep 220 = .ok (.sipush 200, 3) := by decide +kernel
theorem dX9_keep_223 : decode cX9_keep 223 = .ok (.iload_n 1, 1) := by decide +kernel
theorem dX9_keep_224 : decode cX9_keep 224 = .ok (.imul, 1) := by decide +kernel
theorem dX9_keep_225 : decode cX9_keep 225 = .ok (.iconst 3, 1) := by decide +kernel
theorem dX9_keep_226 : decode cX9_keep 226 = .ok (.iadd, 1) := by decide +kernel
theorem dX9_keep_227 : decode cX9_keep 227 = .ok (.aload_n 0, 1) := by decide +kernel
theorem dX9_keep_228 : decode cX9_keep 228 = .ok (.getfield 45, 3) := by decide +kernel
theorem dX9_keep_231 : decode cX9_keep 231 = .ok (.iload_n 3, 1) := by decide +kernel
theorem dX9_keep_232 : decode cX9_keep 232 = .ok (.iaload, 1) := by decide +kernel
theorem dX9_keep_233 : decode cX9_keep 233 = .ok (.iastore, 1) := by decide +kernel
theorem dX9_keep_234 : decode cX9_keep 234 = .ok (.aload_n 0, 1) := by decide +kernel
theorem dX9_keep_235 : decode cX9_keep 235 = .ok (.getfield 141, 3) := by decide +kernel
theorem dX9_keep_238 : decode cX9_keep 238 = .ok (.sipush 200, 3) := by decide +kernel
theorem dX9_keep_241 : decode cX9_keep 241 = .ok (.iload_n 1, 1) := by decide +kernel
theorem dX9_keep_242 : decode cX9_keep 242 = .ok (.imul, 1) := by decide +kernel
theorem dX9_keep_243 : decode cX9_keep 243 = .ok (.iconst 4, 1) := by decide +kernel
theorem dX9_keep_244 : decode cX9_keep 244 = .ok (.iadd, 1) := by decide +kernel
theorem dX9_keep_245 : decode cX9_keep 245 = .ok (.aload_n 0, 1) := by decide +kernel
theorem dX9_keep_246 : decode cX9_keep 246 = .ok (.getfield 48, 3) := by decide +kernel
theorem dX9_keep_249 : decode cX9_keep 249 = .ok (.iload_n 3, 1) := by decide +kernel
theorem dX9_keep_250 : decode cX9_keep 250 = .ok (.iaload, 1) := by decide +kernel
theorem dX9_keep_251 : decode cX9_keep 251 = .ok (.iastore, 1) := by decide +kernel
theorem dX9_keep_252 : decode cX9_keep 252 = .ok (.iconst 0, 1) := by decide +kernel
theorem dX9_keep_253 : decode cX9_keep 253 = .ok (.ireturn, 1) := by decide +kernel
theorem dX9_make_0 : decode cX9_make 0 = .ok (.aload_n 0, 1) := by decide +kernel
theorem dX9_make_1 : decode cX9_make 1 = .ok (.iload_n 1, 1) := by decide +kernel
theorem dX9_make_2 : decode cX9_make 2 = .ok (.invokevirtual 258, 3) := by decide +kernel
theorem dX9_make_5 : decode cX9_make 5 = .ok (.ifCond .eq 19, 3) := by decide +kernel
theorem dX9_make_8 : decode cX9_make 8 = .ok (.aload_n 0, 1) := by decide +kernel
theorem dX9_make_9 : decode cX9_make 9 = .ok (.iload_n 2, 1) := by decide +kernel
theorem dX9_make_10 : decode cX9_make 10 = .ok (.iconst 3, 1) := by decide +kernel
theorem dX9_make_11 : decode cX9_make 11 = .ok (.iconst 4, 1) := by decide +kernel
theorem dX9_make_12 : decode cX9_make 12 = .ok (.invokevirtual 147, 3) := by decide +kernel
theorem dX9_make_15 : decode cX9_make 15 = .ok (.ifCond .eq 9, 3) := by decide +kernel
theorem dX9_make_18 : decode cX9_make 18 = .ok (.iload_n 3, 1) := by decide +kernel
theorem dX9_make_19 : decode cX9_make 19 = .ok (.bipush 60, 2) := by decide +kernel
theorem dX9_make_21 : decode cX9_make 21 = .ok (.if_icmp .le 5, 3) := by decide +kernel
theorem dX9_make_24 : decode cX9_make 24 = .ok (.iconst (-1), 1) := by decide +kernel
theorem dX9_make_25 : decode cX9_make 25 = .ok (.ireturn, 1) := by decide +kernel
theorem dX9_make_26 : decode cX9_make 26 = .ok (.iload_n 3, 1) := by decide +kernel
theorem dX9_make_27 : decode cX9_make 27 = .ok (.ifCond .ge 6, 3) := by decide +kernel
theorem dX9_make_30 : decode cX9_make 30 = .ok (.bipush (-14), 2) := by decide +kernel
theorem dX9_make_32 : decode cX9_make 32 = .ok (.ireturn, 1) := by decide +kernel
theorem dX9_make_33 : decode cX9_make 33 = .ok (.aload_n 0, 1) := by decide +kernel
theorem dX9_make_34 : decode cX9_make 34 = .ok (.getfield 132, 3) := by decide +kernel
theorem dX9_make_37 : decode cX9_make 37 = .ok (.iload_n 1, 1) := by decide +kernel
theorem dX9_make_38 : decode cX9_make 38 = .ok (.iload_n 2, 1) := by decide +kernel
theorem dX9_make_39 : decode cX9_make 39 = .ok (.iastore, 1) := by decide +kernel
theorem dX9_make_40 : decode cX9_make 40 = .ok (.aload_n 0, 1) := by decide +kernel
theorem dX9_make_41 : decode cX9_make 41 = .ok (.getfield 138, 3) := by decide +kernel
theorem dX9_make_44 : decode cX9_make 44 = .ok (.iload_n 1, 1) := by decide +kernel
theorem dX9_make_45 : decode cX9_make 45 = .ok (.iload_n 3, 1) := by decide +kernel
theorem dX9_make_46 : decode cX9_make 46 = .ok (.iastore, 1) := by decide +kernel
theorem dX9_make_47 : decode cX9_make 47 = .ok (.aload_n 0, 1) := by decide +kernel
theorem dX9_make_48 : decode cX9_make 48 = .ok (.iload_n 1, 1) := by decide +kernel
theorem dX9_make_49 : decode cX9_make 49 = .ok (.invokevirtual 261, 3) := by decide +kernel
theorem dX9_make_52 : decode cX9_make 52 = .ok (.iconst 0, 1) := by decide +kernel
theorem dX9_make_53 : decode cX9_make 53 = .ok (.ireturn, 1) := by decide +kernel
theorem dX9_element_0 : decode cX9_element 0 = .ok (.aload_n 0, 1) := by decide +kernel
theorem dX9_element_1 : decode cX9_element 1 = .ok (.aload_n 0, 1) := by decide +kernel
theorem dX9_element_2 : decode cX9_element 2 = .ok (.iload_n 1, 1) := by decide +kernel
theorem dX9_element_3 : decode cX9_element 3 = .ok (.invokevirtual 258, 3) := by decide +kernel
theorem dX9_element_6 : decode cX9_element 6 = .ok (.ifCond .ne 7, 3) := by decide +kernel
theorem dX9_element_9 : decode cX9_element 9 = .ok (.iconst 1, 1) := by decide +kernel
theorem dX9_element_10 : decode cX9_element 10 = .ok (.goto 35, 3) := by decide +kernel
theorem dX9_element_13 : decode cX9_element 13 = .ok (.aload_n 0, 1) := by decide +kernel
theorem dX9_element_14 : decode cX9_element 14 = .ok (.getfield 132, 3) := by decide +kernel
theorem dX9_element_17 : decode cX9_element 17 = .ok (.iload_n 1, 1) := by decide +kernel
theorem dX9_element_18 : decode cX9_element 18 = .ok (.iaload, 1) := by decide +kernel
theorem dX9_element_19 : decode cX9_element 19 = .ok (.iconst 3, 1) := by decide +kernel
theorem dX9_element_20 : decode cX9_element 20 = .ok (.if_icmp .lt 20, 3) := by decide +kernel
theorem dX9_element_23 : decode cX9_element 23 = .ok (.aload_n 0, 1) := by decide +kernel
theorem dX9_element_24 : decode cX9_element 24 = .ok (.iload_n 2, 1) := by decide +kernel
theorem dX9_element_25 : decode cX9_element 25 = .ok (.iconst 0, 1) := by decide +kernel
theorem dX9_element_26 : decode cX9_element 26 = .ok (.aload_n 0, 1) := by decide +kernel
theorem dX9_element_27 : decode cX9_element 27 = .ok (.getfield 138, 3) := by decide +kernel
theorem dX9_element_30 : decode cX9_element 30 = .ok (.iload_n 1, 1) := by decide +kernel
theorem dX9_element_31 : decode cX9_element 31 = .ok (.iaload, 1) := by decide +kernel
theorem dX9_element_32 : decode cX9_element 32 = .ok (.iconst 1, 1) := by decide +kernel
theorem dX9_element_33 : decode cX9_element 33 = .ok (.isub, 1) := by decide +kernel
theorem dX9_element_34 : decode cX9_element 34 = .ok (.invokevirtual 147, 3) := by decide +kernel
theorem dX9_element_37 : decode cX9_element 37 = .ok (.ifCond .ne 7, 3) := by decide +kernel
theorem dX9_element_40 : decode cX9_element 40 = .ok (.iconst 2, 1) := by decide +kernel
theorem dX9_element_41 : decode cX9_element 41 = .ok (.goto 4, 3) := by decide +kernel
theorem dX9_element_44 : decode cX9_element 44 = .ok (.iconst 0, 1) := by decide +kernel
theorem dX9_element_45 : decode cX9_element 45 = .ok (.putfield 1, 3) := by decide +kernel
theorem dX9_element_48 : decode cX9_element 48 = .ok (.aload_n 0, 1) := by decide +kernel
theorem dX9_element_49 : decode cX9_element 49 = .ok (.getfield 1, 3) := by decide +kernel
theorem dX9_element_52 : decode cX9_element 52 = .ok (.ifCond .le 7, 3) := by decide +kernel
theorem dX9_element_55 : decode cX9_element 55 = .ok (.lconst 0, 1) := by decide +kernel
theorem dX9_element_56 : decode cX9_element 56 = .ok (.goto 16, 3) := by decide +kernel
theorem dX9_element_59 : decode cX9_element 59 = .ok (.aload_n 0, 1) := by decide +kernel
theorem dX9_element_60 : decode cX9_element 60 = .ok (.getfield 141, 3) := by decide +kernel
theorem dX9_element_63 : decode cX9_element 63 = .ok (.sipush 200, 3) := by decide +kernel
theorem dX9_element_66 : decode cX9_element 66 = .ok (.iload_n 1, 1) := by decide +kernel
theorem dX9_element_67 : decode cX9_element 67 = .ok (.imul, 1) := by decide +kernel
theorem dX9_element_68 : decode cX9_element 68 = .ok (.iload_n 2, 1) := by decide +kernel
theorem dX9_element_69 : decode cX9_element 69 = .ok (.iadd, 1) := by decide +kernel
theorem dX9_element_70 : decode cX9_element 70 = .ok (.iaload, 1) := by decide +kernel
theorem dX9_element_71 : decode cX9_element 71 = .ok (.i2l, 1) := by decide +kernel
theorem dX9_element_72 : decode cX9_element 72 = .ok (.lreturn, 1) := by decide +kernel
theorem dX9_copy_0 : decode cX9_copy 0 = .ok (.aload_n 0, 1) := by decide +kernel
theorem dX9_copy_1 : decode cX9_copy 1 = .ok (.iload_n 1, 1) := by decide +kernel
theorem dX9_copy_2 : decode cX9_copy 2 = .ok (.invokevirtual 258, 3) := by decide +kernel
theorem dX9_copy_5 : decode cX9_copy 5 = .ok (.ifCond .eq 11, 3) := by decide +kernel
theorem dX9_copy_8 : decode cX9_copy 8 = .ok (.aload_n 0, 1) := by decide +kernel
theorem dX9_copy_9 : decode cX9_copy 9 = .ok (.iload_n 3, 1) := by decide +kernel
theorem dX9_copy_10 : decode cX9_copy 10 = .ok (.invokevirtual 258, 3) := by decide +kernel
theorem dX9_copy_13 : decode cX9_copy 13 = .ok (.ifCond .ne 5, 3) := by decide +kernel
theorem dX9_copy_16 : decode cX9_copy 16 = .ok (.iconst (-1), 1) := by decide +kernel
theorem dX9_copy_17 : decode cX9_copy 17 = .ok (.ireturn, 1) := by decide +kernel
theorem dX9_copy_18 : decode cX9_copy 18 = .ok (.aload_n 0, 1) := by decide +kernel
theorem dX9_copy_19 : decode cX9_copy 19 = .ok (.getfield 132, 3) := by decide +kernel
theorem dX9_copy_22 : decode cX9_copy 22 = .ok (.iload_n 1, 1) := by decide +kernel
theorem dX9_copy_23 : decode cX9_copy 23 = .ok (.iaload, 1) := by decide +kernel
theorem dX9_copy_24 : decode cX9_copy 24 = .ok (.ifCond .eq 12, 3) := by decide +kernel
theorem dX9_copy_27 : decode cX9_copy 27 = .ok (.aload_n 0, 1) := by decide +kernel
theorem dX9_copy_28 : decode cX9_copy 28 = .ok (.getfield 132, 3) := by decide +kernel
theorem dX9_copy_31 : decode cX9_copy 31 = .ok (.iload_n 3, 1) := by decide +kernel
theorem dX9_copy_32 : decode cX9_copy 32 = .ok (.iaload, 1) := by decide +kernel
theorem dX9_copy_33 : decode cX9_copy 33 = .ok (.ifCond .ne 6, 3) := by decide +kernel
theorem dX9_copy_36 : decode cX9_copy 36 = .ok (.bipush (-11), 2) := by decide +kernel
theorem dX9_copy_38 : decode cX9_copy 38 = .ok (.ireturn, 1) := by decide +kernel
theorem dX9_copy_39 : decode cX9_copy 39 = .ok (.aload_n 0, 1) := by decide +kernel
theorem dX9_copy_40 : decode cX9_copy 40 = .ok (.getfield 132, 3) := by decide +kernel
theorem dX9_copy_43 : decode cX9_copy 43 = .ok (.iload_n 1, 1) := by decide +kernel
theorem dX9_copy_44 : decode cX9_copy 44 = .ok (.iaload, 1) := by decide +kernel
theorem dX9_copy_45 : decode cX9_copy 45 = .ok (.iconst 3, 1) := by decide +kernel
theorem dX9_copy_46 : decode cX9_copy 46 = .ok (.if_icmp .lt 18, 3) := by decide +kernel
theorem dX9_copy_49 : decode cX9_copy 49 = .ok (.aload_n 0, 1) := by decide +kernel
theorem dX9_copy_50 : decode cX9_copy 50 = .ok (.getfield 132, 3) := by decide +kernel
theorem dX9_copy_53 : decode cX9_copy 53 = .ok (.iload_n 1, 1) := by decide +kernel
theorem dX9_copy_54 : decode cX9_copy 54 = .ok (.iaload, 1) := by decide +kernel
theorem dX9_copy_55 : decode cX9_copy 55 = .ok (.aload_n 0, 1) := by decide +kernel
theorem dX9_copy_56 : decode cX9_copy 56 = .ok (.getfield 132, 3) := by decide +kernel
theorem dX9_copy_59 : decode cX9_copy 59 = .ok (.iload_n 3, 1) := by decide +kernel
theorem dX9_copy_60 : decode cX9_copy 60 = .ok (.iaload, 1) := by decide +kernel
theorem dX9_copy_61 : decode cX9_copy 61 = .ok (.if_icmp .eq 6, 3) := by decide +kernel
theorem dX9_copy_64 : decode cX9_copy 64 = .ok (.bipush (-12), 2) := by decide +kernel
theorem dX9_copy_66 : decode cX9_copy 66 = .ok (.ireturn, 1) := by decide +kernel
theorem dX9_copy_67 : decode cX9_copy 67 = .ok (.iload 5, 2) := by decide +kernel
theorem dX9_copy_69 : decode cX9_copy 69 = .ok (.ifCond .lt 39, 3) := by decide +kernel
theorem dX9_copy_72 : decode cX9_copy 72 = .ok (.iload_n 2, 1) := by decide +kernel
theorem dX9_copy_73 : decode cX9_copy 73 = .ok (.ifCond .lt 35, 3) := by decide +kernel
theorem dX9_copy_76 : decode cX9_copy 76 = .ok (.iload 4, 2) := by decide +kernel
theorem dX9_copy_78 : decode cX9_copy 78 = .ok (.ifCond .lt 30, 3) := by decide +kernel
theorem dX9_copy_81 : decode cX9_copy 81 = .ok (.iload_n 2, 1) := by decide +kernel
theorem dX9_copy_82 : decode cX9_copy 82 = .ok (.aload_n 0, 1) := by decide +kernel
theorem dX9_copy_83 : decode cX9_copy 83 = .ok (.getfield 138, 3) := by decide +kernel
theorem dX9_copy_86 : decode cX9_copy 86 = .ok (.iload_n 1, 1) := by decide +kernel
theorem dX9_copy_87 : decode cX9_copy 87 = .ok (.iaload, 1) := by decide +kernel
theorem dX9_copy_88 : decode cX9_copy 88 = .ok (.iload 5, 2) := by decide +kernel
theorem dX9_copy_90 : decode cX9_copy 90 = .ok (.isub, 1) := by decide +kernel
theorem dX9_copy_91 : decode cX9_copy 91 = .ok (.if_icmp .gt 17, 3) := by decide +kernel
theorem dX9_copy_94 : decode cX9_copy 94 = .ok (.iload 4, 2) := by decide +kernel
theorem dX9_copy_96 : decode cX9_copy 96 = .ok (.aload_n 0, 1) := by decide +kernel
theorem dX9_copy_97 : decode cX9_copy 97 = .ok (.getfield 138, 3) := by decide +kernel
theorem dX9_copy_100 : decode cX9_copy 100 = .ok (.iload_n 3, 1) := by decide +kernel
theorem dX9_copy_101 : decode cX9_copy 101 = .ok (.iaload, 1) := by decide +kernel
theorem dX9_copy_102 : decode cX9_copy 102 = .ok (.iload 5, 2) := by decide +kernel
theorem dX9_copy_104 : decode cX9_copy 104 = .ok (.isub, 1) := by decide +kernel
theorem dX9_copy_105 : decode cX9_copy 105 = .ok (.if_icmp .le 6, 3) := by decide +kernel
theorem dX9_copy_108 : decode cX9_copy 108 = .ok (.bipush (-13), 2) := by decide +kernel
theorem dX9_copy_110 : decode cX9_copy 110 = .ok (.ireturn, 1) := by decide +kernel
theorem dX9_copy_111 : decode cX9_copy 111 = .ok (.iconst 0, 1) := by decide +kernel
theorem dX9_copy_112 : decode cX9_copy 112 = .ok (.istore 6, 2) := by decide +kernel
theorem dX9_copy_114 : decode cX9_copy 114 = .ok (.iload 6, 2) := by decide +kernel
theorem dX9_copy_116 : decode cX9_copy 116 = .ok (.iload 5, 2) := by decide +kernel
theorem dX9_copy_118 : decode cX9_copy 118 = .ok (.if_icmp .ge 31, 3) := by decide +kernel
theorem dX9_copy_121 : decode cX9_copy 121 = .ok (.aload_n 0, 1) := by decide +kernel
theorem dX9_copy_122 : decode cX9_copy 122 = .ok (.getfield 144, 3) := by decide +kernel
theorem dX9_copy_125 : decode cX9_copy 125 = .ok (.iload 6, 2) := by decide +kernel
theorem dX9_copy_127 : decode cX9_copy 127 = .ok (.aload_n 0, 1) := by decide +kernel
theorem dX9_copy_128 : decode cX9_copy 128 = .ok (.getfield 141, 3) := by decide +kernel
theorem dX9_copy_131 : decode cX9_copy 131 = .ok (.sipush 200, 3) := by decide +kernel
theorem dX9_copy_134 : decode cX9_copy 134 = .ok (.iload_n 1, 1) := by decide +kernel
theorem dX9_copy_135 : decode cX9_copy 135 = .ok (.imul, 1) := by decide +kernel
theorem dX9_copy_136 : decode cX9_copy 136 = .ok (.iload_n 2, 1) := by decide +kernel
theorem dX9_copy_137 : decode cX9_copy 137 = .ok (.iadd, 1) := by decide +kernel
theorem dX9_copy_138 : decode cX9_copy 138 = .ok (.iload 6, 2) := by decide +kernel
theorem dX9_copy_140 : decode cX9_copy 140 = .ok (.iadd, 1) := by decide +kernel
theorem dX9_copy_141 : decode cX9_copy 141 = .ok (.iaload, 1) := by decide +kernel
theorem dX9_copy_142 : decode cX9_copy 142 = .ok (.iastore, 1) := by decide +kernel
theorem dX9_copy_143 : decode cX9_copy 143 = .ok (.iinc 6 1, 3) := by decide +kernel
theorem dX9_copy_146 : decode cX9_copy 146 = .ok (.goto (-32), 3) := by decide +kernel
theorem dX9_copy_149 : decode cX9_copy 149 = .ok (.iconst 0, 1) := by decide +kernel
theorem dX9_copy_150 : decode cX9_copy 150 = .ok (.istore 6, 2) := by decide +kernel
theorem dX9_copy_152 : decode cX9_copy 152 = .ok (.iload 6, 2) := by decide +kernel
theorem dX9_copy_154 : decode cX9_copy 154 = .ok (.iload 5, 2) := by decide +kernel
theorem dX9_copy_156 : decode cX9_copy 156 = .ok (.if_icmp .ge 32, 3) := by decide +kernel
theorem dX9_copy_159 : decode cX9_copy 159 = .ok (.aload_n 0, 1) := by decide +kernel
theorem dX9_copy_160 : decode cX9_copy 160 = .ok (.getfield 141, 3) := by decide +kernel
theorem dX9_copy_163 : decode cX9_copy 163 = .ok (.sipush 200, 3) := by decide +kernel
theorem dX9_copy_166 : decode cX9_copy 166 = .ok (.iload_n 3, 1) := by decide +kernel
theorem dX9_copy_167 : decode cX9_copy 167 = .ok (.imul, 1) := by decide +kernel
theorem dX9_copy_168 : decode cX9_copy 168 = .ok (.iload 4, 2) := by decide +kernel
theorem dX9_copy_170 : decode cX9_copy 170 = .ok (.iadd, 1) := by decide +kernel
theorem dX9_copy_171 : decode cX9_copy 171 = .ok (.iload 6, 2) := by decide +kernel
theorem dX9_copy_173 : decode cX9_copy 173 = .ok (.iadd, 1) := by decide +kernel
theorem dX9_copy_174 : decode cX9_copy 174 = .ok (.aload_n 0, 1) := by decide +kernel
theorem dX9_copy_175 : decode cX9_copy 175 = .ok (.getfield 144, 3) := by decide +kernel
theorem dX9_copy_178 : decode cX9_copy 178 = .ok (.iload 6, 2) := by decide +kernel
theorem dX9_copy_180 : decode cX9_copy 180 = .ok (.iaload, 1) := by decide +kernel
theorem dX9_copy_181 : decode cX9_copy 181 = .ok (.iastore, 1) := by decide +kernel
theorem dX9_copy_182 : decode cX9_copy 182 = .ok (.iinc 6 1, 3) := by decide +kernel
theorem dX9_copy_185 : decode cX9_copy 185 = .ok (.goto (-33), 3) := by decide +kernel
theorem dX9_copy_188 : decode cX9_copy 188 = .ok (.iload 5, 2) := by decide +kernel
theorem dX9_copy_190 : decode cX9_copy 190 = .ok (.ireturn, 1) := by decide +kernel
theorem dX9_lacksLaw_0 : decode cX9_lacksLaw 0 = .ok (.aload_n 0, 1) := by decide +kernel
theorem dX9_lacksLaw_1 : decode cX9_lacksLaw 1 = .ok (.iload_n 1, 1) := by decide +kernel
theorem dX9_lacksLaw_2 : decode cX9_lacksLaw 2 = .ok (.invokevirtual 258, 3) := by decide +kernel
theorem dX9_lacksLaw_5 : decode cX9_lacksLaw 5 = .ok (.ifCond .ne 7, 3) := by decide +kernel
theorem dX9_lacksLaw_8 : decode cX9_lacksLaw 8 = .ok (.iconst (-1), 1) := by decide +kernel
theorem dX9_lacksLaw_9 : decode cX9_lacksLaw 9 = .ok (.goto 33, 3) := by decide +kernel
theorem dX9_lacksLaw_12 : decode cX9_lacksLaw 12 = .ok (.aload_n 0, 1) := by decide +kernel
theorem dX9_lacksLaw_13 : decode cX9_lacksLaw 13 = .ok (.getfield 132, 3) := by decide +kernel
theorem dX9_lacksLaw_16 : decode cX9_lacksLaw 16 = .ok (.iload_n 1, 1) := by decide +kernel
theorem dX9_lacksLaw_17 : decode cX9_lacksLaw 17 = .ok (.iaload, 1) := by decide +kernel
theorem dX9_lacksLaw_18 : decode cX9_lacksLaw 18 = .ok (.ifCond .ne 8, 3) := by decide +kernel
theorem dX9_lacksLaw_21 : decode cX9_lacksLaw 21 = .ok (.bipush (-11), 2) := by decide +kernel
theorem dX9_lacksLaw_23 : decode cX9_lacksLaw 23 = .ok (.goto 19, 3) := by decide +kernel
theorem dX9_lacksLaw_26 : decode cX9_lacksLaw 26 = .ok (.aload_n 0, 1) := by decide +kernel
theorem dX9_lacksLaw_27 : decode cX9_lacksLaw 27 = .ok (.getfield 132, 3) := by decide +kernel
theorem dX9_lacksLaw_30 : decode cX9_lacksLaw 30 = .ok (.iload_n 1, 1) := by decide +kernel
theorem dX9_lacksLaw_31 : decode cX9_lacksLaw 31 = .ok (.iaload, 1) := by decide +kernel
theorem dX9_lacksLaw_32 : decode cX9_lacksLaw 32 = .ok (.iconst 1, 1) := by decide +kernel
theorem dX9_lacksLaw_33 : decode cX9_lacksLaw 33 = .ok (.if_icmp .eq 8, 3) := by decide +kernel
theorem dX9_lacksLaw_36 : decode cX9_lacksLaw 36 = .ok (.bipush (-12), 2) := by decide +kernel
theorem dX9_lacksLaw_38 : decode cX9_lacksLaw 38 = .ok (.goto 4, 3) := by decide +kernel
theorem dX9_lacksLaw_41 : decode cX9_lacksLaw 41 = .ok (.iconst 0, 1) := by decide +kernel
theorem dX9_lacksLaw_42 : decode cX9_lacksLaw 42 = .ok (.ireturn, 1) := by decide +kernel
theorem dX9_weight_0 : decode cX9_weight 0 = .ok (.aload_n 0, 1) := by decide +kernel
theorem dX9_weight_1 : decode cX9_weight 1 = .ok (.iload_n 1, 1) := by decide +kernel
theorem dX9_weight_2 : decode cX9_weight 2 = .ok (.invokevirtual 264, 3) := by decide +kernel
theorem dX9_weight_5 : decode cX9_weight 5 = .ok (.ifCond .eq 9, 3) := by decide +kernel
theorem dX9_weight_8 : decode cX9_weight 8 = .ok (.aload_n 0, 1) := by decide +kernel
theorem dX9_weight_9 : decode cX9_weight 9 = .ok (.iload_n 1, 1) := by decide +kernel
theorem dX9_weight_10 : decode cX9_weight 10 = .ok (.invokevirtual 264, 3) := by decide +kernel
theorem dX9_weight_13 : decode cX9_weight 13 = .ok (.ireturn, 1) := by decide +kernel
theorem dX9_weight_14 : decode cX9_weight 14 = .ok (.aload_n 0, 1) := by decide +kernel
theorem dX9_weight_15 : decode cX9_weight 15 = .ok (.getfield 135, 3) := by decide +kernel
theorem dX9_weight_18 : decode cX9_weight 18 = .ok (.iload_n 1, 1) := by decide +kernel
theorem dX9_weight_19 : decode cX9_weight 19 = .ok (.iaload, 1) := by decide +kernel
theorem dX9_weight_20 : decode cX9_weight 20 = .ok (.istore_n 2, 1) := by decide +kernel
theorem dX9_weight_21 : decode cX9_weight 21 = .ok (.aload_n 0, 1) := by decide +kernel
theorem dX9_weight_22 : decode cX9_weight 22 = .ok (.getfield 51, 3) := by decide +kernel
theorem dX9_weight_25 : decode cX9_weight 25 = .ok (.iload_n 2, 1) := by decide +kernel
theorem dX9_weight_26 : decode cX9_weight 26 = .ok (.iaload, 1) := by decide +kernel
theorem dX9_weight_27 : decode cX9_weight 27 = .ok (.istore_n 3, 1) := by decide +kernel
theorem dX9_weight_28 : decode cX9_weight 28 = .ok (.bipush 10, 2) := by decide +kernel
theorem dX9_weight_30 : decode cX9_weight 30 = .ok (.iload_n 3, 1) := by decide +kernel
theorem dX9_weight_31 : decode cX9_weight 31 = .ok (.iadd, 1) := by decide +kernel
theorem dX9_weight_32 : decode cX9_weight 32 = .ok (.iload_n 3, 1) := by decide +kernel
theorem dX9_weight_33 : decode cX9_weight 33 = .ok (.iconst 5, 1) := by decide +kernel
theorem dX9_weight_34 : decode cX9_weight 34 = .ok (.if_icmp .ne 7, 3) := by decide +kernel
theorem dX9_weight_37 : decode cX9_weight 37 = .ok (.iconst 0, 1) := by decide +kernel
theorem dX9_weight_38 : decode cX9_weight 38 = .ok (.goto 12, 3) := by decide +kernel
theorem dX9_weight_41 : decode cX9_weight 41 = .ok (.bipush 100, 2) := by decide +kernel
theorem dX9_weight_43 : decode cX9_weight 43 = .ok (.aload_n 0, 1) := by decide +kernel
theorem dX9_weight_44 : decode cX9_weight 44 = .ok (.getfield 57, 3) := by decide +kernel
theorem dX9_weight_47 : decode cX9_weight 47 = .ok (.iload_n 2, 1) := by decide +kernel
theorem dX9_weight_48 : decode cX9_weight 48 = .ok (.iaload, 1) := by decide +kernel
theorem dX9_weight_49 : decode cX9_weight 49 = .ok (.iadd, 1) := by decide +kernel
theorem dX9_weight_50 : decode cX9_weight 50 = .ok (.iadd, 1) := by decide +kernel
theorem dX9_weight_51 : decode cX9_weight 51 = .ok (.iload_n 3, 1) := by decide +kernel
theorem dX9_weight_52 : decode cX9_weight 52 = .ok (.ifCond .eq 8, 3) := by decide +kernel
theorem dX9_weight_55 : decode cX9_weight 55 = .ok (.iload_n 3, 1) := by decide +kernel
theorem dX9_weight_56 : decode cX9_weight 56 = .ok (.iconst 4, 1) := by decide +kernel
theorem dX9_weight_57 : decode cX9_weight 57 = .ok (.if_icmp .ne 7, 3) := by decide +kernel
theorem dX9_weight_60 : decode cX9_weight 60 = .ok (.iconst 0, 1) := by decide +kernel
theorem dX9_weight_61 : decode cX9_weight 61 = .ok (.goto 6, 3) := by decide +kernel
theorem dX9_weight_64 : decode cX9_weight 64 = .ok (.sipush 1000, 3) := by decide +kernel
theorem dX9_weight_67 : decode cX9_weight 67 = .ok (.iadd, 1) := by decide +kernel
theorem dX9_weight_68 : decode cX9_weight 68 = .ok (.istore 4, 2) := by decide +kernel
theorem dX9_weight_70 : decode cX9_weight 70 = .ok (.iload_n 3, 1) := by decide +kernel
theorem dX9_weight_71 : decode cX9_weight 71 = .ok (.iconst 2, 1) := by decide +kernel
theorem dX9_weight_72 : decode cX9_weight 72 = .ok (.if_icmp .eq 8, 3) := by decide +kernel
theorem dX9_weight_75 : decode cX9_weight 75 = .ok (.iload_n 3, 1) := by decide +kernel
theorem dX9_weight_76 : decode cX9_weight 76 = .ok (.iconst 3, 1) := by decide +kernel
theorem dX9_weight_77 : decode cX9_weight 77 = .ok (.if_icmp .ne 10, 3) := by decide +kernel
theorem dX9_weight_80 : decode cX9_weight 80 = .ok (.iconst 2, 1) := by decide +kernel
theorem dX9_weight_81 : decode cX9_weight 81 = .ok (.iload 4, 2) := by decide +kernel
theorem dX9_weight_83 : decode cX9_weight 83 = .ok (.imul, 1) := by decide +kernel
theorem dX9_weight_84 : decode cX9_weight 84 = .ok (.goto 5, 3) := by decide +kernel
theorem dX9_weight_87 : decode cX9_weight 87 = .ok (.iload 4, 2) := by decide +kernel
theorem dX9_weight_89 : decode cX9_weight 89 = .ok (.ireturn, 1) := by decide +kernel
theorem dX9_toss_0 : decode cX9_toss 0 = .ok (.aload_n 0, 1) := by decide +kernel
theorem dX9_toss_1 : decode cX9_toss 1 = .ok (.iload_n 1, 1) := by decide +kernel
theorem dX9_toss_2 : decode cX9_toss 2 = .ok (.invokevirtual 264, 3) := by decide +kernel
theorem dX9_toss_5 : decode cX9_toss 5 = .ok (.ifCond .eq 9, 3) := by decide +kernel
theorem dX9_toss_8 : decode cX9_toss 8 = .ok (.aload_n 0, 1) := by decide +kernel
theorem dX9_toss_9 : decode cX9_toss 9 = .ok (.iload_n 1, 1) := by decide +kernel
theorem dX9_toss_10 : decode cX9_toss 10 = .ok (.invokevirtual 264, 3) := by decide +kernel
theorem dX9_toss_13 : decode cX9_toss 13 = .ok (.ireturn, 1) := by decide +kernel
theorem dX9_toss_14 : decode cX9_toss 14 = .ok (.aload_n 0, 1) := by decide +kernel
theorem dX9_toss_15 : decode cX9_toss 15 = .ok (.getfield 51, 3) := by decide +kernel
theorem dX9_toss_18 : decode cX9_toss 18 = .ok (.aload_n 0, 1) := by decide +kernel
theorem dX9_toss_19 : decode cX9_toss 19 = .ok (.getfield 135, 3) := by decide +kernel
theorem dX9_toss_22 : decode cX9_toss 22 = .ok (.iload_n 1, 1) := by decide +kernel
theorem dX9_toss_23 : decode cX9_toss 23 = .ok (.iaload, 1) := by decide +kernel
theorem dX9_toss_24 : decode cX9_toss 24 = .ok (.iaload, 1) := by decide +kernel
theorem dX9_toss_25 : decode cX9_toss 25 = .ok (.istore_n 2, 1) := by decide +kernel
theorem dX9_toss_26 : decode cX9_toss 26 = .ok (.iload_n 2, 1) := by decide +kernel
theorem dX9_toss_27 : decode cX9_toss 27 = .ok (.ifCond .eq 8, 3) := by decide +kernel
theorem dX9_toss_30 : decode cX9_toss 30 = .ok (.iload_n 2, 1) := by decide +kernel
theorem dX9_toss_31 : decode cX9_toss 31 = .ok (.iconst 4, 1) := by decide +kernel
theorem dX9_toss_32 : decode cX9_toss 32 = .ok (.if_icmp .ne 8, 3) := by decide +kernel
theorem dX9_toss_35 : decode cX9_toss 35 = .ok (.bipush (-15), 2) := by decide +kernel
theorem dX9_toss_37 : decode cX9_toss 37 = .ok (.goto 9, 3) := by decide +kernel
theorem dX9_toss_40 : decode cX9_toss 40 = .ok (.aload_n 0, 1) := by decide +kernel
theorem dX9_toss_41 : decode cX9_toss 41 = .ok (.getfield 135, 3) := by decide +kernel
theorem dX9_toss_44 : decode cX9_toss 44 = .ok (.iload_n 1, 1) := by decide +kernel
theorem dX9_toss_45 : decode cX9_toss 45 = .ok (.iaload, 1) := by decide +kernel
theorem dX9_toss_46 : decode cX9_toss 46 = .ok (.ireturn, 1) := by decide +kernel
