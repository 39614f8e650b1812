theorem dL_yard_0 : decode cL_yard 0 = .ok (.iload_n 1, 1) := by decide +kernel
theorem dL_yard_1 : decode cL_yard 1 = .ok (.bipush 9, 2) := by decide +kernel
theorem dL_yard_3 : decode cL_yard 3 = .ok (.invokestatic 41, 3) := by decide +kernel
theorem dL_yard_6 : decode cL_yard 6 = .ok (.istore 7, 2) := by decide +kernel
theorem dL_yard_8 : decode cL_yard 8 = .ok (.iload_n 2, 1) := by decide +kernel
theorem dL_yard_9 : decode cL_yard 9 = .ok (.bipush 6, 2) := by decide +kernel
theorem dL_yard_11 : decode cL_yard 11 = .ok (.invokestatic 41, 3) := by decide +kernel
theorem dL_yard_14 : decode cL_yard 14 = .ok (.istore 8, 2) := by decide +kernel
theorem dL_yard_16 : decode cL_yard 16 = .ok (.iload 7, 2) := by decide +kernel
theorem dL_yard_18 : decode cL_yard 18 = .ok (.iconst 3, 1) := by decide +kernel
theorem dL_yard_19 : decode cL_yard 19 = .ok (.if_icmp .ge 308, 3) := by decide +kernel
theorem dL_yard_22 : decode cL_yard 22 = .ok (.iconst 0, 1) := by decide +kernel
theorem dL_yard_23 : decode cL_yard 23 = .ok (.istore 9, 2) := by decide +kernel
theorem dL_yard_25 : decode cL_yard 25 = .ok (.iload 9, 2) := by decide +kernel
theorem dL_yard_27 : decode cL_yard 27 = .ok (.bipush 6, 2) := by decide +kernel
theorem dL_yard_29 : decode cL_yard 29 = .ok (.if_icmp .ge 21, 3) := by decide +kernel
theorem dL_yard_32 : decode cL_yard 32 = .ok (.aload 4, 2) := by decide +kernel
theorem dL_yard_34 : decode cL_yard 34 = .ok (.iload 9, 2) := by decide +kernel
theorem dL_yard_36 : decode cL_yard 36 = .ok (.iconst 0, 1) := by decide +kernel
theorem dL_yard_37 : decode cL_yard 37 = .ok (.invokestatic 9, 3) := by decide +kernel
theorem dL_yard_40 : decode cL_yard 40 = .ok (.iconst 1, 1) := by decide +kernel
theorem dL_yard_41 : decode cL_yard 41 = .ok (.if_icmp .ne 9, 3) := by decide +kernel
theorem dL_yard_44 : decode cL_yard 44 = .ok (.iinc 9 1, 3) := by decide +kernel
theorem dL_yard_47 : decode cL_yard 47 = .ok (.goto (-22), 3) := by decide +kernel
theorem dL_yard_50 : decode cL_yard 50 = .ok (.iload 9, 2) := by decide +kernel
theorem dL_yard_52 : decode cL_yard 52 = .ok (.bipush 6, 2) := by decide +kernel
theorem dL_yard_54 : decode cL_yard 54 = .ok (.if_icmp .ne 48, 3) := by decide +kernel
theorem dL_yard_57 : decode cL_yard 57 = .ok (.aload_n 0, 1) := by decide +kernel
theorem dL_yard_58 : decode cL_yard 58 = .ok (.iconst 3, 1) := by decide +kernel
theorem dL_yard_59 : decode cL_yard 59 = .ok (.iconst 5, 1) := by decide +kernel
theorem dL_yard_60 : decode cL_yard 60 = .ok (.iconst 1, 1) := by decide +kernel
theorem dL_yard_61 : decode cL_yard 61 = .ok (.iconst 3, 1) := by decide +kernel
theorem dL_yard_62 : decode cL_yard 62 = .ok (.invokevirtual 45, 3) := by decide +kernel
theorem dL_yard_65 : decode cL_yard 65 = .ok (.iconst (-1), 1) := by decide +kernel
theorem dL_yard_66 : decode cL_yard 66 = .ok (.if_icmp .ne 34, 3) := by decide +kernel
theorem dL_yard_69 : decode cL_yard 69 = .ok (.aload_n 0, 1) := by decide +kernel
theorem dL_yard_70 : decode cL_yard 70 = .ok (.iconst 2, 1) := by decide +kernel
theorem dL_yard_71 : decode cL_yard 71 = .ok (.iconst 5, 1) := by decide +kernel
theorem dL_yard_72 : decode cL_yard 72 = .ok (.iconst 1, 1) := by decide +kernel
theorem dL_yard_73 : decode cL_yard 73 = .ok (.iconst 0, 1) := by decide +kernel
theorem dL_yard_74 : decode cL_yard 74 = .ok (.invokevirtual 45, 3) := by decide +kernel
theorem dL_yard_77 : decode cL_yard 77 = .ok (.bipush (-2), 2) := by decide +kernel
theorem dL_yard_79 : decode cL_yard 79 = .ok (.if_icmp .ne 21, 3) := by decide +kernel
theorem dL_yard_82 : decode cL_yard 82 = .ok (.aload_n 0, 1) := by decide +kernel
theorem dL_yard_83 : decode cL_yard 83 = .ok (.iconst 3, 1) := by decide +kernel
theorem dL_yard_84 : decode cL_yard 84 = .ok (.bipush 41, 2) := by decide +kernel
theorem dL_yard_86 : decode cL_yard 86 = .ok (.iconst 1, 1) := by decide +kernel
theorem dL_yard_87 : decode cL_yard 87 = .ok (.iconst 0, 1) := by decide +kernel
theorem dL_yard_88 : decode cL_yard 88 = .ok (.invokevirtual 45, 3) := by decide +kernel
theorem dL_yard_91 : decode cL_yard 91 = .ok (.bipush (-2), 2) := by decide +kernel
theorem dL_yard_93 : decode cL_yard 93 = .ok (.if_icmp .ne 7, 3) := by decide +kernel
theorem dL_yard_96 : decode cL_yard 96 = .ok (.iconst 1, 1) := by decide +kernel
theorem dL_yard_97 : decode cL_yard 97 = .ok (.goto 4, 3) := by decide +kernel
theorem dL_yard_100 : decode cL_yard 100 = .ok (.iconst 0, 1) := by decide +kernel
theorem dL_yard_101 : decode cL_yard 101 = .ok (.ireturn, 1) := by decide +kernel
theorem dL_yard_102 : decode cL_yard 102 = .ok (.aload 4, 2) := by decide +kernel
theorem dL_yard_104 : decode cL_yard 104 = .ok (.bipush 10, 2) := by decide +kernel
theorem dL_yard_106 : decode cL_yard 106 = .ok (.iload 9, 2) := by decide +kernel
theorem dL_yard_108 : decode cL_yard 108 = .ok (.imul, 1) := by decide +kernel
theorem dL_yard_109 : decode cL_yard 109 = .ok (.iconst 1, 1) := by decide +kernel
theorem dL_yard_110 : decode cL_yard 110 = .ok (.iastore, 1) := by decide +kernel
theorem dL_yard_111 : decode cL_yard 111 = .ok (.aload 4, 2) := by decide +kernel
theorem dL_yard_113 : decode cL_yard 113 = .ok (.bipush 10, 2) := by decide +kernel
theorem dL_yard_115 : decode cL_yard 115 = .ok (.iload 9, 2) := by decide +kernel
theorem dL_yard_117 : decode cL_yard 117 = .ok (.imul, 1) := by decide +kernel
theorem dL_yard_118 : decode cL_yard 118 = .ok (.iconst 1, 1) := by decide +kernel
theorem dL_yard_119 : decode cL_yard 119 = .ok (.iadd, 1) := by decide +kernel
theorem dL_yard_120 : decode cL_yard 120 = .ok (.iconst 3, 1) := by decide +kernel
theorem dL_yard_121 : decode cL_yard 121 = .ok (.iload_n 2, 1) := by decide +kernel
theorem dL_yard_122 : decode cL_yard 122 = .ok (.bipush 18, 2) := by decide +kernel
theorem dL_yard_124 : decode cL_yard 124 = .ok (.invokestatic 41, 3) := by decide +kernel
theorem dL_yard_127 : decode cL_yard 127 = .ok (.iadd, 1) := by decide +kernel
theorem dL_yard_128 : decode cL_yard 128 = .ok (.iastore, 1) := by decide +kernel
theorem dL_yard_129 : decode cL_yard 129 = .ok (.aload 4, 2) := by decide +kernel
theorem dL_yard_131 : decode cL_yard 131 = .ok (.bipush 10, 2) := by decide +kernel
theorem dL_yard_133 : decode cL_yard 133 = .ok (.iload 9, 2) := by decide +kernel
theorem dL_yard_135 : decode cL_yard 135 = .ok (.imul, 1) := by decide +kernel
theorem dL_yard_136 : decode cL_yard 136 = .ok (.iconst 2, 1) := by decide +kernel
theorem dL_yard_137 : decode cL_yard 137 = .ok (.iadd, 1) := by decide +kernel
theorem dL_yard_138 : decode cL_yard 138 = .ok (.iconst 5, 1) := by decide +kernel
theorem dL_yard_139 : decode cL_yard 139 = .ok (.iload_n 2, 1) := by decide +kernel
theorem dL_yard_140 : decode cL_yard 140 = .ok (.iconst 5, 1) := by decide +kernel
theorem dL_yard_141 : decode cL_yard 141 = .ok (.ishr, 1) := by decide +kernel
theorem dL_yard_142 : decode cL_yard 142 = .ok (.iload_n 2, 1) := by decide +kernel
theorem dL_yard_143 : decode cL_yard 143 = .ok (.iconst 4, 1) := by decide +kernel
theorem dL_yard_144 : decode cL_yard 144 = .ok (.ishr, 1) := by decide +kernel
theorem dL_yard_145 : decode cL_yard 145 = .ok (.iconst 3, 1) := by decide +kernel
theorem dL_yard_146 : decode cL_yard 146 = .ok (.iand, 1) := by decide +kernel
theorem dL_yard_147 : decode cL_yard 147 = .ok (.ifCond .ne 8, 3) := by decide +kernel
theorem dL_yard_150 : decode cL_yard 150 = .ok (.bipush 36, 2) := by decide +kernel
theorem dL_yard_152 : decode cL_yard 152 = .ok (.goto 5, 3) := by decide +kernel
theorem dL_yard_155 : decode cL_yard 155 = .ok (.bipush 27, 2) := by decide +kernel
theorem dL_yard_157 : decode cL_yard 157 = .ok (.invokestatic 41, 3) := by decide +kernel
theorem dL_yard_160 : decode cL_yard 160 = .ok (.iadd, 1) := by decide +kernel
theorem dL_yard_161 : decode cL_yard 161 = .ok (.iastore, 1) := by decide +kernel
theorem dL_yard_162 : decode cL_yard 162 = .ok (.aload 4, 2) := by decide +kernel
theorem dL_yard_164 : decode cL_yard 164 = .ok (.bipush 10, 2) := by decide +kernel
theorem dL_yard_166 : decode cL_yard 166 = .ok (.iload 9, 2) := by decide +kernel
theorem dL_yard_168 : decode cL_yard 168 = .ok (.imul, 1) := by decide +kernel
theorem dL_yard_169 : decode cL_yard 169 = .ok (.iconst 3, 1) := by decide +kernel
theorem dL_yard_170 : decode cL_yard 170 = .ok (.iadd, 1) := by decide +kernel
theorem dL_yard_171 : decode cL_yard 171 = .ok (.iconst 1, 1) := by decide +kernel
theorem dL_yard_172 : decode cL_yard 172 = .ok (.iload_n 2, 1) := by decide +kernel
theorem dL_yard_173 : decode cL_yard 173 = .ok (.bipush 8, 2) := by decide +kernel
theorem dL_yard_175 : decode cL_yard 175 = .ok (.ishr, 1) := by decide +kernel
theorem dL_yard_176 : decode cL_yard 176 = .ok (.iload_n 2, 1) := by decide +kernel
theorem dL_yard_177 : decode cL_yard 177 = .ok (.bipush 7, 2) := by decide +kernel
theorem dL_yard_179 : decode cL_yard 179 = .ok (.ishr, 1) := by decide +kernel
theorem dL_yard_180 : decode cL_yard 180 = .ok (.iconst 3, 1) := by decide +kernel
theorem dL_yard_181 : decode cL_yard 181 = .ok (.iand, 1) := by decide +kernel
theorem dL_yard_182 : decode cL_yard 182 = .ok (.ifCond .ne 8, 3) := by decide +kernel
theorem dL_yard_185 : decode cL_yard 185 = .ok (.bipush 30, 2) := by decide +kernel
theorem dL_yard_187 : decode cL_yard 187 = .ok (.goto 5, 3) := by decide +kernel
theorem dL_yard_190 : decode cL_yard 190 = .ok (.bipush 16, 2) := by decide +kernel
theorem dL_yard_192 : decode cL_yard 192 = .ok (.invokestatic 41, 3) := by decide +kernel
theorem dL_yard_195 : decode cL_yard 195 = .ok (.iadd, 1) := by decide +kernel
theorem dL_yard_196 : decode cL_yard 196 = .ok (.iastore, 1) := by decide +kernel
theorem dL_yard_197 : decode cL_yard 197 = .ok (.aload 4, 2) := by decide +kernel
theorem dL_yard_199 : decode cL_yard 199 = .ok (.bipush 10, 2) := by decide +kernel
theorem dL_yard_201 : decode cL_yard 201 = .ok (.iload 9, 2) := by decide +kernel
theorem dL_yard_203 : decode cL_yard 203 = .ok (.imul, 1) := by decide +kernel
theorem dL_yard_204 : decode cL_yard 204 = .ok (.iconst 4, 1) := by decide +kernel
theorem dL_yard_205 : decode cL_yard 205 = .ok (.iadd, 1) := by decide +kernel
theorem dL_yard_206 : decode cL_yard 206 = .ok (.iload_n 2, 1) := by decide +kernel
theorem dL_yard_207 : decode cL_yard 207 = .ok (.bipush 12, 2) := by decide +kernel
theorem dL_yard_209 : decode cL_yard 209 = .ok (.ishr, 1) := by decide +kernel
theorem dL_yard_210 : decode cL_yard 210 = .ok (.iconst 3, 1) := by decide +kernel
theorem dL_yard_211 : decode cL_yard 211 = .ok (.invokestatic 41, 3) := by decide +kernel
theorem dL_yard_214 : decode cL_yard 214 = .ok (.iastore, 1) := by decide +kernel
theorem dL_yard_215 : decode cL_yard 215 = .ok (.aload 4, 2) := by decide +kernel
theorem dL_yard_217 : decode cL_yard 217 = .ok (.bipush 10, 2) := by decide +kernel
theorem dL_yard_219 : decode cL_yard 219 = .ok (.iload 9, 2) := by decide +kernel
theorem dL_yard_221 : decode cL_yard 221 = .ok (.imul, 1) := by decide +kernel
theorem dL_yard_222 : decode cL_yard 222 = .ok (.iconst 5, 1) := by decide +kernel
theorem dL_yard_223 : decode cL_yard 223 = .ok (.iadd, 1) := by decide +kernel
theorem dL_yard_224 : decode cL_yard 224 = .ok (.iconst (-1), 1) := by decide +kernel
theorem dL_yard_225 : decode cL_yard 225 = .ok (.iastore, 1) := by decide +kernel
theorem dL_yard_226 : decode cL_yard 226 = .ok (.aload 4, 2) := by decide +kernel
theorem dL_yard_228 : decode cL_yard 228 = .ok (.bipush 10, 2) := by decide +kernel
theorem dL_yard_230 : decode cL_yard 230 = .ok (.iload 9, 2) := by decide +kernel
theorem dL_yard_232 : decode cL_yard 232 = .ok (.imul, 1) := by decide +kernel
theorem dL_yard_233 : decode cL_yard 233 = .ok (.bipush 6, 2) := by decide +kernel
theorem dL_yard_235 : decode cL_yard 235 = .ok (.iadd, 1) := by decide +kernel
theorem dL_yard_236 : decode cL_yard 236 = .ok (.iconst (-1), 1) := by decide +kernel
theorem dL_yard_237 : decode cL_yard 237 = .ok (.iastore, 1) := by decide +kernel
theorem dL_yard_238 : decode cL_yard 238 = .ok (.aload 4, 2) := by decide +kernel
theorem dL_yard_240 : decode cL_yard 240 = .ok (.bipush 10, 2) := by decide +kernel
theorem dL_yard_242 : decode cL_yard 242 = .ok (.iload 9, 2) := by decide +kernel
theorem dL_yard_244 : decode cL_yard 244 = .ok (.imul, 1) := by decide +kernel
theorem dL_yard_245 : decode cL_yard 245 = .ok (.bipush 7, 2) := by decide +kernel
theorem dL_yard_247 : decode cL_yard 247 = .ok (.iadd, 1) := by decide +kernel
theorem dL_yard_248 : decode cL_yard 248 = .ok (.iconst (-1), 1) := by decide +kernel
theorem dL_yard_249 : decode cL_yard 249 = .ok (.iastore, 1) := by decide +kernel
theorem dL_yard_250 : decode cL_yard 250 = .ok (.aload 4, 2) := by decide +kernel
theorem dL_yard_252 : decode cL_yard 252 = .ok (.bipush 10, 2) := by decide +kernel
theorem dL_yard_254 : decode cL_yard 254 = .ok (.iload 9, 2) := by decide +kernel
theorem dL_yard_256 : decode cL_yard 256 = .ok (.imul, 1) := by decide +kernel
theorem dL_yard_257 : decode cL_yard 257 = .ok (.bipush 8, 2) := by decide +kernel
theorem dL_yard_259 : decode cL_yard 259 = .ok (.iadd, 1) := by decide +kernel
theorem dL_yard_260 : decode cL_yard 260 = .ok (.iconst 0, 1) := by decide +kernel
theorem dL_yard_261 : decode cL_yard 261 = .ok (.iastore, 1) := by decide +kernel
theorem dL_yard_262 : decode cL_yard 262 = .ok (.aload 4, 2) := by decide +kernel
theorem dL_yard_264 : decode cL_yard 264 = .ok (.bipush 10, 2) := by decide +kernel
theorem dL_yard_266 : decode cL_yard 266 = .ok (.iload 9, 2) := by decide +kernel
theorem dL_yard_268 : decode cL_yard 268 = .ok (.imul, 1) := by decide +kernel
theorem dL_yard_269 : decode cL_yard 269 = .ok (.bipush 9, 2) := by decide +kernel
theorem dL_yard_271 : decode cL_yard 271 = .ok (.iadd, 1) := by decide +kernel
theorem dL_yard_272 : decode cL_yard 272 = .ok (.iconst 0, 1) := by decide +kernel
theorem dL_yard_273 : decode cL_yard 273 = .ok (.iastore, 1) := by decide +kernel
theorem dL_yard_274 : decode cL_yard 274 = .ok (.aload 5, 2) := by decide +kernel
theorem dL_yard_276 : decode cL_yard 276 = .ok (.iload 9, 2) := by decide +kernel
theorem dL_yard_278 : decode cL_yard 278 = .ok (.iconst 0, 1) := by decide +kernel
theorem dL_yard_279 : decode cL_yard 279 = .ok (.iastore, 1) := by decide +kernel
theorem dL_yard_280 : decode cL_yard 280 = .ok (.aload_n 0, 1) := by decide +kernel
theorem dL_yard_281 : decode cL_yard 281 = .ok (.aload 4, 2) := by decide +kernel
theorem dL_yard_283 : decode cL_yard 283 = .ok (.iload 9, 2) := by decide +kernel
theorem dL_yard_285 : decode cL_yard 285 = .ok (.iconst 1, 1) := by decide +kernel
theorem dL_yard_286 : decode cL_yard 286 = .ok (.invokestatic 9, 3) := by decide +kernel
theorem dL_yard_289 : decode cL_yard 289 = .ok (.aload 4, 2) := by decide +kernel
theorem dL_yard_291 : decode cL_yard 291 = .ok (.iload 9, 2) := by decide +kernel
theorem dL_yard_293 : decode cL_yard 293 = .ok (.iconst 2, 1) := by decide +kernel
theorem dL_yard_294 : decode cL_yard 294 = .ok (.invokestatic 9, 3) := by decide +kernel
theorem dL_yard_297 : decode cL_yard 297 = .ok (.aload 4, 2) := by decide +kernel
theorem dL_yard_299 : decode cL_yard 299 = .ok (.iload 9, 2) := by decide +kernel
theorem dL_yard_301 : decode cL_yard 301 = .ok (.iconst 3, 1) := by decide +kernel
theorem dL_yard_302 : decode cL_yard 302 = .ok (.invokestatic 9, 3) := by decide +kernel
theorem dL_yard_305 : decode cL_yard 305 = .ok (.aload 4, 2) := by decide +kernel
theorem dL_yard_307 : decode cL_yard 307 = .ok (.iload 9, 2) := by decide +kernel
theorem dL_yard_309 : decode cL_yard 309 = .ok (.iconst 4, 1) := by decide +kernel
theorem dL_yard_310 : decode cL_yard 310 = .ok (.invokestatic 9, 3) := by decide +kernel
theorem dL_yard_313 : decode cL_yard 313 = .ok (.invokevirtual 45, 3) := by decide +kernel
theorem dL_yard_316 : decode cL_yard 316 = .ok (.iload 9, 2) := by decide +kernel
theorem dL_yard_318 : decode cL_yard 318 = .ok (.if_icmp .ne 7, 3) := by decide +kernel
theorem dL_yard_321 : decode cL_yard 321 = .ok (.iconst 1, 1) := by decide +kernel
theorem dL_yard_322 : decode cL_yard 322 = .ok (.goto 4, 3) := by decide +kernel
theorem dL_yard_325 : decode cL_yard 325 = .ok (.iconst 0, 1) := by decide +kernel
theorem dL_yard_326 : decode cL_yard 326 = .ok (.ireturn, 1) := by decide +kernel
theorem dL_yard_327 : decode cL_yard 327 = .ok (.iload 7, 2) := by decide +kernel
theorem dL_yard_329 : decode cL_yard 329 = .ok (.iconst 3, 1) := by decide +kernel
theorem dL_yard_330 : decode cL_yard 330 = .ok (.if_icmp .ne 151, 3) := by decide +kernel
theorem dL_yard_333 : decode cL_yard 333 = .ok (.aload 4, 2) := by decide +kernel
theorem dL_yard_335 : decode cL_yard 335 = .ok (.iload 8, 2) := by decide +kernel
theorem dL_yard_337 : decode cL_yard 337 = .ok (.iconst 0, 1) := by decide +kernel
theorem dL_yard_338 : decode cL_yard 338 = .ok (.invokestatic 9, 3) := by decide +kernel
theorem dL_yard_341 : decode cL_yard 341 = .ok (.ifCond .ne 19, 3) := by decide +kernel
theorem dL_yard_344 : decode cL_yard 344 = .ok (.aload_n 0, 1) := by decide +kernel
theorem dL_yard_345 : decode cL_yard 345 = .ok (.iload 8, 2) := by decide +kernel
theorem dL_yard_347 : decode cL_yard 347 = .ok (.invokevirtual 51, 3) := by decide +kernel
theorem dL_yard_350 : decode cL_yard 350 = .ok (.iconst (-1), 1) := by decide +kernel
theorem dL_yard_351 : decode cL_yard 351 = .ok (.if_icmp .ne 7, 3) := by decide +kernel
theorem dL_yard_354 : decode cL_yard 354 = .ok (.iconst 1, 1) := by decide +kernel
theorem dL_yard_355 : decode cL_yard 355 = .ok (.goto 4, 3) := by decide +kernel
theorem dL_yard_358 : decode cL_yard 358 = .ok (.iconst 0, 1) := by decide +kernel
theorem dL_yard_359 : decode cL_yard 359 = .ok (.ireturn, 1) := by decide +kernel
theorem dL_yard_360 : decode cL_yard 360 = .ok (.iload_n 2, 1) := by decide +kernel
theorem dL_yard_361 : decode cL_yard 361 = .ok (.bipush 24, 2) := by decide +kernel
theorem dL_yard_363 : decode cL_yard 363 = .ok (.iand, 1) := by decide +kernel
theorem dL_yard_364 : decode cL_yard 364 = .ok (.ifCond .le 19, 3) := by decide +kernel
theorem dL_yard_367 : decode cL_yard 367 = .ok (.aload_n 0, 1) := by decide +kernel
theorem dL_yard_368 : decode cL_yard 368 = .ok (.bipush 6, 2) := by decide +kernel
theorem dL_yard_370 : decode cL_yard 370 = .ok (.invokevirtual 51, 3) := by decide +kernel
theorem dL_yard_373 : decode cL_yard 373 = .ok (.iconst (-1), 1) := by decide +kernel
theorem dL_yard_374 : decode cL_yard 374 = .ok (.if_icmp .ne 7, 3) := by decide +kernel
theorem dL_yard_377 : decode cL_yard 377 = .ok (.iconst 1, 1) := by decide +kernel
theorem dL_yard_378 : decode cL_yard 378 = .ok (.goto 4, 3) := by decide +kernel
theorem dL_yard_381 : decode cL_yard 381 = .ok (.iconst 0, 1) := by decide +kernel
theorem dL_yard_382 : decode cL_yard 382 = .ok (.ireturn, 1) := by decide +kernel
theorem dL_yard_383 : decode cL_yard 383 = .ok (.aload 4, 2) := by decide +kernel
theorem dL_yard_385 : decode cL_yard 385 = .ok (.iload 8, 2) := by decide +kernel
theorem dL_yard_387 : decode cL_yard 387 = .ok (.iconst 5, 1) := by decide +kernel
theorem dL_yard_388 : decode cL_yard 388 = .ok (.invokestatic 9, 3) := by decide +kernel
theorem dL_yard_391 : decode cL_yard 391 = .ok (.ifCond .ge 15, 3) := by decide +kernel
theorem dL_yard_394 : decode cL_yard 394 = .ok (.aload 4, 2) := by decide +kernel
theorem dL_yard_396 : decode cL_yard 396 = .ok (.iload 8, 2) := by decide +kernel
theorem dL_yard_398 : decode cL_yard 398 = .ok (.bipush 7, 2) := by decide +kernel
theorem dL_yard_400 : decode cL_yard 400 = .ok (.invokestatic 9, 3) := by decide +kernel
theorem dL_yard_403 : decode cL_yard 403 = .ok (.ifCond .lt 20, 3) := by decide +kernel
theorem dL_yard_406 : decode cL_yard 406 = .ok (.aload_n 0, 1) := by decide +kernel
theorem dL_yard_407 : decode cL_yard 407 = .ok (.iload 8, 2) := by decide +kernel
theorem dL_yard_409 : decode cL_yard 409 = .ok (.invokevirtual 51, 3) := by decide +kernel
theorem dL_yard_412 : decode cL_yard 412 = .ok (.bipush (-4), 2) := by decide +kernel
theorem dL_yard_414 : decode cL_yard 414 = .ok (.if_icmp .ne 7, 3) := by decide +kernel
theorem dL_yard_417 : decode cL_yard 417 = .ok (.iconst 1, 1) := by decide +kernel
theorem dL_yard_418 : decode cL_yard 418 = .ok (.goto 4, 3) := by decide +kernel
theorem dL_yard_421 : decode cL_yard 421 = .ok (.iconst 0, 1) := by decide +kernel
theorem dL_yard_422 : decode cL_yard 422 = .ok (.ireturn, 1) := by decide +kernel
theorem dL_yard_423 : decode cL_yard 423 = .ok (.aload 4, 2) := by decide +kernel
theorem dL_yard_425 : decode cL_yard 425 = .ok (.bipush 10, 2) := by decide +kernel
theorem dL_yard_427 : decode cL_yard 427 = .ok (.iload 8, 2) := by decide +kernel
theorem dL_yard_429 : decode cL_yard 429 = .ok (.imul, 1) := by decide +kernel
theorem dL_yard_430 : decode cL_yard 430 = .ok (.iconst 0, 1) := by decide +kernel
theorem dL_yard_431 : decode cL_yard 431 = .ok (.iastore, 1) := by decide +kernel
theorem dL_yard_432 : decode cL_yard 432 = .ok (.iconst 0, 1) := by decide +kernel
theorem dL_yard_433 : decode cL_yard 433 = .ok (.istore 9, 2) := by decide +kernel
theorem dL_yard_435 : decode cL_yard 435 = .ok (.iconst 0, 1) := by decide +kernel
theorem dL_yard_436 : decode cL_yard 436 = .ok (.istore 10, 2) := by decide +kernel
theorem dL_yard_438 : decode cL_yard 438 = .ok (.iload 10, 2) := by decide +kernel
theorem dL_yard_440 : decode cL_yard 440 = .ok (.bipush 6, 2) := by decide +kernel
theorem dL_yard_442 : decode cL_yard 442 = .ok (.if_icmp .ge 22, 3) := by decide +kernel
theorem dL_yard_445 : decode cL_yard 445 = .ok (.iload 9, 2) := by decide +kernel
theorem dL_yard_447 : decode cL_yard 447 = .ok (.aload 4, 2) := by decide +kernel
theorem dL_yard_449 : decode cL_yard 449 = .ok (.iload 10, 2) := by decide +kernel
theorem dL_yard_451 : decode cL_yard 451 = .ok (.iconst 0, 1) := by decide +kernel
theorem dL_yard_452 : decode cL_yard 452 = .ok (.invokestatic 9, 3) := by decide +kernel
theorem dL_yard_455 : decode cL_yard 455 = .ok (.iadd, 1) := by decide +kernel
theorem dL_yard_456 : decode cL_yard 456 = .ok (.istore 9, 2) := by decide +kernel
theorem dL_yard_458 : decode cL_yard 458 = .ok (.iinc 10 1, 3) := by decide +kernel
theorem dL_yard_461 : decode cL_yard 461 = .ok (.goto (-23), 3) := by decide +kernel
theorem dL_yard_464 : decode cL_yard 464 = .ok (.aload_n 0, 1) := by decide +kernel
theorem dL_yard_465 : decode cL_yard 465 = .ok (.iload 8, 2) := by decide +kernel
theorem dL_yard_467 : decode cL_yard 467 = .ok (.invokevirtual 51, 3) := by decide +kernel
theorem dL_yard_470 : decode cL_yard 470 = .ok (.iload 9, 2) := by decide +kernel
theorem dL_yard_472 : decode cL_yard 472 = .ok (.if_icmp .ne 7, 3) := by decide +kernel
theorem dL_yard_475 : decode cL_yard 475 = .ok (.iconst 1, 1) := by decide +kernel
theorem dL_yard_476 : decode cL_yard 476 = .ok (.goto 4, 3) := by decide +kernel
theorem dL_yard_479 : decode cL_yard 479 = .ok (.iconst 0, 1) := by decide +kernel
theorem dL_yard_480 : decode cL_yard 480 = .ok (.ireturn, 1) := by decide +kernel
theorem dL_yard_481 : decode cL_yard 481 = .ok (.iload 7, 2) := by decide +kernel
theorem dL_yard_483 : decode cL_yard 483 = .ok (.iconst 4, 1) := by decide +kernel
theorem dL_yard_484 : decode cL_yard 484 = .ok (.if_icmp .ne 123, 3) := by decide +kernel
theorem dL_yard_487 : decode cL_yard 487 = .ok (.iload_n 2, 1) := by decide +kernel
theorem dL_yard_488 : decode cL_yard 488 = .ok (.iconst 3, 1) := by decide +kernel
theorem dL_yard_489 : decode cL_yard 489 = .ok (.invokestatic 41, 3) := by decide +kernel
theorem dL_yard_492 : decode cL_yard 492 = .ok (.istore 9, 2) := by decide +kernel
theorem dL_yard_494 : decode cL_yard 494 = .ok (.iload_n 2, 1) := by decide +kernel
theorem dL_yard_495 : decode cL_yard 495 = .ok (.iconst 2, 1) := by decide +kernel
theorem dL_yard_496 : decode cL_yard 496 = .ok (.ishr, 1) := by decide +kernel
theorem dL_yard_497 : decode cL_yard 497 = .ok (.bipush 10, 2) := by decide +kernel
theorem dL_yard_499 : decode cL_yard 499 = .ok (.invokestatic 41, 3) := by decide +kernel
theorem dL_yard_502 : decode cL_yard 502 = .ok (.istore 10, 2) := by decide +kernel
theorem dL_yard_504 : decode cL_yard 504 = .ok (.aload_n 3, 1) := by decide +kernel
theorem dL_yard_505 : decode cL_yard 505 = .ok (.bipush 7, 2) := by decide +kernel
theorem dL_yard_507 : decode cL_yard 507 = .ok (.iload 9, 2) := by decide +kernel
theorem dL_yard_509 : decode cL_yard 509 = .ok (.iadd, 1) := by decide +kernel
theorem dL_yard_510 : decode cL_yard 510 = .ok (.iaload, 1) := by decide +kernel
theorem dL_yard_511 : decode cL_yard 511 = .ok (.istore 11, 2) := by decide +kernel
theorem dL_yard_513 : decode cL_yard 513 = .ok (.iload 9, 2) := by decide +kernel
theorem dL_yard_515 : decode cL_yard 515 = .ok (.aload 4, 2) := by decide +kernel
theorem dL_yard_517 : decode cL_yard 517 = .ok (.invokestatic 15, 3) := by decide +kernel
theorem dL_yard_520 : decode cL_yard 520 = .ok (.iload 10, 2) := by decide +kernel
theorem dL_yard_522 : decode cL_yard 522 = .ok (.if_icmp .le 22, 3) := by decide +kernel
theorem dL_yard_525 : decode cL_yard 525 = .ok (.aload_n 0, 1) := by decide +kernel
theorem dL_yard_526 : decode cL_yard 526 = .ok (.iload 9, 2) := by decide +kernel
theorem dL_yard_528 : decode cL_yard 528 = .ok (.iload 10, 2) := by decide +kernel
theorem dL_yard_530 : decode cL_yard 530 = .ok (.invokevirtual 54, 3) := by decide +kernel
theorem dL_yard_533 : decode cL_yard 533 = .ok (.bipush (-4), 2) := by decide +kernel
theorem dL_yard_535 : decode cL_yard 535 = .ok (.if_icmp .ne 7, 3) := by decide +kernel
theorem dL_yard_538 : decode cL_yard 538 = .ok (.iconst 1, 1) := by decide +kernel
theorem dL_yard_539 : decode cL_yard 539 = .ok (.goto 4, 3) := by decide +kernel
theorem dL_yard_542 : decode cL_yard 542 = .ok (.iconst 0, 1) := by decide +kernel
theorem dL_yard_543 : decode cL_yard 543 = .ok (.ireturn, 1) := by decide +kernel
theorem dL_yard_544 : decode cL_yard 544 = .ok (.aload_n 3, 1) := by decide +kernel
theorem dL_yard_545 : decode cL_yard 545 = .ok (.bipush 7, 2) := by decide +kernel
theorem dL_yard_547 : decode cL_yard 547 = .ok (.iload 9, 2) := by decide +kernel
theorem dL_yard_549 : decode cL_yard 549 = .ok (.iadd, 1) := by decide +kernel
theorem dL_yard_550 : decode cL_yard 550 = .ok (.iload 10, 2) := by decide +kernel
theorem dL_yard_552 : decode cL_yard 552 = .ok (.iastore, 1) := by decide +kernel
theorem dL_yard_553 : decode cL_yard 553 = .ok (.aload_n 0, 1) := by decide +kernel
theorem dL_yard_554 : decode cL_yard 554 = .ok (.iload 9, 2) := by decide +kernel
theorem dL_yard_556 : decode cL_yard 556 = .ok (.iload 10, 2) := by decide +kernel
theorem dL_yard_558 : decode cL_yard 558 = .ok (.invokevirtual 54, 3) := by decide +kernel
theorem dL_yard_561 : decode cL_yard 561 = .ok (.iload 10, 2) := by decide +kernel
theorem dL_yard_563 : decode cL_yard 563 = .ok (.iload 11, 2) := by decide +kernel
theorem dL_yard_565 : decode cL_yard 565 = .ok (.if_icmp .ne 8, 3) := by decide +kernel
theorem dL_yard_568 : decode cL_yard 568 = .ok (.bipush (-5), 2) := by decide +kernel
theorem dL_yard_570 : decode cL_yard 570 = .ok (.goto 5, 3) := by decide +kernel
theorem dL_yard_573 : decode cL_yard 573 = .ok (.iload 11, 2) := by decide +kernel
theorem dL_yard_575 : decode cL_yard 575 = .ok (.if_icmp .ne 30, 3) := by decide +kernel
theorem dL_yard_578 : decode cL_yard 578 = .ok (.aload_n 0, 1) := by decide +kernel
theorem dL_yard_579 : decode cL_yard 579 = .ok (.iconst 3, 1) := by decide +kernel
theorem dL_yard_580 : decode cL_yard 580 = .ok (.bipush 10, 2) := by decide +kernel
theorem dL_yard_582 : decode cL_yard 582 = .ok (.invokevirtual 54, 3) := by decide +kernel
theorem dL_yard_585 : decode cL_yard 585 = .ok (.iconst (-1), 1) := by decide +kernel
theorem dL_yard_586 : decode cL_yard 586 = .ok (.if_icmp .ne 19, 3) := by decide +kernel
theorem dL_yard_589 : decode cL_yard 589 = .ok (.aload_n 0, 1) := by decide +kernel
theorem dL_yard_590 : decode cL_yard 590 = .ok (.iconst 0, 1) := by decide +kernel
theorem dL_yard_591 : decode cL_yard 591 = .ok (.bipush 10, 2) := by decide +kernel
theorem dL_yard_593 : decode cL_yard 593 = .ok (.invokevirtual 54, 3) := by decide +kernel
theorem dL_yard_596 : decode cL_yard 596 = .ok (.bipush (-2), 2) := by decide +kernel
theorem dL_yard_598 : decode cL_yard 598 = .ok (.if_icmp .ne 7, 3) := by decide +kernel
theorem dL_yard_601 : decode cL_yard 601 = .ok (.iconst 1, 1) := by decide +kernel
theorem dL_yard_602 : decode cL_yard 602 = .ok (.goto 4, 3) := by decide +kernel
theorem dL_yard_605 : decode cL_yard 605 = .ok (.iconst 0, 1) := by decide +kernel
theorem dL_yard_606 : decode cL_yard 606 = .ok (.ireturn, 1) := by decide +kernel
theorem dL_yard_607 : decode cL_yard 607 = .ok (.iload 7, 2) := by decide +kernel
theorem dL_yard_609 : decode cL_yard 609 = .ok (.iconst 5, 1) := by decide +kernel
theorem dL_yard_610 : decode cL_yard 610 = .ok (.if_icmp .ne 133, 3) := by decide +kernel
theorem dL_yard_613 : decode cL_yard 613 = .ok (.iload_n 2, 1) := by decide +kernel
theorem dL_yard_614 : decode cL_yard 614 = .ok (.iconst 4, 1) := by decide +kernel
theorem dL_yard_615 : decode cL_yard 615 = .ok (.invokestatic 41, 3) := by decide +kernel
theorem dL_yard_618 : decode cL_yard 618 = .ok (.istore 9, 2) := by decide +kernel
theorem dL_yard_620 : decode cL_yard 620 = .ok (.bipush 10, 2) := by decide +kernel
theorem dL_yard_622 : decode cL_yard 622 = .ok (.iload_n 2, 1) := by decide +kernel
theorem dL_yard_623 : decode cL_yard 623 = .ok (.iconst 2, 1) := by decide +kernel
theorem dL_yard_624 : decode cL_yard 624 = .ok (.ishr, 1) := by decide +kernel
theorem dL_yard_625 : decode cL_yard 625 = .ok (.bipush 51, 2) := by decide +kernel
theorem dL_yard_627 : decode cL_yard 627 = .ok (.invokestatic 41, 3) := by decide +kernel
theorem dL_yard_630 : decode cL_yard 630 = .ok (.iadd, 1) := by decide +kernel
theorem dL_yard_631 : decode cL_yard 631 = .ok (.istore 10, 2) := by decide +kernel
theorem dL_yard_633 : decode cL_yard 633 = .ok (.aload_n 3, 1) := by decide +kernel
theorem dL_yard_634 : decode cL_yard 634 = .ok (.bipush 10, 2) := by decide +kernel
theorem dL_yard_636 : decode cL_yard 636 = .ok (.iload 9, 2) := by decide +kernel
theorem dL_yard_638 : decode cL_yard 638 = .ok (.iadd, 1) := by decide +kernel
theorem dL_yard_639 : decode cL_yard 639 = .ok (.iaload, 1) := by decide +kernel
theorem dL_yard_640 : decode cL_yard 640 = .ok (.istore 11, 2) := by decide +kernel
theorem dL_yard_642 : decode cL_yard 642 = .ok (.iload 9, 2) := by decide +kernel
theorem dL_yard_644 : decode cL_yard 644 = .ok (.aload_n 3, 1) := by decide +kernel
theorem dL_yard_645 : decode cL_yard 645 = .ok (.aload 4, 2) := by decide +kernel
theorem dL_yard_647 : decode cL_yard 647 = .ok (.aload 6, 2) := by decide +kernel
theorem dL_yard_649 : decode cL_yard 649 = .ok (.invokestatic 30, 3) := by decide +kernel
theorem dL_yard_652 : decode cL_yard 652 = .ok (.iload 11, 2) := by decide +kernel
theorem dL_yard_654 : decode cL_yard 654 = .ok (.isub, 1) := by decide +kernel
theorem dL_yard_655 : decode cL_yard 655 = .ok (.iload 10, 2) := by decide +kernel
theorem dL_yard_657 : decode cL_yard 657 = .ok (.iadd, 1) := by decide +kernel
theorem dL_yard_658 : decode cL_yard 658 = .ok (.ifCond .ge 22, 3) := by decide +kernel
theorem dL_yard_661 : decode cL_yard 661 = .ok (.aload_n 0, 1) := by decide +kernel
theorem dL_yard_662 : decode cL_yard 662 = .ok (.iload 9, 2) := by decide +kernel
theorem dL_yard_664 : decode cL_yard 664 = .ok (.iload 10, 2) := by decide +kernel
theorem dL_yard_666 : decode cL_yard 666 = .ok (.invokevirtual 57, 3) := by decide +kernel
theorem dL_yard_669 : decode cL_yard 669 = .ok (.bipush (-4), 2) := by decide +kernel
theorem dL_yard_671 : decode cL_yard 671 = .ok (.if_icmp .ne 7, 3) := by decide +kernel
theorem dL_yard_674 : decode cL_yard 674 = .ok (.iconst 1, 1) := by decide +kernel
theorem dL_yard_675 : decode cL_yard 675 = .ok (.goto 4, 3) := by decide +kernel
theorem dL_yard_678 : decode cL_yard 678 = .ok (.iconst 0, 1) := by decide +kernel
theorem dL_yard_679 : decode cL_yard 679 = .ok (.ireturn, 1) := by decide +kernel
theorem dL_yard_680 : decode cL_yard 680 = .ok (.aload_n 3, 1) := by decide +kernel
theorem dL_yard_681 : decode cL_yard 681 = .ok (.bipush 10, 2) := by decide +kernel
theorem dL_yard_683 : decode cL_yard 683 = .ok (.iload 9, 2) := by decide +kernel
theorem dL_yard_685 : decode cL_yard 685 = .ok (.iadd, 1) := by decide +kernel
theorem dL_yard_686 : decode cL_yard 686 = .ok (.iload 10, 2) := by decide +kernel
theorem dL_yard_688 : decode cL_yard 688 = .ok (.iastore, 1) := by decide +kernel
theorem dL_yard_689 : decode cL_yard 689 = .ok (.aload_n 0, 1) := by decide +kernel
theorem dL_yard_690 : decode cL_yard 690 = .ok (.iload 9, 2) := by decide +kernel
theorem dL_yard_692 : decode cL_yard 692 = .ok (.iload 10, 2) := by decide +kernel
theorem dL_yard_694 : decode cL_yard 694 = .ok (.invokevirtual 57, 3) := by decide +kernel
theorem dL_yard_697 : decode cL_yard 697 = .ok (.iload 10, 2) := by decide +kernel
theorem dL_yard_699 : decode cL_yard 699 = .ok (.iload 11, 2) := by decide +kernel
theorem dL_yard_701 : decode cL_yard 701 = .ok (.if_icmp .ne 8, 3) := by decide +kernel
theorem dL_yard_704 : decode cL_yard 704 = .ok (.bipush (-5), 2) := by decide +kernel
theorem dL_yard_706 : decode cL_yard 706 = .ok (.goto 5, 3) := by decide +kernel
theorem dL_yard_709 : decode cL_yard 709 = .ok (.iload 11, 2) := by decide +kernel
theorem dL_yard_711 : decode cL_yard 711 = .ok (.if_icmp .ne 30, 3) := by decide +kernel
theorem dL_yard_714 : decode cL_yard 714 = .ok (.aload_n 0, 1) := by decide +kernel
theorem dL_yard_715 : decode cL_yard 715 = .ok (.iconst 4, 1) := by decide +kernel
theorem dL_yard_716 : decode cL_yard 716 = .ok (.bipush 9, 2) := by decide +kernel
theorem dL_yard_718 : decode cL_yard 718 = .ok (.invokevirtual 57, 3) := by decide +kernel
theorem dL_yard_721 : decode cL_yard 721 = .ok (.iconst (-1), 1) := by decide +kernel
theorem dL_yard_722 : decode cL_yard 722 = .ok (.if_icmp .ne 19, 3) := by decide +kernel
theorem dL_yard_725 : decode cL_yard 725 = .ok (.aload_n 0, 1) := by decide +kernel
theorem dL_yard_726 : decode cL_yard 726 = .ok (.iconst 3, 1) := by decide +kernel
theorem dL_yard_727 : decode cL_yard 727 = .ok (.bipush 9, 2) := by decide +kernel
theorem dL_yard_729 : decode cL_yard 729 = .ok (.invokevirtual 57, 3) := by decide +kernel
theorem dL_yard_732 : decode cL_yard 732 = .ok (.bipush (-2), 2) := by decide +kernel
theorem dL_yard_734 : decode cL_yard 734 = .ok (.if_icmp .ne 7, 3) := by decide +kernel
theorem dL_yard_737 : decode cL_yard 737 = .ok (.iconst 1, 1) := by decide +kernel
theorem dL_yard_738 : decode cL_yard 738 = .ok (.goto 4, 3) := by decide +kernel
theorem dL_yard_741 : decode cL_yard 741 = .ok (.iconst 0, 1) := by decide +kernel
theorem dL_yard_742 : decode cL_yard 742 = .ok (.ireturn, 1) := by decide +kernel
theorem dL_yard_743 : decode cL_yard 743 = .ok (.iload 7, 2) := by decide +kernel
theorem dL_yard_745 : decode cL_yard 745 = .ok (.bipush 6, 2) := by decide +kernel
theorem dL_yard_747 : decode cL_yard 747 = .ok (.if_icmp .ne 126, 3) := by decide +kernel
theorem dL_yard_750 : decode cL_yard 750 = .ok (.iload_n 2, 1) := by decide +kernel
theorem dL_yard_751 : decode cL_yard 751 = .ok (.iconst 3, 1) := by decide +kernel
theorem dL_yard_752 : decode cL_yard 752 = .ok (.invokestatic 41, 3) := by decide +kernel
theorem dL_yard_755 : decode cL_yard 755 = .ok (.istore 9, 2) := by decide +kernel
theorem dL_yard_757 : decode cL_yard 757 = .ok (.aload_n 3, 1) := by decide +kernel
theorem dL_yard_758 : decode cL_yard 758 = .ok (.iconst 2, 1) := by decide +kernel
theorem dL_yard_759 : decode cL_yard 759 = .ok (.iload 9, 2) := by decide +kernel
theorem dL_yard_761 : decode cL_yard 761 = .ok (.iadd, 1) := by decide +kernel
theorem dL_yard_762 : decode cL_yard 762 = .ok (.iaload, 1) := by decide +kernel
theorem dL_yard_763 : decode cL_yard 763 = .ok (.istore 10, 2) := by decide +kernel
theorem dL_yard_765 : decode cL_yard 765 = .ok (.iload 9, 2) := by decide +kernel
theorem dL_yard_767 : decode cL_yard 767 = .ok (.ifCond .ne 14, 3) := by decide +kernel
theorem dL_yard_770 : decode cL_yard 770 = .ok (.iload_n 2, 1) := by decide +kernel
theorem dL_yard_771 : decode cL_yard 771 = .ok (.iconst 2, 1) := by decide +kernel
theorem dL_yard_772 : decode cL_yard 772 = .ok (.ishr, 1) := by decide +kernel
theorem dL_yard_773 : decode cL_yard 773 = .ok (.bipush 10, 2) := by decide +kernel
theorem dL_yard_775 : decode cL_yard 775 = .ok (.invokestatic 41, 3) := by decide +kernel
theorem dL_yard_778 : decode cL_yard 778 = .ok (.goto 33, 3) := by decide +kernel
theorem dL_yard_781 : decode cL_yard 781 = .ok (.iload 9, 2) := by decide +kernel
theorem dL_yard_783 : decode cL_yard 783 = .ok (.iconst 1, 1) := by decide +kernel
theorem dL_yard_784 : decode cL_yard 784 = .ok (.if_icmp .ne 16, 3) := by decide +kernel
theorem dL_yard_787 : decode cL_yard 787 = .ok (.iconst 1, 1) := by decide +kernel
theorem dL_yard_788 : decode cL_yard 788 = .ok (.iload_n 2, 1) := by decide +kernel
theorem dL_yard_789 : decode cL_yard 789 = .ok (.iconst 2, 1) := by decide +kernel
theorem dL_yard_790 : decode cL_yard 790 = .ok (.ishr, 1) := by decide +kernel
theorem dL_yard_791 : decode cL_yard 791 = .ok (.bipush 9, 2) := by decide +kernel
theorem dL_yard_793 : decode cL_yard 793 = .ok (.invokestatic 41, 3) := by decide +kernel
theorem dL_yard_796 : decode cL_yard 796 = .ok (.iadd, 1) := by decide +kernel
theorem dL_yard_797 : decode cL_yard 797 = .ok (.goto 14, 3) := by decide +kernel
theorem dL_yard_800 : decode cL_yard 800 = .ok (.bipush 10, 2) := by decide +kernel
theorem dL_yard_802 : decode cL_yard 802 = .ok (.iload_n 2, 1) := by decide +kernel
theorem dL_yard_803 : decode cL_yard 803 = .ok (.iconst 2, 1) := by decide +kernel
theorem dL_yard_804 : decode cL_yard 804 = .ok (.ishr, 1) := by decide +kernel
theorem dL_yard_805 : decode cL_yard 805 = .ok (.bipush 21, 2) := by decide +kernel
theorem dL_yard_807 : decode cL_yard 807 = .ok (.invokestatic 41, 3) := by decide +kernel
theorem dL_yard_810 : decode cL_yard 810 = .ok (.iadd, 1) := by decide +kernel
theorem dL_yard_811 : decode cL_yard 811 = .ok (.istore 11, 2) := by decide +kernel
theorem dL_yard_813 : decode cL_yard 813 = .ok (.aload_n 3, 1) := by decide +kernel
theorem dL_yard_814 : decode cL_yard 814 = .ok (.iconst 2, 1) := by decide +kernel
theorem dL_yard_815 : decode cL_yard 815 = .ok (.iload 9, 2) := by decide +kernel
theorem dL_yard_817 : decode cL_yard 817 = .ok (.iadd, 1) := by decide +kernel
theorem dL_yard_818 : decode cL_yard 818 = .ok (.iload 11, 2) := by decide +kernel
theorem dL_yard_820 : decode cL_yard 820 = .ok (.iastore, 1) := by decide +kernel
theorem dL_yard_821 : decode cL_yard 821 = .ok (.aload_n 0, 1) := by decide +kernel
theorem dL_yard_822 : decode cL_yard 822 = .ok (.iload 9, 2) := by decide +kernel
theorem dL_yard_824 : decode cL_yard 824 = .ok (.iload 11, 2) := by decide +kernel
theorem dL_yard_826 : decode cL_yard 826 = .ok (.invokevirtual 60, 3) := by decide +kernel
theorem dL_yard_829 : decode cL_yard 829 = .ok (.iload 11, 2) := by decide +kernel
theorem dL_yard_831 : decode cL_yard 831 = .ok (.iload 10, 2) := by decide +kernel
theorem dL_yard_833 : decode cL_yard 833 = .ok (.if_icmp .ne 8, 3) := by decide +kernel
theorem dL_yard_836 : decode cL_yard 836 = .ok (.bipush (-5), 2) := by decide +kernel
theorem dL_yard_838 : decode cL_yard 838 = .ok (.goto 5, 3) := by decide +kernel
theorem dL_yard_841 : decode cL_yard 841 = .ok (.iload 10, 2) := by decide +kernel
theorem dL_yard_843 : decode cL_yard 843 = .ok (.if_icmp .ne 28, 3) := by decide +kernel
theorem dL_yard_846 : decode cL_yard 846 = .ok (.aload_n 0, 1) := by decide +kernel
theorem dL_yard_847 : decode cL_yard 847 = .ok (.iconst 3, 1) := by decide +kernel
theorem dL_yard_848 : decode cL_yard 848 = .ok (.iconst 0, 1) := by decide +kernel
theorem dL_yard_849 : decode cL_yard 849 = .ok (.invokevirtual 60, 3) := by decide +kernel
theorem dL_yard_852 : decode cL_yard 852 = .ok (.iconst (-1), 1) := by decide +kernel
theorem dL_yard_853 : decode cL_yard 853 = .ok (.if_icmp .ne 18, 3) := by decide +kernel
theorem dL_yard_856 : decode cL_yard 856 = .ok (.aload_n 0, 1) := by decide +kernel
theorem dL_yard_857 : decode cL_yard 857 = .ok (.iconst 1, 1) := by decide +kernel
theorem dL_yard_858 : decode cL_yard 858 = .ok (.iconst 0, 1) := by decide +kernel
theorem dL_yard_859 : decode cL_yard 859 = .ok (.invokevirtual 60, 3) := by decide +kernel
theorem dL_yard_862 : decode cL_yard 862 = .ok (.bipush (-2), 2) := by decide +kernel
theorem dL_yard_864 : decode cL_yard 864 = .ok (.if_icmp .ne 7, 3) := by decide +kernel
theorem dL_yard_867 : decode cL_yard 867 = .ok (.iconst 1, 1) := by decide +kernel
theorem dL_yard_868 : decode cL_yard 868 = .ok (.goto 4, 3) := by decide +kernel
theorem dL_yard_871 : decode cL_yard 871 = .ok (.iconst 0, 1) := by decide +kernel
theorem dL_yard_872 : decode cL_yard 872 = .ok (.ireturn, 1) := by decide +kernel
theorem dL_yard_873 : decode cL_yard 873 = .ok (.iconst 1, 1) := by decide +kernel
theorem dL_yard_874 : decode cL_yard 874 = .ok (.iload_n 2, 1) := by decide +kernel
theorem dL_yard_875 : decode cL_yard 875 = .ok (.iload_n 2, 1) := by decide +kernel
theorem dL_yard_876 : decode cL_yard 876 = .ok (.bipush 64, 2) := by decide +kernel
theorem dL_yard_878 : decode cL_yard 878 = .ok (.iand, 1) := by decide +kernel
theorem dL_yard_879 : decode cL_yard 879 = .ok (.ifCond .ne 7, 3) := by decide +kernel
theorem dL_yard_882 : decode cL_yard 882 = .ok (.iconst 5, 1) := by decide +kernel
theorem dL_yard_883 : decode cL_yard 883 = .ok (.goto 5, 3) := by decide +kernel
theorem dL_yard_886 : decode cL_yard 886 = .ok (.bipush 40, 2) := by decide +kernel
theorem dL_yard_888 : decode cL_yard 888 = .ok (.invokestatic 41, 3) := by decide +kernel
theorem dL_yard_891 : decode cL_yard 891 = .ok (.iadd, 1) := by decide +kernel
theorem dL_yard_892 : decode cL_yard 892 = .ok (.istore 9, 2) := by decide +kernel
theorem dL_yard_894 : decode cL_yard 894 = .ok (.aload_n 3, 1) := by decide +kernel
theorem dL_yard_895 : decode cL_yard 895 = .ok (.iconst 0, 1) := by decide +kernel
theorem dL_yard_896 : decode cL_yard 896 = .ok (.dup2, 1) := by decide +kernel
theorem dL_yard_897 : decode cL_yard 897 = .ok (.iaload, 1) := by decide +kernel
theorem dL_yard_898 : decode cL_yard 898 = .ok (.iload 9, 2) := by decide +kernel
theorem dL_yard_900 : decode cL_yard 900 = .ok (.iadd, 1) := by decide +kernel
theorem dL_yard_901 : decode cL_yard 901 = .ok (.iastore, 1) := by decide +kernel
theorem dL_yard_902 : decode cL_yard 902 = .ok (.aload_n 3, 1) := by decide +kernel
theorem dL_yard_903 : decode cL_yard 903 = .ok (.iconst 1, 1) := by decide +kernel
theorem dL_yard_904 : decode cL_yard 904 = .ok (.iconst 0, 1) := by decide +kernel
theorem dL_yard_905 : decode cL_yard 905 = .ok (.iastore, 1) := by decide +kernel
theorem dL_yard_906 : decode cL_yard 906 = .ok (.iconst 0, 1) := by decide +kernel
theorem dL_yard_907 : decode cL_yard 907 = .ok (.istore 10, 2) := by decide +kernel
theorem dL_yard_909 : decode cL_yard 909 = .ok (.iload 10, 2) := by decide +kernel
theorem dL_yard_911 : decode cL_yard 911 = .ok (.bipush 6, 2) := by decide +kernel
theorem dL_yard_913 : decode cL_yard 913 = .ok (.if_icmp .ge 91, 3) := by decide +kernel
theorem dL_yard_916 : decode cL_yard 916 = .ok (.aload 4, 2) := by decide +kernel
theorem dL_yard_918 : decode cL_yard 918 = .ok (.iload 10, 2) := by decide +kernel
theorem dL_yard_920 : decode cL_yard 920 = .ok (.iconst 0, 1) := by decide +kernel
theorem dL_yard_921 : decode cL_yard 921 = .ok (.invokestatic 9, 3) := by decide +kernel
theorem dL_yard_924 : decode cL_yard 924 = .ok (.ifCond .eq 74, 3) := by decide +kernel
theorem dL_yard_927 : decode cL_yard 927 = .ok (.aload 4, 2) := by decide +kernel
theorem dL_yard_929 : decode cL_yard 929 = .ok (.iload 10, 2) := by decide +kernel
theorem dL_yard_931 : decode cL_yard 931 = .ok (.iconst 5, 1) := by decide +kernel
theorem dL_yard_932 : decode cL_yard 932 = .ok (.invokestatic 9, 3) := by decide +kernel
theorem dL_yard_935 : decode cL_yard 935 = .ok (.ifCond .ge 6, 3) := by decide +kernel
theorem dL_yard_938 : decode cL_yard 938 = .ok (.goto 60, 3) := by decide +kernel
theorem dL_yard_941 : decode cL_yard 941 = .ok (.aload 4, 2) := by decide +kernel
theorem dL_yard_943 : decode cL_yard 943 = .ok (.bipush 10, 2) := by decide +kernel
theorem dL_yard_945 : decode cL_yard 945 = .ok (.iload 10, 2) := by decide +kernel
theorem dL_yard_947 : decode cL_yard 947 = .ok (.imul, 1) := by decide +kernel
theorem dL_yard_948 : decode cL_yard 948 = .ok (.bipush 9, 2) := by decide +kernel
theorem dL_yard_950 : decode cL_yard 950 = .ok (.iadd, 1) := by decide +kernel
theorem dL_yard_951 : decode cL_yard 951 = .ok (.dup2, 1) := by decide +kernel
theorem dL_yard_952 : decode cL_yard 952 = .ok (.iaload, 1) := by decide +kernel
theorem dL_yard_953 : decode cL_yard 953 = .ok (.iload 9, 2) := by decide +kernel
theorem dL_yard_955 : decode cL_yard 955 = .ok (.iadd, 1) := by decide +kernel
theorem dL_yard_956 : decode cL_yard 956 = .ok (.iastore, 1) := by decide +kernel
theorem dL_yard_957 : decode cL_yard 957 = .ok (.aload 4, 2) := by decide +kernel
theorem dL_yard_959 : decode cL_yard 959 = .ok (.bipush 10, 2) := by decide +kernel
theorem dL_yard_961 : decode cL_yard 961 = .ok (.iload 10, 2) := by decide +kernel
theorem dL_yard_963 : decode cL_yard 963 = .ok (.imul, 1) := by decide +kernel
theorem dL_yard_964 : decode cL_yard 964 = .ok (.bipush 8, 2) := by decide +kernel
theorem dL_yard_966 : decode cL_yard 966 = .ok (.iadd, 1) := by decide +kernel
theorem dL_yard_967 : decode cL_yard 967 = .ok (.aload 4, 2) := by decide +kernel
theorem dL_yard_969 : decode cL_yard 969 = .ok (.iload 10, 2) := by decide +kernel
theorem dL_yard_971 : decode cL_yard 971 = .ok (.bipush 8, 2) := by decide +kernel
theorem dL_yard_973 : decode cL_yard 973 = .ok (.invokestatic 9, 3) := by decide +kernel
theorem dL_yard_976 : decode cL_yard 976 = .ok (.iload 9, 2) := by decide +kernel
theorem dL_yard_978 : decode cL_yard 978 = .ok (.if_icmp .le 18, 3) := by decide +kernel
theorem dL_yard_981 : decode cL_yard 981 = .ok (.aload 4, 2) := by decide +kernel
theorem dL_yard_983 : decode cL_yard 983 = .ok (.iload 10, 2) := by decide +kernel
theorem dL_yard_985 : decode cL_yard 985 = .ok (.bipush 8, 2) := by decide +kernel
theorem dL_yard_987 : decode cL_yard 987 = .ok (.invokestatic 9, 3) := by decide +kernel
theorem dL_yard_990 : decode cL_yard 990 = .ok (.iload 9, 2) := by decide +kernel
theorem dL_yard_992 : decode cL_yard 992 = .ok (.isub, 1) := by decide +kernel
theorem dL_yard_993 : decode cL_yard 993 = .ok (.goto 4, 3) := by decide +kernel
theorem dL_yard_996 : decode cL_yard 996 = .ok (.iconst 0, 1) := by decide +kernel
theorem dL_yard_997 : decode cL_yard 997 = .ok (.iastore, 1) := by decide +kernel
theorem dL_yard_998 : decode cL_yard 998 = .ok (.iinc 10 1, 3) := by decide +kernel
theorem dL_yard_1001 : decode cL_yard 1001 = .ok (.goto (-92), 3) := by decide +kernel
theorem dL_yard_1004 : decode cL_yard 1004 = .ok (.aload_n 0, 1) := by decide +kernel
theorem dL_yard_1005 : decode cL_yard 1005 = .ok (.iload 9, 2) := by decide +kernel
theorem dL_yard_1007 : decode cL_yard 1007 = .ok (.invokevirtual 63, 3) := by decide +kernel
theorem dL_yard_1010 : decode cL_yard 1010 = .ok (.aload_n 3, 1) := by decide +kernel
theorem dL_yard_1011 : decode cL_yard 1011 = .ok (.iconst 0, 1) := by decide +kernel
theorem dL_yard_1012 : decode cL_yard 1012 = .ok (.iaload, 1) := by decide +kernel
theorem dL_yard_1013 : decode cL_yard 1013 = .ok (.aload_n 3, 1) := by decide +kernel
theorem dL_yard_1014 : decode cL_yard 1014 = .ok (.invokestatic 23, 3) := by decide +kernel
theorem dL_yard_1017 : decode cL_yard 1017 = .ok (.if_icmp .ne 7, 3) := by decide +kernel
theorem dL_yard_1020 : decode cL_yard 1020 = .ok (.iconst 1, 1) := by decide +kernel
theorem dL_yard_1021 : decode cL_yard 1021 = .ok (.goto 4, 3) := by decide +kernel
theorem dL_yard_1024 : decode cL_yard 1024 = .ok (.iconst 0, 1) := by decide +kernel
theorem dL_yard_1025 : decode cL_yard 1025 = .ok (.ireturn, 1) := by decide +kernel
theorem dL_boats_0 : decode cL_boats 0 = .ok (.iload_n 1, 1) := by decide +kernel
theorem dL_boats_1 : decode cL_boats 1 = .ok (.bipush 9, 2) := by decide +kernel
theorem dL_boats_3 : decode cL_boats 3 = .ok (.invokestatic 41, 3) := by decide +kernel
theorem dL_boats_6 : decode cL_boats 6 = .ok (.istore 7, 2) := by decide +kernel
theorem dL_boats_8 : decode cL_boats 8 = .ok (.iload_n 2, 1) := by decide +kernel
theorem dL_boats_9 : decode cL_boats 9 = .ok (.bipush 6, 2) := by decide +kernel
theorem dL_boats_11 : decode cL_boats 11 = .ok (.invokestatic 41, 3) := by decide +kernel
theorem dL_boats_14 : decode cL_boats 14 = .ok (.istore 8, 2) := by decide +kernel
theorem dL_boats_16 : decode cL_boats 16 = .ok (.iload_n 2, 1) := by decide +kernel
theorem dL_boats_17 : decode cL_boats 17 = .ok (.iconst 3, 1) := by decide +kernel
theorem dL_boats_18 : decode cL_boats 18 = .ok (.ishr, 1) := by decide +kernel
theorem dL_boats_19 : decode cL_boats 19 = .ok (.iconst 4, 1) := by decide +kernel
theorem dL_boats_20 : decode cL_boats 20 = .ok (.invokestatic 41, 3) := by decide +kernel
theorem dL_boats_23 : decode cL_boats 23 = .ok (.istore 9, 2) := by decide +kernel
theorem dL_boats_25 : decode cL_boats 25 = .ok (.aload 4, 2) := by decide +kernel
theorem dL_boats_27 : decode cL_boats 27 = .ok (.iload 8, 2) := by decide +kernel
theorem dL_boats_29 : decode cL_boats 29 = .ok (.iconst 0, 1) := by decide +kernel
theorem dL_boats_30 : decode cL_boats 30 = .ok (.invokestatic 9, 3) := by decide +kernel
theorem dL_boats_33 : decode cL_boats 33 = .ok (.ifCond .ne 65, 3) := by decide +kernel
theorem dL_boats_36 : decode cL_boats 36 = .ok (.aload_n 0, 1) := by decide +kernel
theorem dL_boats_37 : decode cL_boats 37 = .ok (.iload 8, 2) := by decide +kernel
theorem dL_boats_39 : decode cL_boats 39 = .ok (.iload 9, 2) := by decide +kernel
theorem dL_boats_41 : decode cL_boats 41 = .ok (.invokevirtual 66, 3) := by decide +kernel
theorem dL_boats_44 : decode cL_boats 44 = .ok (.iconst (-1), 1) := by decide +kernel
theorem dL_boats_45 : decode cL_boats 45 = .ok (.if_icmp .ne 51, 3) := by decide +kernel
theorem dL_boats_48 : decode cL_boats 48 = .ok (.aload_n 0, 1) := by decide +kernel
theorem dL_boats_49 : decode cL_boats 49 = .ok (.iload 8, 2) := by decide +kernel
theorem dL_boats_51 : decode cL_boats 51 = .ok (.invokevirtual 69, 3) := by decide +kernel
theorem dL_boats_54 : decode cL_boats 54 = .ok (.iconst (-1), 1) := by decide +kernel
theorem dL_boats_55 : decode cL_boats 55 = .ok (.if_icmp .ne 41, 3) := by decide +kernel
theorem dL_boats_58 : decode cL_boats 58 = .ok (.aload_n 0, 1) := by decide +kernel
theorem dL_boats_59 : decode cL_boats 59 = .ok (.iload 8, 2) := by decide +kernel
theorem dL_boats_61 : decode cL_boats 61 = .ok (.iconst 1, 1) := by decide +kernel
theorem dL_boats_62 : decode cL_boats 62 = .ok (.invokevirtual 72, 3) := by decide +kernel
theorem dL_boats_65 : decode cL_boats 65 = .ok (.iconst (-1), 1) := by decide +kernel
theorem dL_boats_66 : decode cL_boats 66 = .ok (.if_icmp .ne 30, 3) := by decide +kernel
theorem dL_boats_69 : decode cL_boats 69 = .ok (.aload_n 0, 1) := by decide +kernel
theorem dL_boats_70 : decode cL_boats 70 = .ok (.iload 8, 2) := by decide +kernel
theorem dL_boats_72 : decode cL_boats 72 = .ok (.iconst 0, 1) := by decide +kernel
theorem dL_boats_73 : decode cL_boats 73 = .ok (.invokevirtual 76, 3) := by decide +kernel
theorem dL_boats_76 : decode cL_boats 76 = .ok (.iconst (-1), 1) := by decide +kernel
theorem dL_boats_77 : decode cL_boats 77 = .ok (.if_icmp .ne 19, 3) := by decide +kernel
theorem dL_boats_80 : decode cL_boats 80 = .ok (.aload_n 0, 1) := by decide +kernel
theorem dL_boats_81 : decode cL_boats 81 = .ok (.iload 8, 2) := by decide +kernel
theorem dL_boats_83 : decode cL_boats 83 = .ok (.iload 9, 2) := by decide +kernel
theorem dL_boats_85 : decode cL_boats 85 = .ok (.invokevirtual 79, 3) := by decide +kernel
theorem dL_boats_88 : decode cL_boats 88 = .ok (.iconst (-1), 1) := by decide +kernel
theorem dL_boats_89 : decode cL_boats 89 = .ok (.if_icmp .ne 7, 3) := by decide +kernel
theorem dL_boats_92 : decode cL_boats 92 = .ok (.iconst 1, 1) := by decide +kernel
theorem dL_boats_93 : decode cL_boats 93 = .ok (.goto 4, 3) := by decide +kernel
theorem dL_boats_96 : decode cL_boats 96 = .ok (.iconst 0, 1) := by decide +kernel
theorem dL_boats_97 : decode cL_boats 97 = .ok (.ireturn, 1) := by decide +kernel
theorem dL_boats_98 : decode cL_boats 98 = .ok (.iload 7, 2) := by decide +kernel
theorem dL_boats_100 : decode cL_boats 100 = .ok (.iconst 3, 1) := by decide +kernel
theorem dL_boats_101 : decode cL_boats 101 = .ok (.if_icmp .ge 145, 3) := by decide +kernel
theorem dL_boats_104 : decode cL_boats 104 = .ok (.iload 8, 2) := by decide +kernel
theorem dL_boats_106 : decode cL_boats 106 = .ok (.iload 9, 2) := by decide +kernel
theorem dL_boats_108 : decode cL_boats 108 = .ok (.aload_n 3, 1) := by decide +kernel
theorem dL_boats_109 : decode cL_boats 109 = .ok (.aload 4, 2) := by decide +kernel
theorem dL_boats_111 : decode cL_boats 111 = .ok (.aload 6, 2) := by decide +kernel
theorem dL_boats_113 : decode cL_boats 113 = .ok (.invokestatic 82, 3) := by decide +kernel
theorem dL_boats_116 : decode cL_boats 116 = .ok (.istore 10, 2) := by decide +kernel
theorem dL_boats_118 : decode cL_boats 118 = .ok (.iload 10, 2) := by decide +kernel
theorem dL_boats_120 : decode cL_boats 120 = .ok (.ifCond .le 36, 3) := by decide +kernel
theorem dL_boats_123 : decode cL_boats 123 = .ok (.aload_n 0, 1) := by decide +kernel
theorem dL_boats_124 : decode cL_boats 124 = .ok (.iload 8, 2) := by decide +kernel
theorem dL_boats_126 : decode cL_boats 126 = .ok (.iload 9, 2) := by decide +kernel
theorem dL_boats_128 : decode cL_boats 128 = .ok (.invokevirtual 66, 3) := by decide +kernel
theorem dL_boats_131 : decode cL_boats 131 = .ok (.bipush (-10), 2) := by decide +kernel
theorem dL_boats_133 : decode cL_boats 133 = .ok (.iload 10, 2) := by decide +kernel
theorem dL_boats_135 : decode cL_boats 135 = .ok (.isub, 1) := by decide +kernel
theorem dL_boats_136 : decode cL_boats 136 = .ok (.if_icmp .ne 18, 3) := by decide +kernel
theorem dL_boats_139 : decode cL_boats 139 = .ok (.aload_n 0, 1) := by decide +kernel
theorem dL_boats_140 : decode cL_boats 140 = .ok (.iload 8, 2) := by decide +kernel
theorem dL_boats_142 : decode cL_boats 142 = .ok (.iconst 4, 1) := by decide +kernel
theorem dL_boats_143 : decode cL_boats 143 = .ok (.invokevirtual 66, 3) := by decide +kernel
theorem dL_boats_146 : decode cL_boats 146 = .ok (.iconst (-1), 1) := by decide +kernel
theorem dL_boats_147 : decode cL_boats 147 = .ok (.if_icmp .ne 7, 3) := by decide +kernel
theorem dL_boats_150 : decode cL_boats 150 = .ok (.iconst 1, 1) := by decide +kernel
theorem dL_boats_151 : decode cL_boats 151 = .ok (.goto 4, 3) := by decide +kernel
theorem dL_boats_154 : decode cL_boats 154 = .ok (.iconst 0, 1) := by decide +kernel
theorem dL_boats_155 : decode cL_boats 155 = .ok (.ireturn, 1) := by decide +kernel
theorem dL_boats_156 : decode cL_boats 156 = .ok (.aload 4, 2) := by decide +kernel
theorem dL_boats_158 : decode cL_boats 158 = .ok (.bipush 10, 2) := by decide +kernel
theorem dL_boats_160 : decode cL_boats 160 = .ok (.iload 8, 2) := by decide +kernel
theorem dL_boats_162 : decode cL_boats 162 = .ok (.imul, 1) := by decide +kernel
theorem dL_boats_163 : decode cL_boats 163 = .ok (.bipush 6, 2) := by decide +kernel
theorem dL_boats_165 : decode cL_boats 165 = .ok (.iadd, 1) := by decide +kernel
theorem dL_boats_166 : decode cL_boats 166 = .ok (.iload 8, 2) := by decide +kernel
theorem dL_boats_168 : decode cL_boats 168 = .ok (.aload_n 3, 1) := by decide +kernel
theorem dL_boats_169 : decode cL_boats 169 = .ok (.aload 4, 2) := by decide +kernel
theorem dL_boats_171 : decode cL_boats 171 = .ok (.invokestatic 26, 3) := by decide +kernel
theorem dL_boats_174 : decode cL_boats 174 = .ok (.iastore, 1) := by decide +kernel
theorem dL_boats_175 : decode cL_boats 175 = .ok (.aload 4, 2) := by decide +kernel
theorem dL_boats_177 : decode cL_boats 177 = .ok (.bipush 10, 2) := by decide +kernel
theorem dL_boats_179 : decode cL_boats 179 = .ok (.iload 8, 2) := by decide +kernel
theorem dL_boats_181 : decode cL_boats 181 = .ok (.imul, 1) := by decide +kernel
theorem dL_boats_182 : decode cL_boats 182 = .ok (.bipush 9, 2) := by decide +kernel
theorem dL_boats_184 : decode cL_boats 184 = .ok (.iadd, 1) := by decide +kernel
theorem dL_boats_185 : decode cL_boats 185 = .ok (.iconst 0, 1) := by decide +kernel
theorem dL_boats_186 : decode cL_boats 186 = .ok (.iastore, 1) := by decide +kernel
theorem dL_boats_187 : decode cL_boats 187 = .ok (.aload 5, 2) := by decide +kernel
theorem dL_boats_189 : decode cL_boats 189 = .ok (.iload 8, 2) := by decide +kernel
theorem dL_boats_191 : decode cL_boats 191 = .ok (.dup2, 1) := by decide +kernel
theorem dL_boats_192 : decode cL_boats 192 = .ok (.iaload, 1) := by decide +kernel
theorem dL_boats_193 : decode cL_boats 193 = .ok (.iconst 1, 1) := by decide +kernel
theorem dL_boats_194 : decode cL_boats 194 = .ok (.iadd, 1) := by decide +kernel
theorem dL_boats_195 : decode cL_boats 195 = .ok (.iastore, 1) := by decide +kernel
theorem dL_boats_196 : decode cL_boats 196 = .ok (.iload 8, 2) := by decide +kernel
theorem dL_boats_198 : decode cL_boats 198 = .ok (.iload 9, 2) := by decide +kernel
theorem dL_boats_200 : decode cL_boats 200 = .ok (.aload 4, 2) := by decide +kernel
theorem dL_boats_202 : decode cL_boats 202 = .ok (.aload 6, 2) := by decide +kernel
theorem dL_boats_204 : decode cL_boats 204 = .ok (.invokestatic 86, 3) := by decide +kernel
theorem dL_boats_207 : decode cL_boats 207 = .ok (.aload_n 3, 1) := by decide +kernel
theorem dL_boats_208 : decode cL_boats 208 = .ok (.iconst 1, 1) := by decide +kernel
theorem dL_boats_209 : decode cL_boats 209 = .ok (.dup2, 1) := by decide +kernel
theorem dL_boats_210 : decode cL_boats 210 = .ok (.iaload, 1) := by decide +kernel
theorem dL_boats_211 : decode cL_boats 211 = .ok (.iconst 1, 1) := by decide +kernel
theorem dL_boats_212 : decode cL_boats 212 = .ok (.iadd, 1) := by decide +kernel
theorem dL_boats_213 : decode cL_boats 213 = .ok (.iastore, 1) := by decide +kernel
theorem dL_boats_214 : decode cL_boats 214 = .ok (.aload_n 3, 1) := by decide +kernel
theorem dL_boats_215 : decode cL_boats 215 = .ok (.iconst 5, 1) := by decide +kernel
theorem dL_boats_216 : decode cL_boats 216 = .ok (.dup2, 1) := by decide +kernel
theorem dL_boats_217 : decode cL_boats 217 = .ok (.iaload, 1) := by decide +kernel
theorem dL_boats_218 : decode cL_boats 218 = .ok (.iconst 1, 1) := by decide +kernel
theorem dL_boats_219 : decode cL_boats 219 = .ok (.iadd, 1) := by decide +kernel
theorem dL_boats_220 : decode cL_boats 220 = .ok (.iastore, 1) := by decide +kernel
theorem dL_boats_221 : decode cL_boats 221 = .ok (.aload_n 0, 1) := by decide +kernel
theorem dL_boats_222 : decode cL_boats 222 = .ok (.iload 8, 2) := by decide +kernel
theorem dL_boats_224 : decode cL_boats 224 = .ok (.iload 9, 2) := by decide +kernel
theorem dL_boats_226 : decode cL_boats 226 = .ok (.invokevirtual 66, 3) := by decide +kernel
theorem dL_boats_229 : decode cL_boats 229 = .ok (.aload 6, 2) := by decide +kernel
theorem dL_boats_231 : decode cL_boats 231 = .ok (.bipush 7, 2) := by decide +kernel
theorem dL_boats_233 : decode cL_boats 233 = .ok (.iload 9, 2) := by decide +kernel
theorem dL_boats_235 : decode cL_boats 235 = .ok (.imul, 1) := by decide +kernel
theorem dL_boats_236 : decode cL_boats 236 = .ok (.iaload, 1) := by decide +kernel
theorem dL_boats_237 : decode cL_boats 237 = .ok (.if_icmp .ne 7, 3) := by decide +kernel
theorem dL_boats_240 : decode cL_boats 240 = .ok (.iconst 1, 1) := by decide +kernel
theorem dL_boats_241 : decode cL_boats 241 = .ok (.goto 4, 3) := by decide +kernel
theorem dL_boats_244 : decode cL_boats 244 = .ok (.iconst 0, 1) := by decide +kernel
theorem dL_boats_245 : decode cL_boats 245 = .ok (.ireturn, 1) := by decide +kernel
theorem dL_boats_246 : decode cL_boats 246 = .ok (.iload 7, 2) := by decide +kernel
theorem dL_boats_248 : decode cL_boats 248 = .ok (.iconst 5, 1) := by decide +kernel
theorem dL_boats_249 : decode cL_boats 249 = .ok (.if_icmp .ge 143, 3) := by decide +kernel
theorem dL_boats_252 : decode cL_boats 252 = .ok (.iload 8, 2) := by decide +kernel
theorem dL_boats_254 : decode cL_boats 254 = .ok (.aload_n 3, 1) := by decide +kernel
theorem dL_boats_255 : decode cL_boats 255 = .ok (.aload 4, 2) := by decide +kernel
theorem dL_boats_257 : decode cL_boats 257 = .ok (.aload 6, 2) := by decide +kernel
theorem dL_boats_259 : decode cL_boats 259 = .ok (.invokestatic 90, 3) := by decide +kernel
theorem dL_boats_262 : decode cL_boats 262 = .ok (.istore 10, 2) := by decide +kernel
theorem dL_boats_264 : decode cL_boats 264 = .ok (.iload 10, 2) := by decide +kernel
theorem dL_boats_266 : decode cL_boats 266 = .ok (.ifCond .le 23, 3) := by decide +kernel
theorem dL_boats_269 : decode cL_boats 269 = .ok (.aload_n 0, 1) := by decide +kernel
theorem dL_boats_270 : decode cL_boats 270 = .ok (.iload 8, 2) := by decide +kernel
theorem dL_boats_272 : decode cL_boats 272 = .ok (.invokevirtual 69, 3) := by decide +kernel
theorem dL_boats_275 : decode cL_boats 275 = .ok (.bipush (-10), 2) := by decide +kernel
theorem dL_boats_277 : decode cL_boats 277 = .ok (.iload 10, 2) := by decide +kernel
theorem dL_boats_279 : decode cL_boats 279 = .ok (.isub, 1) := by decide +kernel
theorem dL_boats_280 : decode cL_boats 280 = .ok (.if_icmp .ne 7, 3) := by decide +kernel
theorem dL_boats_283 : decode cL_boats 283 = .ok (.iconst 1, 1) := by decide +kernel
theorem dL_boats_284 : decode cL_boats 284 = .ok (.goto 4, 3) := by decide +kernel
theorem dL_boats_287 : decode cL_boats 287 = .ok (.iconst 0, 1) := by decide +kernel
theorem dL_boats_288 : decode cL_boats 288 = .ok (.ireturn, 1) := by decide +kernel
theorem dL_boats_289 : decode cL_boats 289 = .ok (.aload 4, 2) := by decide +kernel
theorem dL_boats_291 : decode cL_boats 291 = .ok (.iload 8, 2) := by decide +kernel
theorem dL_boats_293 : decode cL_boats 293 = .ok (.bipush 9, 2) := by decide +kernel
theorem dL_boats_295 : decode cL_boats 295 = .ok (.invokestatic 9, 3) := by decide +kernel
theorem dL_boats_298 : decode cL_boats 298 = .ok (.istore 11, 2) := by decide +kernel
theorem dL_boats_300 : decode cL_boats 300 = .ok (.aload 6, 2) := by decide +kernel
theorem dL_boats_302 : decode cL_boats 302 = .ok (.bipush 7, 2) := by decide +kernel
theorem dL_boats_304 : decode cL_boats 304 = .ok (.aload 4, 2) := by decide +kernel
theorem dL_boats_306 : decode cL_boats 306 = .ok (.iload 8, 2) := by decide +kernel
theorem dL_boats_308 : decode cL_boats 308 = .ok (.iconst 5, 1) := by decide +kernel
theorem dL_boats_309 : decode cL_boats 309 = .ok (.invokestatic 9, 3) := by decide +kernel
theorem dL_boats_312 : decode cL_boats 312 = .ok (.imul, 1) := by decide +kernel
theorem dL_boats_313 : decode cL_boats 313 = .ok (.dup2, 1) := by decide +kernel
theorem dL_boats_314 : decode cL_boats 314 = .ok (.iaload, 1) := by decide +kernel
theorem dL_boats_315 : decode cL_boats 315 = .ok (.iconst 1, 1) := by decide +kernel
theorem dL_boats_316 : decode cL_boats 316 = .ok (.isub, 1) := by decide +kernel
theorem dL_boats_317 : decode cL_boats 317 = .ok (.iastore, 1) := by decide +kernel
theorem dL_boats_318 : decode cL_boats 318 = .ok (.aload 4, 2) := by decide +kernel
theorem dL_boats_320 : decode cL_boats 320 = .ok (.bipush 10, 2) := by decide +kernel
theorem dL_boats_322 : decode cL_boats 322 = .ok (.iload 8, 2) := by decide +kernel
theorem dL_boats_324 : decode cL_boats 324 = .ok (.imul, 1) := by decide +kernel
theorem dL_boats_325 : decode cL_boats 325 = .ok (.iconst 5, 1) := by decide +kernel
theorem dL_boats_326 : decode cL_boats 326 = .ok (.iadd, 1) := by decide +kernel
theorem dL_boats_327 : decode cL_boats 327 = .ok (.iconst (-1), 1) := by decide +kernel
theorem dL_boats_328 : decode cL_boats 328 = .ok (.iastore, 1) := by decide +kernel
theorem dL_boats_329 : decode cL_boats 329 = .ok (.aload 4, 2) := by decide +kernel
theorem dL_boats_331 : decode cL_boats 331 = .ok (.bipush 10, 2) := by decide +kernel
theorem dL_boats_333 : decode cL_boats 333 = .ok (.iload 8, 2) := by decide +kernel
theorem dL_boats_335 : decode cL_boats 335 = .ok (.imul, 1) := by decide +kernel
theorem dL_boats_336 : decode cL_boats 336 = .ok (.bipush 6, 2) := by decide +kernel
theorem dL_boats_338 : decode cL_boats 338 = .ok (.iadd, 1) := by decide +kernel
theorem dL_boats_339 : decode cL_boats 339 = .ok (.iconst (-1), 1) := by decide +kernel
theorem dL_boats_340 : decode cL_boats 340 = .ok (.iastore, 1) := by decide +kernel
theorem dL_boats_341 : decode cL_boats 341 = .ok (.aload 4, 2) := by decide +kernel
theorem dL_boats_343 : decode cL_boats 343 = .ok (.bipush 10, 2) := by decide +kernel
theorem dL_boats_345 : decode cL_boats 345 = .ok (.iload 8, 2) := by decide +kernel
theorem dL_boats_347 : decode cL_boats 347 = .ok (.imul, 1) := by decide +kernel
theorem dL_boats_348 : decode cL_boats 348 = .ok (.bipush 9, 2) := by decide +kernel
theorem dL_boats_350 : decode cL_boats 350 = .ok (.iadd, 1) := by decide +kernel
theorem dL_boats_351 : decode cL_boats 351 = .ok (.iconst 0, 1) := by decide +kernel
theorem dL_boats_352 : decode cL_boats 352 = .ok (.iastore, 1) := by decide +kernel
theorem dL_boats_353 : decode cL_boats 353 = .ok (.aload_n 3, 1) := by decide +kernel
theorem dL_boats_354 : decode cL_boats 354 = .ok (.iconst 1, 1) := by decide +kernel
theorem dL_boats_355 : decode cL_boats 355 = .ok (.dup2, 1) := by decide +kernel
theorem dL_boats_356 : decode cL_boats 356 = .ok (.iaload, 1) := by decide +kernel
theorem dL_boats_357 : decode cL_boats 357 = .ok (.iconst 1, 1) := by decide +kernel
theorem dL_boats_358 : decode cL_boats 358 = .ok (.iadd, 1) := by decide +kernel
theorem dL_boats_359 : decode cL_boats 359 = .ok (.iastore, 1) := by decide +kernel
theorem dL_boats_360 : decode cL_boats 360 = .ok (.aload_n 3, 1) := by decide +kernel
theorem dL_boats_361 : decode cL_boats 361 = .ok (.iconst 5, 1) := by decide +kernel
theorem dL_boats_362 : decode cL_boats 362 = .ok (.dup2, 1) := by decide +kernel
theorem dL_boats_363 : decode cL_boats 363 = .ok (.iaload, 1) := by decide +kernel
theorem dL_boats_364 : decode cL_boats 364 = .ok (.iconst 1, 1) := by decide +kernel
theorem dL_boats_365 : decode cL_boats 365 = .ok (.iadd, 1) := by decide +kernel
theorem dL_boats_366 : decode cL_boats 366 = .ok (.iastore, 1) := by decide +kernel
theorem dL_boats_367 : decode cL_boats 367 = .ok (.aload_n 3, 1) := by decide +kernel
theorem dL_boats_368 : decode cL_boats 368 = .ok (.bipush 6, 2) := by decide +kernel
theorem dL_boats_370 : decode cL_boats 370 = .ok (.dup2, 1) := by decide +kernel
theorem dL_boats_371 : decode cL_boats 371 = .ok (.iaload, 1) := by decide +kernel
theorem dL_boats_372 : decode cL_boats 372 = .ok (.iconst 1, 1) := by decide +kernel
theorem dL_boats_373 : decode cL_boats 373 = .ok (.iadd, 1) := by decide +kernel
theorem dL_boats_374 : decode cL_boats 374 = .ok (.iastore, 1) := by decide +kernel
theorem dL_boats_375 : decode cL_boats 375 = .ok (.aload_n 0, 1) := by decide +kernel
theorem dL_boats_376 : decode cL_boats 376 = .ok (.iload 8, 2) := by decide +kernel
theorem dL_boats_378 : decode cL_boats 378 = .ok (.invokevirtual 69, 3) := by decide +kernel
theorem dL_boats_381 : decode cL_boats 381 = .ok (.iload 11, 2) := by decide +kernel
theorem dL_boats_383 : decode cL_boats 383 = .ok (.if_icmp .ne 7, 3) := by decide +kernel
theorem dL_boats_386 : decode cL_boats 386 = .ok (.iconst 1, 1) := by decide +kernel
theorem dL_boats_387 : decode cL_boats 387 = .ok (.goto 4, 3) := by decide +kernel
theorem dL_boats_390 : decode cL_boats 390 = .ok (.iconst 0, 1) := by decide +kernel
theorem dL_boats_391 : decode cL_boats 391 = .ok (.ireturn, 1) := by decide +kernel
theorem dL_boats_392 : decode cL_boats 392 = .ok (.iload 7, 2) := by decide +kernel
theorem dL_boats_394 : decode cL_boats 394 = .ok (.iconst 5, 1) := by decide +kernel
theorem dL_boats_395 : decode cL_boats 395 = .ok (.if_icmp .ne 188, 3) := by decide +kernel
theorem dL_boats_398 : decode cL_boats 398 = .ok (.aload 4, 2) := by decide +kernel
theorem dL_boats_400 : decode cL_boats 400 = .ok (.iload 8, 2) := by decide +kernel
theorem dL_boats_402 : decode cL_boats 402 = .ok (.iconst 5, 1) := by decide +kernel
theorem dL_boats_403 : decode cL_boats 403 = .ok (.invokestatic 9, 3) := by decide +kernel
theorem dL_boats_406 : decode cL_boats 406 = .ok (.istore 10, 2) := by decide +kernel
theorem dL_boats_408 : decode cL_boats 408 = .ok (.iload 10, 2) := by decide +kernel
theorem dL_boats_410 : decode cL_boats 410 = .ok (.ifCond .lt 32, 3) := by decide +kernel
theorem dL_boats_413 : decode cL_boats 413 = .ok (.iload 10, 2) := by decide +kernel
theorem dL_boats_415 : decode cL_boats 415 = .ok (.iload 9, 2) := by decide +kernel
theorem dL_boats_417 : decode cL_boats 417 = .ok (.if_icmp .eq 25, 3) := by decide +kernel
theorem dL_boats_420 : decode cL_boats 420 = .ok (.iload 8, 2) := by decide +kernel
theorem dL_boats_422 : decode cL_boats 422 = .ok (.aload 4, 2) := by decide +kernel
theorem dL_boats_424 : decode cL_boats 424 = .ok (.aload 6, 2) := by decide +kernel
theorem dL_boats_426 : decode cL_boats 426 = .ok (.invokestatic 38, 3) := by decide +kernel
theorem dL_boats_429 : decode cL_boats 429 = .ok (.aload 6, 2) := by decide +kernel
theorem dL_boats_431 : decode cL_boats 431 = .ok (.bipush 7, 2) := by decide +kernel
theorem dL_boats_433 : decode cL_boats 433 = .ok (.iload 10, 2) := by decide +kernel
theorem dL_boats_435 : decode cL_boats 435 = .ok (.imul, 1) := by decide +kernel
theorem dL_boats_436 : decode cL_boats 436 = .ok (.iaload, 1) := by decide +kernel
theorem dL_boats_437 : decode cL_boats 437 = .ok (.iconst 1, 1) := by decide +kernel
theorem dL_boats_438 : decode cL_boats 438 = .ok (.isub, 1) := by decide +kernel
theorem dL_boats_439 : decode cL_boats 439 = .ok (.if_icmp .ge 33, 3) := by decide +kernel
theorem dL_boats_442 : decode cL_boats 442 = .ok (.aload_n 0, 1) := by decide +kernel
theorem dL_boats_443 : decode cL_boats 443 = .ok (.iload 8, 2) := by decide +kernel
theorem dL_boats_445 : decode cL_boats 445 = .ok (.iload 9, 2) := by decide +kernel
theorem dL_boats_447 : decode cL_boats 447 = .ok (.invokevirtual 79, 3) := by decide +kernel
theorem dL_boats_450 : decode cL_boats 450 = .ok (.bipush (-4), 2) := by decide +kernel
theorem dL_boats_452 : decode cL_boats 452 = .ok (.if_icmp .ne 18, 3) := by decide +kernel
theorem dL_boats_455 : decode cL_boats 455 = .ok (.aload_n 0, 1) := by decide +kernel
theorem dL_boats_456 : decode cL_boats 456 = .ok (.iload 8, 2) := by decide +kernel
theorem dL_boats_458 : decode cL_boats 458 = .ok (.iconst (-1), 1) := by decide +kernel
theorem dL_boats_459 : decode cL_boats 459 = .ok (.invokevirtual 79, 3) := by decide +kernel
theorem dL_boats_462 : decode cL_boats 462 = .ok (.iconst (-1), 1) := by decide +kernel
theorem dL_boats_463 : decode cL_boats 463 = .ok (.if_icmp .ne 7, 3) := by decide +kernel
theorem dL_boats_466 : decode cL_boats 466 = .ok (.iconst 1, 1) := by decide +kernel
theorem dL_boats_467 : decode cL_boats 467 = .ok (.goto 4, 3) := by decide +kernel
theorem dL_boats_470 : decode cL_boats 470 = .ok (.iconst 0, 1) := by decide +kernel
theorem dL_boats_471 : decode cL_boats 471 = .ok (.ireturn, 1) := by decide +kernel
theorem dL_boats_472 : decode cL_boats 472 = .ok (.iload 9, 2) := by decide +kernel
theorem dL_boats_474 : decode cL_boats 474 = .ok (.aload_n 3, 1) := by decide +kernel
theorem dL_boats_475 : decode cL_boats 475 = .ok (.aload 4, 2) := by decide +kernel
theorem dL_boats_477 : decode cL_boats 477 = .ok (.aload 6, 2) := by decide +kernel
theorem dL_boats_479 : decode cL_boats 479 = .ok (.invokestatic 30, 3) := by decide +kernel
theorem dL_boats_482 : decode cL_boats 482 = .ok (.aload 4, 2) := by decide +kernel
theorem dL_boats_484 : decode cL_boats 484 = .ok (.iload 8, 2) := by decide +kernel
theorem dL_boats_486 : decode cL_boats 486 = .ok (.iconst 1, 1) := by decide +kernel
theorem dL_boats_487 : decode cL_boats 487 = .ok (.invokestatic 9, 3) := by decide +kernel
theorem dL_boats_490 : decode cL_boats 490 = .ok (.iconst 1, 1) := by decide +kernel
theorem dL_boats_491 : decode cL_boats 491 = .ok (.iadd, 1) := by decide +kernel
theorem dL_boats_492 : decode cL_boats 492 = .ok (.if_icmp .lt 10, 3) := by decide +kernel
theorem dL_boats_495 : decode cL_boats 495 = .ok (.aload_n 3, 1) := by decide +kernel
theorem dL_boats_496 : decode cL_boats 496 = .ok (.invokestatic 34, 3) := by decide +kernel
theorem dL_boats_499 : decode cL_boats 499 = .ok (.ifCond .ne 22, 3) := by decide +kernel
theorem dL_boats_502 : decode cL_boats 502 = .ok (.aload_n 0, 1) := by decide +kernel
theorem dL_boats_503 : decode cL_boats 503 = .ok (.iload 8, 2) := by decide +kernel
theorem dL_boats_505 : decode cL_boats 505 = .ok (.iload 9, 2) := by decide +kernel
theorem dL_boats_507 : decode cL_boats 507 = .ok (.invokevirtual 79, 3) := by decide +kernel
theorem dL_boats_510 : decode cL_boats 510 = .ok (.bipush (-3), 2) := by decide +kernel
theorem dL_boats_512 : decode cL_boats 512 = .ok (.if_icmp .ne 7, 3) := by decide +kernel
theorem dL_boats_515 : decode cL_boats 515 = .ok (.iconst 1, 1) := by decide +kernel
theorem dL_boats_516 : decode cL_boats 516 = .ok (.goto 4, 3) := by decide +kernel
theorem dL_boats_519 : decode cL_boats 519 = .ok (.iconst 0, 1) := by decide +kernel
theorem dL_boats_520 : decode cL_boats 520 = .ok (.ireturn, 1) := by decide +kernel
theorem dL_boats_521 : decode cL_boats 521 = .ok (.aload 6, 2) := by decide +kernel
theorem dL_boats_523 : decode cL_boats 523 = .ok (.bipush 7, 2) := by decide +kernel
theorem dL_boats_525 : decode cL_boats 525 = .ok (.iload 10, 2) := by decide +kernel
theorem dL_boats_527 : decode cL_boats 527 = .ok (.imul, 1) := by decide +kernel
theorem dL_boats_528 : decode cL_boats 528 = .ok (.dup2, 1) := by decide +kernel
theorem dL_boats_529 : decode cL_boats 529 = .ok (.iaload, 1) := by decide +kernel
theorem dL_boats_530 : decode cL_boats 530 = .ok (.iconst 1, 1) := by decide +kernel
theorem dL_boats_531 : decode cL_boats 531 = .ok (.isub, 1) := by decide +kernel
theorem dL_boats_532 : decode cL_boats 532 = .ok (.iastore, 1) := by decide +kernel
theorem dL_boats_533 : decode cL_boats 533 = .ok (.iload 8, 2) := by decide +kernel
theorem dL_boats_535 : decode cL_boats 535 = .ok (.iload 9, 2) := by decide +kernel
theorem dL_boats_537 : decode cL_boats 537 = .ok (.aload 4, 2) := by decide +kernel
theorem dL_boats_539 : decode cL_boats 539 = .ok (.aload 6, 2) := by decide +kernel
theorem dL_boats_541 : decode cL_boats 541 = .ok (.invokestatic 86, 3) := by decide +kernel
theorem dL_boats_544 : decode cL_boats 544 = .ok (.aload_n 3, 1) := by decide +kernel
theorem dL_boats_545 : decode cL_boats 545 = .ok (.iconst 1, 1) := by decide +kernel
theorem dL_boats_546 : decode cL_boats 546 = .ok (.dup2, 1) := by decide +kernel
theorem dL_boats_547 : decode cL_boats 547 = .ok (.iaload, 1) := by decide +kernel
theorem dL_boats_548 : decode cL_boats 548 = .ok (.iconst 1, 1) := by decide +kernel
theorem dL_boats_549 : decode cL_boats 549 = .ok (.iadd, 1) := by decide +kernel
theorem dL_boats_550 : decode cL_boats 550 = .ok (.iastore, 1) := by decide +kernel
theorem dL_boats_551 : decode cL_boats 551 = .ok (.aload_n 3, 1) := by decide +kernel
theorem dL_boats_552 : decode cL_boats 552 = .ok (.iconst 5, 1) := by decide +kernel
theorem dL_boats_553 : decode cL_boats 553 = .ok (.dup2, 1) := by decide +kernel
theorem dL_boats_554 : decode cL_boats 554 = .ok (.iaload, 1) := by decide +kernel
theorem dL_boats_555 : decode cL_boats 555 = .ok (.iconst 1, 1) := by decide +kernel
theorem dL_boats_556 : decode cL_boats 556 = .ok (.iadd, 1) := by decide +kernel
theorem dL_boats_557 : decode cL_boats 557 = .ok (.iastore, 1) := by decide +kernel
theorem dL_boats_558 : decode cL_boats 558 = .ok (.aload_n 0, 1) := by decide +kernel
theorem dL_boats_559 : decode cL_boats 559 = .ok (.iload 8, 2) := by decide +kernel
theorem dL_boats_561 : decode cL_boats 561 = .ok (.iload 9, 2) := by decide +kernel
theorem dL_boats_563 : decode cL_boats 563 = .ok (.invokevirtual 79, 3) := by decide +kernel
theorem dL_boats_566 : decode cL_boats 566 = .ok (.aload 6, 2) := by decide +kernel
theorem dL_boats_568 : decode cL_boats 568 = .ok (.bipush 7, 2) := by decide +kernel
theorem dL_boats_570 : decode cL_boats 570 = .ok (.iload 9, 2) := by decide +kernel
theorem dL_boats_572 : decode cL_boats 572 = .ok (.imul, 1) := by decide +kernel
theorem dL_boats_573 : decode cL_boats 573 = .ok (.iaload, 1) := by decide +kernel
theorem dL_boats_574 : decode cL_boats 574 = .ok (.if_icmp .ne 7, 3) := by decide +kernel
theorem dL_boats_577 : decode cL_boats 577 = .ok (.iconst 1, 1) := by decide +kernel
theorem dL_boats_578 : decode cL_boats 578 = .ok (.goto 4, 3) := by decide +kernel
theorem dL_boats_581 : decode cL_boats 581 = .ok (.iconst 0, 1) := by decide +kernel
theorem dL_boats_582 : decode cL_boats 582 = .ok (.ireturn, 1) := by decide +kernel
theorem dL_boats_583 : decode cL_boats 583 = .ok (.iload 7, 2) := by decide +kernel
theorem dL_boats_585 : decode cL_boats 585 = .ok (.bipush 8, 2) := by decide +kernel
theorem dL_boats_587 : decode cL_boats 587 = .ok (.if_icmp .ge 164, 3) := by decide +kernel
theorem dL_boats_590 : decode cL_boats 590 = .ok (.iload_n 2, 1) := by decide +kernel
theorem dL_boats_591 : decode cL_boats 591 = .ok (.iconst 5, 1) := by decide +kernel
theorem dL_boats_592 : decode cL_boats 592 = .ok (.ishr, 1) := by decide +kernel
theorem dL_boats_593 : decode cL_boats 593 = .ok (.iconst 3, 1) := by decide +kernel
theorem dL_boats_594 : decode cL_boats 594 = .ok (.iand, 1) := by decide +kernel
theorem dL_boats_595 : decode cL_boats 595 = .ok (.ifCond .ne 7, 3) := by decide +kernel
theorem dL_boats_598 : decode cL_boats 598 = .ok (.iconst 1, 1) := by decide +kernel
theorem dL_boats_599 : decode cL_boats 599 = .ok (.goto 4, 3) := by decide +kernel
theorem dL_boats_602 : decode cL_boats 602 = .ok (.iconst 0, 1) := by decide +kernel
theorem dL_boats_603 : decode cL_boats 603 = .ok (.istore 10, 2) := by decide +kernel
theorem dL_boats_605 : decode cL_boats 605 = .ok (.aload 4, 2) := by decide +kernel
theorem dL_boats_607 : decode cL_boats 607 = .ok (.iload 8, 2) := by decide +kernel
theorem dL_boats_609 : decode cL_boats 609 = .ok (.bipush 7, 2) := by decide +kernel
theorem dL_boats_611 : decode cL_boats 611 = .ok (.invokestatic 9, 3) := by decide +kernel
theorem dL_boats_614 : decode cL_boats 614 = .ok (.istore 11, 2) := by decide +kernel
theorem dL_boats_616 : decode cL_boats 616 = .ok (.aload 4, 2) := by decide +kernel
theorem dL_boats_618 : decode cL_boats 618 = .ok (.iload 8, 2) := by decide +kernel
theorem dL_boats_620 : decode cL_boats 620 = .ok (.iconst 5, 1) := by decide +kernel
theorem dL_boats_621 : decode cL_boats 621 = .ok (.invokestatic 9, 3) := by decide +kernel
theorem dL_boats_624 : decode cL_boats 624 = .ok (.ifCond .lt 22, 3) := by decide +kernel
theorem dL_boats_627 : decode cL_boats 627 = .ok (.aload_n 0, 1) := by decide +kernel
theorem dL_boats_628 : decode cL_boats 628 = .ok (.iload 8, 2) := by decide +kernel
theorem dL_boats_630 : decode cL_boats 630 = .ok (.iload 10, 2) := by decide +kernel
theorem dL_boats_632 : decode cL_boats 632 = .ok (.invokevirtual 72, 3) := by decide +kernel
theorem dL_boats_635 : decode cL_boats 635 = .ok (.bipush (-4), 2) := by decide +kernel
theorem dL_boats_637 : decode cL_boats 637 = .ok (.if_icmp .ne 7, 3) := by decide +kernel
theorem dL_boats_640 : decode cL_boats 640 = .ok (.iconst 1, 1) := by decide +kernel
theorem dL_boats_641 : decode cL_boats 641 = .ok (.goto 4, 3) := by decide +kernel
theorem dL_boats_644 : decode cL_boats 644 = .ok (.iconst 0, 1) := by decide +kernel
theorem dL_boats_645 : decode cL_boats 645 = .ok (.ireturn, 1) := by decide +kernel
theorem dL_boats_646 : decode cL_boats 646 = .ok (.iload 10, 2) := by decide +kernel
theorem dL_boats_648 : decode cL_boats 648 = .ok (.iload 11, 2) := by decide +kernel
theorem dL_boats_650 : decode cL_boats 650 = .ok (.ifCond .ge 7, 3) := by decide +kernel
theorem dL_boats_653 : decode cL_boats 653 = .ok (.iconst 1, 1) := by decide +kernel
theorem dL_boats_654 : decode cL_boats 654 = .ok (.goto 4, 3) := by decide +kernel
theorem dL_boats_657 : decode cL_boats 657 = .ok (.iconst 0, 1) := by decide +kernel
theorem dL_boats_658 : decode cL_boats 658 = .ok (.if_icmp .ne 22, 3) := by decide +kernel
theorem dL_boats_661 : decode cL_boats 661 = .ok (.aload_n 0, 1) := by decide +kernel
theorem dL_boats_662 : decode cL_boats 662 = .ok (.iload 8, 2) := by decide +kernel
theorem dL_boats_664 : decode cL_boats 664 = .ok (.iload 10, 2) := by decide +kernel
theorem dL_boats_666 : decode cL_boats 666 = .ok (.invokevirtual 72, 3) := by decide +kernel
theorem dL_boats_669 : decode cL_boats 669 = .ok (.bipush (-5), 2) := by decide +kernel
theorem dL_boats_671 : decode cL_boats 671 = .ok (.if_icmp .ne 7, 3) := by decide +kernel
theorem dL_boats_674 : decode cL_boats 674 = .ok (.iconst 1, 1) := by decide +kernel
theorem dL_boats_675 : decode cL_boats 675 = .ok (.goto 4, 3) := by decide +kernel
theorem dL_boats_678 : decode cL_boats 678 = .ok (.iconst 0, 1) := by decide +kernel
theorem dL_boats_679 : decode cL_boats 679 = .ok (.ireturn, 1) := by decide +kernel
theorem dL_boats_680 : decode cL_boats 680 = .ok (.iload 10, 2) := by decide +kernel
theorem dL_boats_682 : decode cL_boats 682 = .ok (.ifCond .eq 8, 3) := by decide +kernel
theorem dL_boats_685 : decode cL_boats 685 = .ok (.iload 11, 2) := by decide +kernel
theorem dL_boats_687 : decode cL_boats 687 = .ok (.goto 21, 3) := by decide +kernel
theorem dL_boats_690 : decode cL_boats 690 = .ok (.aload 4, 2) := by decide +kernel
theorem dL_boats_692 : decode cL_boats 692 = .ok (.iload 8, 2) := by decide +kernel
theorem dL_boats_694 : decode cL_boats 694 = .ok (.iconst 1, 1) := by decide +kernel
theorem dL_boats_695 : decode cL_boats 695 = .ok (.invokestatic 9, 3) := by decide +kernel
theorem dL_boats_698 : decode cL_boats 698 = .ok (.bipush 13, 2) := by decide +kernel
theorem dL_boats_700 : decode cL_boats 700 = .ok (.if_icmp .ge 7, 3) := by decide +kernel
theorem dL_boats_703 : decode cL_boats 703 = .ok (.iconst 0, 1) := by decide +kernel
theorem dL_boats_704 : decode cL_boats 704 = .ok (.goto 4, 3) := by decide +kernel
theorem dL_boats_707 : decode cL_boats 707 = .ok (.iconst 1, 1) := by decide +kernel
theorem dL_boats_708 : decode cL_boats 708 = .ok (.istore 12, 2) := by decide +kernel
theorem dL_boats_710 : decode cL_boats 710 = .ok (.aload 4, 2) := by decide +kernel
theorem dL_boats_712 : decode cL_boats 712 = .ok (.bipush 10, 2) := by decide +kernel
theorem dL_boats_714 : decode cL_boats 714 = .ok (.iload 8, 2) := by decide +kernel
theorem dL_boats_716 : decode cL_boats 716 = .ok (.imul, 1) := by decide +kernel
theorem dL_boats_717 : decode cL_boats 717 = .ok (.bipush 7, 2) := by decide +kernel
theorem dL_boats_719 : decode cL_boats 719 = .ok (.iadd, 1) := by decide +kernel
theorem dL_boats_720 : decode cL_boats 720 = .ok (.iload 10, 2) := by decide +kernel
theorem dL_boats_722 : decode cL_boats 722 = .ok (.ifCond .eq 7, 3) := by decide +kernel
theorem dL_boats_725 : decode cL_boats 725 = .ok (.iconst (-1), 1) := by decide +kernel
theorem dL_boats_726 : decode cL_boats 726 = .ok (.goto 5, 3) := by decide +kernel
theorem dL_boats_729 : decode cL_boats 729 = .ok (.iload 12, 2) := by decide +kernel
theorem dL_boats_731 : decode cL_boats 731 = .ok (.iastore, 1) := by decide +kernel
theorem dL_boats_732 : decode cL_boats 732 = .ok (.aload_n 0, 1) := by decide +kernel
theorem dL_boats_733 : decode cL_boats 733 = .ok (.iload 8, 2) := by decide +kernel
theorem dL_boats_735 : decode cL_boats 735 = .ok (.iload 10, 2) := by decide +kernel
theorem dL_boats_737 : decode cL_boats 737 = .ok (.invokevirtual 72, 3) := by decide +kernel
theorem dL_boats_740 : decode cL_boats 740 = .ok (.iload 12, 2) := by decide +kernel
theorem dL_boats_742 : decode cL_boats 742 = .ok (.if_icmp .ne 7, 3) := by decide +kernel
theorem dL_boats_745 : decode cL_boats 745 = .ok (.iconst 1, 1) := by decide +kernel
theorem dL_boats_746 : decode cL_boats 746 = .ok (.goto 4, 3) := by decide +kernel
theorem dL_boats_749 : decode cL_boats 749 = .ok (.iconst 0, 1) := by decide +kernel
theorem dL_boats_750 : decode cL_boats 750 = .ok (.ireturn, 1) := by decide +kernel
theorem dL_boats_751 : decode cL_boats 751 = .ok (.iconst 1, 1) := by decide +kernel
theorem dL_boats_752 : decode cL_boats 752 = .ok (.iload_n 2, 1) := by decide +kernel
theorem dL_boats_753 : decode cL_boats 753 = .ok (.iconst 5, 1) := by decide +kernel
theorem dL_boats_754 : decode cL_boats 754 = .ok (.ishr, 1) := by decide +kernel
theorem dL_boats_755 : decode cL_boats 755 = .ok (.iload_n 2, 1) := by decide +kernel
theorem dL_boats_756 : decode cL_boats 756 = .ok (.iconst 4, 1) := by decide +kernel
theorem dL_boats_757 : decode cL_boats 757 = .ok (.ishr, 1) := by decide +kernel
theorem dL_boats_758 : decode cL_boats 758 = .ok (.iconst 1, 1) := by decide +kernel
theorem dL_boats_759 : decode cL_boats 759 = .ok (.iand, 1) := by decide +kernel
theorem dL_boats_760 : decode cL_boats 760 = .ok (.ifCond .ne 8, 3) := by decide +kernel
theorem dL_boats_763 : decode cL_boats 763 = .ok (.bipush 9, 2) := by decide +kernel
theorem dL_boats_765 : decode cL_boats 765 = .ok (.goto 5, 3) := by decide +kernel
theorem dL_boats_768 : decode cL_boats 768 = .ok (.bipush 99, 2) := by decide +kernel
theorem dL_boats_770 : decode cL_boats 770 = .ok (.invokestatic 41, 3) := by decide +kernel
theorem dL_boats_773 : decode cL_boats 773 = .ok (.iadd, 1) := by decide +kernel
theorem dL_boats_774 : decode cL_boats 774 = .ok (.istore 10, 2) := by decide +kernel
theorem dL_boats_776 : decode cL_boats 776 = .ok (.aload 4, 2) := by decide +kernel
theorem dL_boats_778 : decode cL_boats 778 = .ok (.iload 8, 2) := by decide +kernel
theorem dL_boats_780 : decode cL_boats 780 = .ok (.bipush 8, 2) := by decide +kernel
theorem dL_boats_782 : decode cL_boats 782 = .ok (.invokestatic 9, 3) := by decide +kernel
theorem dL_boats_785 : decode cL_boats 785 = .ok (.iload 10, 2) := by decide +kernel
theorem dL_boats_787 : decode cL_boats 787 = .ok (.iadd, 1) := by decide +kernel
theorem dL_boats_788 : decode cL_boats 788 = .ok (.bipush 99, 2) := by decide +kernel
theorem dL_boats_790 : decode cL_boats 790 = .ok (.if_icmp .le 35, 3) := by decide +kernel
theorem dL_boats_793 : decode cL_boats 793 = .ok (.aload_n 0, 1) := by decide +kernel
theorem dL_boats_794 : decode cL_boats 794 = .ok (.iload 8, 2) := by decide +kernel
theorem dL_boats_796 : decode cL_boats 796 = .ok (.iload 10, 2) := by decide +kernel
theorem dL_boats_798 : decode cL_boats 798 = .ok (.invokevirtual 76, 3) := by decide +kernel
theorem dL_boats_801 : decode cL_boats 801 = .ok (.bipush (-3), 2) := by decide +kernel
theorem dL_boats_803 : decode cL_boats 803 = .ok (.if_icmp .ne 20, 3) := by decide +kernel
theorem dL_boats_806 : decode cL_boats 806 = .ok (.aload_n 0, 1) := by decide +kernel
theorem dL_boats_807 : decode cL_boats 807 = .ok (.iload 8, 2) := by decide +kernel
theorem dL_boats_809 : decode cL_boats 809 = .ok (.bipush 100, 2) := by decide +kernel
theorem dL_boats_811 : decode cL_boats 811 = .ok (.invokevirtual 76, 3) := by decide +kernel
theorem dL_boats_814 : decode cL_boats 814 = .ok (.bipush (-2), 2) := by decide +kernel
theorem dL_boats_816 : decode cL_boats 816 = .ok (.if_icmp .ne 7, 3) := by decide +kernel
theorem dL_boats_819 : decode cL_boats 819 = .ok (.iconst 1, 1) := by decide +kernel
theorem dL_boats_820 : decode cL_boats 820 = .ok (.goto 4, 3) := by decide +kernel
theorem dL_boats_823 : decode cL_boats 823 = .ok (.iconst 0, 1) := by decide +kernel
theorem dL_boats_824 : decode cL_boats 824 = .ok (.ireturn, 1) := by decide +kernel
theorem dL_boats_825 : decode cL_boats 825 = .ok (.aload 4, 2) := by decide +kernel
theorem dL_boats_827 : decode cL_boats 827 = .ok (.bipush 10, 2) := by decide +kernel
theorem dL_boats_829 : decode cL_boats 829 = .ok (.iload 8, 2) := by decide +kernel
theorem dL_boats_831 : decode cL_boats 831 = .ok (.imul, 1) := by decide +kernel
theorem dL_boats_832 : decode cL_boats 832 = .ok (.bipush 8, 2) := by decide +kernel
theorem dL_boats_834 : decode cL_boats 834 = .ok (.iadd, 1) := by decide +kernel
theorem dL_boats_835 : decode cL_boats 835 = .ok (.dup2, 1) := by decide +kernel
theorem dL_boats_836 : decode cL_boats 836 = .ok (.iaload, 1) := by decide +kernel
theorem dL_boats_837 : decode cL_boats 837 = .ok (.iload 10, 2) := by decide +kernel
theorem dL_boats_839 : decode cL_boats 839 = .ok (.iadd, 1) := by decide +kernel
theorem dL_boats_840 : decode cL_boats 840 = .ok (.iastore, 1) := by decide +kernel
theorem dL_boats_841 : decode cL_boats 841 = .ok (.aload_n 0, 1) := by decide +kernel
theorem dL_boats_842 : decode cL_boats 842 = .ok (.iload 8, 2) := by decide +kernel
theorem dL_boats_844 : decode cL_boats 844 = .ok (.iload 10, 2) := by decide +kernel
theorem dL_boats_846 : decode cL_boats 846 = .ok (.invokevirtual 76, 3) := by decide +kernel
theorem dL_boats_849 : decode cL_boats 849 = .ok (.aload 4, 2) := by decide +kernel
theorem dL_boats_851 : decode cL_boats 851 = .ok (.iload 8, 2) := by decide +kernel
theorem dL_boats_853 : decode cL_boats 853 = .ok (.bipush 8, 2) := by decide +kernel
theorem dL_boats_855 : decode cL_boats 855 = .ok (.invokestatic 9, 3) := by decide +kernel
theorem dL_boats_858 : decode cL_boats 858 = .ok (.if_icmp .ne 7, 3) := by decide +kernel
theorem dL_boats_861 : decode cL_boats 861 = .ok (.iconst 1, 1) := by decide +kernel
theorem dL_boats_862 : decode cL_boats 862 = .ok (.goto 4, 3) := by decide +kernel
theorem dL_boats_865 : decode cL_boats 865 = .ok (.iconst 0, 1) := by decide +kernel
theorem dL_boats_866 : decode cL_boats 866 = .ok (.ireturn, 1) := by decide +kernel
theorem dL_isBoat_0 : decode cL_isBoat 0 = .ok (.aload_n 3, 1) := by decide +kernel
theorem dL_isBoat_1 : decode cL_isBoat 1 = .ok (.iload_n 1, 1) := by decide +kernel
theorem dL_isBoat_2 : decode cL_isBoat 2 = .ok (.iconst 5, 1) := by decide +kernel
theorem dL_isBoat_3 : decode cL_isBoat 3 = .ok (.invokestatic 9, 3) := by decide +kernel
theorem dL_isBoat_6 : decode cL_isBoat 6 = .ok (.istore 6, 2) := by decide +kernel
theorem dL_isBoat_8 : decode cL_isBoat 8 = .ok (.bipush (-5), 2) := by decide +kernel
theorem dL_isBoat_10 : decode cL_isBoat 10 = .ok (.istore 7, 2) := by decide +kernel
theorem dL_isBoat_12 : decode cL_isBoat 12 = .ok (.iconst 0, 1) := by decide +kernel
theorem dL_isBoat_13 : decode cL_isBoat 13 = .ok (.istore 8, 2) := by decide +kernel
theorem dL_isBoat_15 : decode cL_isBoat 15 = .ok (.iload 8, 2) := by decide +kernel
theorem dL_isBoat_17 : decode cL_isBoat 17 = .ok (.iconst 4, 1) := by decide +kernel
theorem dL_isBoat_18 : decode cL_isBoat 18 = .ok (.if_icmp .ge 30, 3) := by decide +kernel
theorem dL_isBoat_21 : decode cL_isBoat 21 = .ok (.aload_n 0, 1) := by decide +kernel
theorem dL_isBoat_22 : decode cL_isBoat 22 = .ok (.iload_n 1, 1) := by decide +kernel
theorem dL_isBoat_23 : decode cL_isBoat 23 = .ok (.iload 8, 2) := by decide +kernel
theorem dL_isBoat_25 : decode cL_isBoat 25 = .ok (.invokevirtual 93, 3) := by decide +kernel
theorem dL_isBoat_28 : decode cL_isBoat 28 = .ok (.aload_n 3, 1) := by decide +kernel
theorem dL_isBoat_29 : decode cL_isBoat 29 = .ok (.iload_n 1, 1) := by decide +kernel
theorem dL_isBoat_30 : decode cL_isBoat 30 = .ok (.iload 8, 2) := by decide +kernel
theorem dL_isBoat_32 : decode cL_isBoat 32 = .ok (.iconst 1, 1) := by decide +kernel
theorem dL_isBoat_33 : decode cL_isBoat 33 = .ok (.iadd, 1) := by decide +kernel
theorem dL_isBoat_34 : decode cL_isBoat 34 = .ok (.invokestatic 9, 3) := by decide +kernel
theorem dL_isBoat_37 : decode cL_isBoat 37 = .ok (.if_icmp .eq 5, 3) := by decide +kernel
theorem dL_isBoat_40 : decode cL_isBoat 40 = .ok (.iconst 0, 1) := by decide +kernel
theorem dL_isBoat_41 : decode cL_isBoat 41 = .ok (.ireturn, 1) := by decide +kernel
theorem dL_isBoat_42 : decode cL_isBoat 42 = .ok (.iinc 8 1, 3) := by decide +kernel
theorem dL_isBoat_45 : decode cL_isBoat 45 = .ok (.goto (-30), 3) := by decide +kernel
theorem dL_isBoat_48 : decode cL_isBoat 48 = .ok (.aload_n 0, 1) := by decide +kernel
theorem dL_isBoat_49 : decode cL_isBoat 49 = .ok (.iload_n 1, 1) := by decide +kernel
theorem dL_isBoat_50 : decode cL_isBoat 50 = .ok (.iconst 4, 1) := by decide +kernel
theorem dL_isBoat_51 : decode cL_isBoat 51 = .ok (.invokevirtual 93, 3) := by decide +kernel
theorem dL_isBoat_54 : decode cL_isBoat 54 = .ok (.iload 6, 2) := by decide +kernel
theorem dL_isBoat_56 : decode cL_isBoat 56 = .ok (.ifCond .ge 8, 3) := by decide +kernel
theorem dL_isBoat_59 : decode cL_isBoat 59 = .ok (.iload 7, 2) := by decide +kernel
theorem dL_isBoat_61 : decode cL_isBoat 61 = .ok (.goto 5, 3) := by decide +kernel
theorem dL_isBoat_64 : decode cL_isBoat 64 = .ok (.iload 6, 2) := by decide +kernel
theorem dL_isBoat_66 : decode cL_isBoat 66 = .ok (.if_icmp .ne 145, 3) := by decide +kernel
theorem dL_isBoat_69 : decode cL_isBoat 69 = .ok (.aload_n 0, 1) := by decide +kernel
theorem dL_isBoat_70 : decode cL_isBoat 70 = .ok (.iload_n 1, 1) := by decide +kernel
theorem dL_isBoat_71 : decode cL_isBoat 71 = .ok (.iconst 5, 1) := by decide +kernel
theorem dL_isBoat_72 : decode cL_isBoat 72 = .ok (.invokevirtual 93, 3) := by decide +kernel
theorem dL_isBoat_75 : decode cL_isBoat 75 = .ok (.iload 6, 2) := by decide +kernel
theorem dL_isBoat_77 : decode cL_isBoat 77 = .ok (.ifCond .ge 8, 3) := by decide +kernel
theorem dL_isBoat_80 : decode cL_isBoat 80 = .ok (.iload 7, 2) := by decide +kernel
theorem dL_isBoat_82 : decode cL_isBoat 82 = .ok (.goto 10, 3) := by decide +kernel
theorem dL_isBoat_85 : decode cL_isBoat 85 = .ok (.iload_n 1, 1) := by decide +kernel
theorem dL_isBoat_86 : decode cL_isBoat 86 = .ok (.aload_n 3, 1) := by decide +kernel
theorem dL_isBoat_87 : decode cL_isBoat 87 = .ok (.aload 5, 2) := by decide +kernel
theorem dL_isBoat_89 : decode cL_isBoat 89 = .ok (.invokestatic 38, 3) := by decide +kernel
theorem dL_isBoat_92 : decode cL_isBoat 92 = .ok (.if_icmp .ne 119, 3) := by decide +kernel
theorem dL_isBoat_95 : decode cL_isBoat 95 = .ok (.aload_n 0, 1) := by decide +kernel
theorem dL_isBoat_96 : decode cL_isBoat 96 = .ok (.iload_n 1, 1) := by decide +kernel
theorem dL_isBoat_97 : decode cL_isBoat 97 = .ok (.bipush 6, 2) := by decide +kernel
theorem dL_isBoat_99 : decode cL_isBoat 99 = .ok (.invokevirtual 93, 3) := by decide +kernel
theorem dL_isBoat_102 : decode cL_isBoat 102 = .ok (.iload 6, 2) := by decide +kernel
theorem dL_isBoat_104 : decode cL_isBoat 104 = .ok (.ifCond .ge 8, 3) := by decide +kernel
theorem dL_isBoat_107 : decode cL_isBoat 107 = .ok (.iload 7, 2) := by decide +kernel
theorem dL_isBoat_109 : decode cL_isBoat 109 = .ok (.goto 10, 3) := by decide +kernel
theorem dL_isBoat_112 : decode cL_isBoat 112 = .ok (.aload_n 3, 1) := by decide +kernel
theorem dL_isBoat_113 : decode cL_isBoat 113 = .ok (.iload_n 1, 1) := by decide +kernel
theorem dL_isBoat_114 : decode cL_isBoat 114 = .ok (.bipush 6, 2) := by decide +kernel
theorem dL_isBoat_116 : decode cL_isBoat 116 = .ok (.invokestatic 9, 3) := by decide +kernel
theorem dL_isBoat_119 : decode cL_isBoat 119 = .ok (.if_icmp .ne 92, 3) := by decide +kernel
theorem dL_isBoat_122 : decode cL_isBoat 122 = .ok (.aload_n 0, 1) := by decide +kernel
theorem dL_isBoat_123 : decode cL_isBoat 123 = .ok (.iload_n 1, 1) := by decide +kernel
theorem dL_isBoat_124 : decode cL_isBoat 124 = .ok (.bipush 7, 2) := by decide +kernel
theorem dL_isBoat_126 : decode cL_isBoat 126 = .ok (.invokevirtual 93, 3) := by decide +kernel
theorem dL_isBoat_129 : decode cL_isBoat 129 = .ok (.aload_n 3, 1) := by decide +kernel
theorem dL_isBoat_130 : decode cL_isBoat 130 = .ok (.iload_n 1, 1) := by decide +kernel
theorem dL_isBoat_131 : decode cL_isBoat 131 = .ok (.bipush 7, 2) := by decide +kernel
theorem dL_isBoat_133 : decode cL_isBoat 133 = .ok (.invokestatic 9, 3) := by decide +kernel
theorem dL_isBoat_136 : decode cL_isBoat 136 = .ok (.ifCond .ge 8, 3) := by decide +kernel
theorem dL_isBoat_139 : decode cL_isBoat 139 = .ok (.iload 7, 2) := by decide +kernel
theorem dL_isBoat_141 : decode cL_isBoat 141 = .ok (.goto 10, 3) := by decide +kernel
theorem dL_isBoat_144 : decode cL_isBoat 144 = .ok (.aload_n 3, 1) := by decide +kernel
theorem dL_isBoat_145 : decode cL_isBoat 145 = .ok (.iload_n 1, 1) := by decide +kernel
theorem dL_isBoat_146 : decode cL_isBoat 146 = .ok (.bipush 7, 2) := by decide +kernel
theorem dL_isBoat_148 : decode cL_isBoat 148 = .ok (.invokestatic 9, 3) := by decide +kernel
theorem dL_isBoat_151 : decode cL_isBoat 151 = .ok (.if_icmp .ne 60, 3) := by decide +kernel
theorem dL_isBoat_154 : decode cL_isBoat 154 = .ok (.aload_n 0, 1) := by decide +kernel
theorem dL_isBoat_155 : decode cL_isBoat 155 = .ok (.iload_n 1, 1) := by decide +kernel
theorem dL_isBoat_156 : decode cL_isBoat 156 = .ok (.bipush 8, 2) := by decide +kernel
theorem dL_isBoat_158 : decode cL_isBoat 158 = .ok (.invokevirtual 93, 3) := by decide +kernel
theorem dL_isBoat_161 : decode cL_isBoat 161 = .ok (.aload_n 3, 1) := by decide +kernel
theorem dL_isBoat_162 : decode cL_isBoat 162 = .ok (.iload_n 1, 1) := by decide +kernel
theorem dL_isBoat_163 : decode cL_isBoat 163 = .ok (.bipush 8, 2) := by decide +kernel
theorem dL_isBoat_165 : decode cL_isBoat 165 = .ok (.invokestatic 9, 3) := by decide +kernel
theorem dL_isBoat_168 : decode cL_isBoat 168 = .ok (.if_icmp .ne 43, 3) := by decide +kernel
theorem dL_isBoat_171 : decode cL_isBoat 171 = .ok (.aload_n 0, 1) := by decide +kernel
theorem dL_isBoat_172 : decode cL_isBoat 172 = .ok (.iload_n 1, 1) := by decide +kernel
theorem dL_isBoat_173 : decode cL_isBoat 173 = .ok (.bipush 9, 2) := by decide +kernel
theorem dL_isBoat_175 : decode cL_isBoat 175 = .ok (.invokevirtual 93, 3) := by decide +kernel
theorem dL_isBoat_178 : decode cL_isBoat 178 = .ok (.iload 6, 2) := by decide +kernel
theorem dL_isBoat_180 : decode cL_isBoat 180 = .ok (.ifCond .ge 7, 3) := by decide +kernel
theorem dL_isBoat_183 : decode cL_isBoat 183 = .ok (.iconst 0, 1) := by decide +kernel
theorem dL_isBoat_184 : decode cL_isBoat 184 = .ok (.goto 10, 3) := by decide +kernel
theorem dL_isBoat_187 : decode cL_isBoat 187 = .ok (.aload_n 3, 1) := by decide +kernel
theorem dL_isBoat_188 : decode cL_isBoat 188 = .ok (.iload_n 1, 1) := by decide +kernel
theorem dL_isBoat_189 : decode cL_isBoat 189 = .ok (.bipush 9, 2) := by decide +kernel
theorem dL_isBoat_191 : decode cL_isBoat 191 = .ok (.invokestatic 9, 3) := by decide +kernel
theorem dL_isBoat_194 : decode cL_isBoat 194 = .ok (.if_icmp .ne 17, 3) := by decide +kernel
theorem dL_isBoat_197 : decode cL_isBoat 197 = .ok (.aload_n 0, 1) := by decide +kernel
theorem dL_isBoat_198 : decode cL_isBoat 198 = .ok (.iload_n 1, 1) := by decide +kernel
theorem dL_isBoat_199 : decode cL_isBoat 199 = .ok (.bipush 10, 2) := by decide +kernel
theorem dL_isBoat_201 : decode cL_isBoat 201 = .ok (.invokevirtual 93, 3) := by decide +kernel
theorem dL_isBoat_204 : decode cL_isBoat 204 = .ok (.aload 4, 2) := by decide +kernel
theorem dL_isBoat_206 : decode cL_isBoat 206 = .ok (.iload_n 1, 1) := by decide +kernel
theorem dL_isBoat_207 : decode cL_isBoat 207 = .ok (.iaload, 1) := by decide +kernel
theorem dL_isBoat_208 : decode cL_isBoat 208 = .ok (.if_icmp .eq 5, 3) := by decide +kernel
theorem dL_isBoat_211 : decode cL_isBoat 211 = .ok (.iconst 0, 1) := by decide +kernel
theorem dL_isBoat_212 : decode cL_isBoat 212 = .ok (.ireturn, 1) := by decide +kernel
theorem dL_isBoat_213 : decode cL_isBoat 213 = .ok (.iload 7, 2) := by decide +kernel
theorem dL_isBoat_215 : decode cL_isBoat 215 = .ok (.istore 8, 2) := by decide +kernel
theorem dL_isBoat_217 : decode cL_isBoat 217 = .ok (.iconst 0, 1) := by decide +kernel
theorem dL_isBoat_218 : decode cL_isBoat 218 = .ok (.istore 9, 2) := by decide +kernel
theorem dL_isBoat_220 : decode cL_isBoat 220 = .ok (.iload 9, 2) := by decide +kernel
theorem dL_isBoat_222 : decode cL_isBoat 222 = .ok (.iconst 4, 1) := by decide +kernel
theorem dL_isBoat_223 : decode cL_isBoat 223 = .ok (.if_icmp .ge 88, 3) := by decide +kernel
theorem dL_isBoat_226 : decode cL_isBoat 226 = .ok (.iload 9, 2) := by decide +kernel
theorem dL_isBoat_228 : decode cL_isBoat 228 = .ok (.aload_n 2, 1) := by decide +kernel
theorem dL_isBoat_229 : decode cL_isBoat 229 = .ok (.aload_n 3, 1) := by decide +kernel
theorem dL_isBoat_230 : decode cL_isBoat 230 = .ok (.aload 5, 2) := by decide +kernel
theorem dL_isBoat_232 : decode cL_isBoat 232 = .ok (.invokestatic 30, 3) := by decide +kernel
theorem dL_isBoat_235 : decode cL_isBoat 235 = .ok (.istore 10, 2) := by decide +kernel
theorem dL_isBoat_237 : decode cL_isBoat 237 = .ok (.iload 9, 2) := by decide +kernel
theorem dL_isBoat_239 : decode cL_isBoat 239 = .ok (.iload 6, 2) := by decide +kernel
theorem dL_isBoat_241 : decode cL_isBoat 241 = .ok (.if_icmp .eq 38, 3) := by decide +kernel
theorem dL_isBoat_244 : decode cL_isBoat 244 = .ok (.iload 10, 2) := by decide +kernel
theorem dL_isBoat_246 : decode cL_isBoat 246 = .ok (.aload_n 3, 1) := by decide +kernel
theorem dL_isBoat_247 : decode cL_isBoat 247 = .ok (.iload_n 1, 1) := by decide +kernel
theorem dL_isBoat_248 : decode cL_isBoat 248 = .ok (.iconst 1, 1) := by decide +kernel
theorem dL_isBoat_249 : decode cL_isBoat 249 = .ok (.invokestatic 9, 3) := by decide +kernel
theorem dL_isBoat_252 : decode cL_isBoat 252 = .ok (.if_icmp .le 27, 3) := by decide +kernel
theorem dL_isBoat_255 : decode cL_isBoat 255 = .ok (.iload 8, 2) := by decide +kernel
theorem dL_isBoat_257 : decode cL_isBoat 257 = .ok (.ifCond .lt 17, 3) := by decide +kernel
theorem dL_isBoat_260 : decode cL_isBoat 260 = .ok (.iload 10, 2) := by decide +kernel
theorem dL_isBoat_262 : decode cL_isBoat 262 = .ok (.iload 8, 2) := by decide +kernel
theorem dL_isBoat_264 : decode cL_isBoat 264 = .ok (.aload_n 2, 1) := by decide +kernel
theorem dL_isBoat_265 : decode cL_isBoat 265 = .ok (.aload_n 3, 1) := by decide +kernel
theorem dL_isBoat_266 : decode cL_isBoat 266 = .ok (.aload 5, 2) := by decide +kernel
theorem dL_isBoat_268 : decode cL_isBoat 268 = .ok (.invokestatic 30, 3) := by decide +kernel
theorem dL_isBoat_271 : decode cL_isBoat 271 = .ok (.if_icmp .ge 8, 3) := by decide +kernel
theorem dL_isBoat_274 : decode cL_isBoat 274 = .ok (.iload 9, 2) := by decide +kernel
theorem dL_isBoat_276 : decode cL_isBoat 276 = .ok (.goto 5, 3) := by decide +kernel
theorem dL_isBoat_279 : decode cL_isBoat 279 = .ok (.iload 8, 2) := by decide +kernel
theorem dL_isBoat_281 : decode cL_isBoat 281 = .ok (.istore 8, 2) := by decide +kernel
theorem dL_isBoat_283 : decode cL_isBoat 283 = .ok (.aload_n 0, 1) := by decide +kernel
theorem dL_isBoat_284 : decode cL_isBoat 284 = .ok (.iload_n 1, 1) := by decide +kernel
theorem dL_isBoat_285 : decode cL_isBoat 285 = .ok (.iload 9, 2) := by decide +kernel
theorem dL_isBoat_287 : decode cL_isBoat 287 = .ok (.invokevirtual 96, 3) := by decide +kernel
theorem dL_isBoat_290 : decode cL_isBoat 290 = .ok (.iload_n 1, 1) := by decide +kernel
theorem dL_isBoat_291 : decode cL_isBoat 291 = .ok (.iload 9, 2) := by decide +kernel
theorem dL_isBoat_293 : decode cL_isBoat 293 = .ok (.aload_n 2, 1) := by decide +kernel
theorem dL_isBoat_294 : decode cL_isBoat 294 = .ok (.aload_n 3, 1) := by decide +kernel
theorem dL_isBoat_295 : decode cL_isBoat 295 = .ok (.aload 5, 2) := by decide +kernel
theorem dL_isBoat_297 : decode cL_isBoat 297 = .ok (.invokestatic 82, 3) := by decide +kernel
theorem dL_isBoat_300 : decode cL_isBoat 300 = .ok (.if_icmp .eq 5, 3) := by decide +kernel
theorem dL_isBoat_303 : decode cL_isBoat 303 = .ok (.iconst 0, 1) := by decide +kernel
theorem dL_isBoat_304 : decode cL_isBoat 304 = .ok (.ireturn, 1) := by decide +kernel
theorem dL_isBoat_305 : decode cL_isBoat 305 = .ok (.iinc 9 1, 3) := by decide +kernel
theorem dL_isBoat_308 : decode cL_isBoat 308 = .ok (.goto (-88), 3) := by decide +kernel
theorem dL_isBoat_311 : decode cL_isBoat 311 = .ok (.aload_n 0, 1) := by decide +kernel
theorem dL_isBoat_312 : decode cL_isBoat 312 = .ok (.iload_n 1, 1) := by decide +kernel
theorem dL_isBoat_313 : decode cL_isBoat 313 = .ok (.invokevirtual 98, 3) := by decide +kernel
theorem dL_isBoat_316 : decode cL_isBoat 316 = .ok (.iload 8, 2) := by decide +kernel
theorem dL_isBoat_318 : decode cL_isBoat 318 = .ok (.if_icmp .ne 73, 3) := by decide +kernel
theorem dL_isBoat_321 : decode cL_isBoat 321 = .ok (.aload_n 0, 1) := by decide +kernel
theorem dL_isBoat_322 : decode cL_isBoat 322 = .ok (.iload_n 1, 1) := by decide +kernel
theorem dL_isBoat_323 : decode cL_isBoat 323 = .ok (.invokevirtual 101, 3) := by decide +kernel
theorem dL_isBoat_326 : decode cL_isBoat 326 = .ok (.iload_n 1, 1) := by decide +kernel
theorem dL_isBoat_327 : decode cL_isBoat 327 = .ok (.aload_n 2, 1) := by decide +kernel
theorem dL_isBoat_328 : decode cL_isBoat 328 = .ok (.aload_n 3, 1) := by decide +kernel
theorem dL_isBoat_329 : decode cL_isBoat 329 = .ok (.aload 5, 2) := by decide +kernel
theorem dL_isBoat_331 : decode cL_isBoat 331 = .ok (.invokestatic 90, 3) := by decide +kernel
theorem dL_isBoat_334 : decode cL_isBoat 334 = .ok (.if_icmp .ne 57, 3) := by decide +kernel
theorem dL_isBoat_337 : decode cL_isBoat 337 = .ok (.aload_n 0, 1) := by decide +kernel
theorem dL_isBoat_338 : decode cL_isBoat 338 = .ok (.iload_n 1, 1) := by decide +kernel
theorem dL_isBoat_339 : decode cL_isBoat 339 = .ok (.invokevirtual 103, 3) := by decide +kernel
theorem dL_isBoat_342 : decode cL_isBoat 342 = .ok (.iload 6, 2) := by decide +kernel
theorem dL_isBoat_344 : decode cL_isBoat 344 = .ok (.ifCond .ge 8, 3) := by decide +kernel
theorem dL_isBoat_347 : decode cL_isBoat 347 = .ok (.iload 7, 2) := by decide +kernel
theorem dL_isBoat_349 : decode cL_isBoat 349 = .ok (.goto 21, 3) := by decide +kernel
theorem dL_isBoat_352 : decode cL_isBoat 352 = .ok (.aload 5, 2) := by decide +kernel
theorem dL_isBoat_354 : decode cL_isBoat 354 = .ok (.bipush 7, 2) := by decide +kernel
theorem dL_isBoat_356 : decode cL_isBoat 356 = .ok (.iload 6, 2) := by decide +kernel
theorem dL_isBoat_358 : decode cL_isBoat 358 = .ok (.imul, 1) := by decide +kernel
theorem dL_isBoat_359 : decode cL_isBoat 359 = .ok (.iaload, 1) := by decide +kernel
theorem dL_isBoat_360 : decode cL_isBoat 360 = .ok (.iconst 1, 1) := by decide +kernel
theorem dL_isBoat_361 : decode cL_isBoat 361 = .ok (.isub, 1) := by decide +kernel
theorem dL_isBoat_362 : decode cL_isBoat 362 = .ok (.iload_n 1, 1) := by decide +kernel
theorem dL_isBoat_363 : decode cL_isBoat 363 = .ok (.aload_n 3, 1) := by decide +kernel
theorem dL_isBoat_364 : decode cL_isBoat 364 = .ok (.aload 5, 2) := by decide +kernel
theorem dL_isBoat_366 : decode cL_isBoat 366 = .ok (.invokestatic 38, 3) := by decide +kernel
theorem dL_isBoat_369 : decode cL_isBoat 369 = .ok (.isub, 1) := by decide +kernel
theorem dL_isBoat_370 : decode cL_isBoat 370 = .ok (.if_icmp .ne 21, 3) := by decide +kernel
theorem dL_isBoat_373 : decode cL_isBoat 373 = .ok (.aload_n 0, 1) := by decide +kernel
theorem dL_isBoat_374 : decode cL_isBoat 374 = .ok (.iload_n 1, 1) := by decide +kernel
theorem dL_isBoat_375 : decode cL_isBoat 375 = .ok (.invokevirtual 106, 3) := by decide +kernel
theorem dL_isBoat_378 : decode cL_isBoat 378 = .ok (.iload_n 1, 1) := by decide +kernel
theorem dL_isBoat_379 : decode cL_isBoat 379 = .ok (.aload_n 2, 1) := by decide +kernel
theorem dL_isBoat_380 : decode cL_isBoat 380 = .ok (.aload_n 3, 1) := by decide +kernel
theorem dL_isBoat_381 : decode cL_isBoat 381 = .ok (.invokestatic 109, 3) := by decide +kernel
theorem dL_isBoat_384 : decode cL_isBoat 384 = .ok (.if_icmp .ne 7, 3) := by decide +kernel
theorem dL_isBoat_387 : decode cL_isBoat 387 = .ok (.iconst 1, 1) := by decide +kernel
theorem dL_isBoat_388 : decode cL_isBoat 388 = .ok (.goto 4, 3) := by decide +kernel
theorem dL_isBoat_391 : decode cL_isBoat 391 = .ok (.iconst 0, 1) := by decide +kernel
theorem dL_isBoat_392 : decode cL_isBoat 392 = .ok (.ireturn, 1) := by decide +kernel
theorem dL_isSo_0 : decode cL_isSo 0 = .ok (.iconst 0, 1) := by decide +kernel
theorem dL_isSo_1 : decode cL_isSo 1 = .ok (.istore 5, 2) := by decide +kernel
theorem dL_isSo_3 : decode cL_isSo 3 = .ok (.iconst 0, 1) := by decide +kernel
theorem dL_isSo_4 : decode cL_isSo 4 = .ok (.istore 6, 2) := by decide +kernel
theorem dL_isSo_6 : decode cL_isSo 6 = .ok (.iconst 0, 1) := by decide +kernel
theorem dL_isSo_7 : decode cL_isSo 7 = .ok (.istore 7, 2) := by decide +kernel
theorem dL_isSo_9 : decode cL_isSo 9 = .ok (.iconst 0, 1) := by decide +kernel
theorem dL_isSo_10 : decode cL_isSo 10 = .ok (.istore 8, 2) := by decide +kernel
theorem dL_isSo_12 : decode cL_isSo 12 = .ok (.iload 8, 2) := by decide +kernel
theorem dL_isSo_14 : decode cL_isSo 14 = .ok (.bipush 6, 2) := by decide +kernel
theorem dL_isSo_16 : decode cL_isSo 16 = .ok (.if_icmp .ge 102, 3) := by decide +kernel
theorem dL_isSo_19 : decode cL_isSo 19 = .ok (.aload_n 2, 1) := by decide +kernel
theorem dL_isSo_20 : decode cL_isSo 20 = .ok (.iload 8, 2) := by decide +kernel
theorem dL_isSo_22 : decode cL_isSo 22 = .ok (.iconst 0, 1) := by decide +kernel
theorem dL_isSo_23 : decode cL_isSo 23 = .ok (.invokestatic 9, 3) := by decide +kernel
theorem dL_isSo_26 : decode cL_isSo 26 = .ok (.ifCond .ne 26, 3) := by decide +kernel
theorem dL_isSo_29 : decode cL_isSo 29 = .ok (.aload_n 0, 1) := by decide +kernel
theorem dL_isSo_30 : decode cL_isSo 30 = .ok (.iload 8, 2) := by decide +kernel
theorem dL_isSo_32 : decode cL_isSo 32 = .ok (.iconst 0, 1) := by decide +kernel
theorem dL_isSo_33 : decode cL_isSo 33 = .ok (.invokevirtual 93, 3) := by decide +kernel
theorem dL_isSo_36 : decode cL_isSo 36 = .ok (.iconst (-1), 1) := by decide +kernel
theorem dL_isSo_37 : decode cL_isSo 37 = .ok (.if_icmp .ne 13, 3) := by decide +kernel
theorem dL_isSo_40 : decode cL_isSo 40 = .ok (.aload_n 0, 1) := by decide +kernel
theorem dL_isSo_41 : decode cL_isSo 41 = .ok (.iload 8, 2) := by decide +kernel
theorem dL_isSo_43 : decode cL_isSo 43 = .ok (.invokevirtual 106, 3) := by decide +kernel
theorem dL_isSo_46 : decode cL_isSo 46 = .ok (.iconst (-1), 1) := by decide +kernel
theorem dL_isSo_47 : decode cL_isSo 47 = .ok (.if_icmp .eq 65, 3) := by decide +kernel
theorem dL_isSo_50 : decode cL_isSo 50 = .ok (.iconst 0, 1) := by decide +kernel
theorem dL_isSo_51 : decode cL_isSo 51 = .ok (.ireturn, 1) := by decide +kernel
theorem dL_isSo_52 : decode cL_isSo 52 = .ok (.aload_n 0, 1) := by decide +kernel
theorem dL_isSo_53 : decode cL_isSo 53 = .ok (.iload 8, 2) := by decide +kernel
theorem dL_isSo_55 : decode cL_isSo 55 = .ok (.aload_n 1, 1) := by decide +kernel
theorem dL_isSo_56 : decode cL_isSo 56 = .ok (.aload_n 2, 1) := by decide +kernel
theorem dL_isSo_57 : decode cL_isSo 57 = .ok (.aload_n 3, 1) := by decide +kernel
theorem dL_isSo_58 : decode cL_isSo 58 = .ok (.aload 4, 2) := by decide +kernel
theorem dL_isSo_60 : decode cL_isSo 60 = .ok (.invokestatic 111, 3) := by decide +kernel
theorem dL_isSo_63 : decode cL_isSo 63 = .ok (.ifCond .ne 5, 3) := by decide +kernel
theorem dL_isSo_66 : decode cL_isSo 66 = .ok (.iconst 0, 1) := by decide +kernel
theorem dL_isSo_67 : decode cL_isSo 67 = .ok (.ireturn, 1) := by decide +kernel
theorem dL_isSo_68 : decode cL_isSo 68 = .ok (.iinc 5 1, 3) := by decide +kernel
theorem dL_isSo_71 : decode cL_isSo 71 = .ok (.iload 6, 2) := by decide +kernel
theorem dL_isSo_73 : decode cL_isSo 73 = .ok (.aload_n 2, 1) := by decide +kernel
theorem dL_isSo_74 : decode cL_isSo 74 = .ok (.iload 8, 2) := by decide +kernel
theorem dL_isSo_76 : decode cL_isSo 76 = .ok (.iconst 5, 1) := by decide +kernel
theorem dL_isSo_77 : decode cL_isSo 77 = .ok (.invokestatic 9, 3) := by decide +kernel
theorem dL_isSo_80 : decode cL_isSo 80 = .ok (.ifCond .lt 7, 3) := by decide +kernel
theorem dL_isSo_83 : decode cL_isSo 83 = .ok (.iconst 1, 1) := by decide +kernel
theorem dL_isSo_84 : decode cL_isSo 84 = .ok (.goto 4, 3) := by decide +kernel
theorem dL_isSo_87 : decode cL_isSo 87 = .ok (.iconst 0, 1) := by decide +kernel
theorem dL_isSo_88 : decode cL_isSo 88 = .ok (.iadd, 1) := by decide +kernel
theorem dL_isSo_89 : decode cL_isSo 89 = .ok (.istore 6, 2) := by decide +kernel
theorem dL_isSo_91 : decode cL_isSo 91 = .ok (.iload 7, 2) := by decide +kernel
theorem dL_isSo_93 : decode cL_isSo 93 = .ok (.aload_n 2, 1) := by decide +kernel
theorem dL_isSo_94 : decode cL_isSo 94 = .ok (.iload 8, 2) := by decide +kernel
theorem dL_isSo_96 : decode cL_isSo 96 = .ok (.bipush 8, 2) := by decide +kernel
theorem dL_isSo_98 : decode cL_isSo 98 = .ok (.invokestatic 9, 3) := by decide +kernel
theorem dL_isSo_101 : decode cL_isSo 101 = .ok (.ifCond .le 7, 3) := by decide +kernel
theorem dL_isSo_104 : decode cL_isSo 104 = .ok (.iconst 1, 1) := by decide +kernel
theorem dL_isSo_105 : decode cL_isSo 105 = .ok (.goto 4, 3) := by decide +kernel
theorem dL_isSo_108 : decode cL_isSo 108 = .ok (.iconst 0, 1) := by decide +kernel
theorem dL_isSo_109 : decode cL_isSo 109 = .ok (.iadd, 1) := by decide +kernel
theorem dL_isSo_110 : decode cL_isSo 110 = .ok (.istore 7, 2) := by decide +kernel
theorem dL_isSo_112 : decode cL_isSo 112 = .ok (.iinc 8 1, 3) := by decide +kernel
theorem dL_isSo_115 : decode cL_isSo 115 = .ok (.goto (-103), 3) := by decide +kernel
theorem dL_isSo_118 : decode cL_isSo 118 = .ok (.iconst 0, 1) := by decide +kernel
theorem dL_isSo_119 : decode cL_isSo 119 = .ok (.istore 8, 2) := by decide +kernel
theorem dL_isSo_121 : decode cL_isSo 121 = .ok (.iload 8, 2) := by decide +kernel
theorem dL_isSo_123 : decode cL_isSo 123 = .ok (.iconst 4, 1) := by decide +kernel
theorem dL_isSo_124 : decode cL_isSo 124 = .ok (.if_icmp .ge 163, 3) := by decide +kernel
theorem dL_isSo_127 : decode cL_isSo 127 = .ok (.aload 4, 2) := by decide +kernel
theorem dL_isSo_129 : decode cL_isSo 129 = .ok (.bipush 7, 2) := by decide +kernel
theorem dL_isSo_131 : decode cL_isSo 131 = .ok (.iload 8, 2) := by decide +kernel
theorem dL_isSo_133 : decode cL_isSo 133 = .ok (.imul, 1) := by decide +kernel
theorem dL_isSo_134 : decode cL_isSo 134 = .ok (.iaload, 1) := by decide +kernel
theorem dL_isSo_135 : decode cL_isSo 135 = .ok (.istore 9, 2) := by decide +kernel
theorem dL_isSo_137 : decode cL_isSo 137 = .ok (.iconst 0, 1) := by decide +kernel
theorem dL_isSo_138 : decode cL_isSo 138 = .ok (.istore 10, 2) := by decide +kernel
theorem dL_isSo_140 : decode cL_isSo 140 = .ok (.iload 10, 2) := by decide +kernel
theorem dL_isSo_142 : decode cL_isSo 142 = .ok (.iload 9, 2) := by decide +kernel
theorem dL_isSo_144 : decode cL_isSo 144 = .ok (.if_icmp .ge 35, 3) := by decide +kernel
theorem dL_isSo_147 : decode cL_isSo 147 = .ok (.aload_n 0, 1) := by decide +kernel
theorem dL_isSo_148 : decode cL_isSo 148 = .ok (.iload 8, 2) := by decide +kernel
theorem dL_isSo_150 : decode cL_isSo 150 = .ok (.iload 10, 2) := by decide +kernel
theorem dL_isSo_152 : decode cL_isSo 152 = .ok (.invokevirtual 115, 3) := by decide +kernel
theorem dL_isSo_155 : decode cL_isSo 155 = .ok (.aload 4, 2) := by decide +kernel
theorem dL_isSo_157 : decode cL_isSo 157 = .ok (.bipush 7, 2) := by decide +kernel
theorem dL_isSo_159 : decode cL_isSo 159 = .ok (.iload 8, 2) := by decide +kernel
theorem dL_isSo_161 : decode cL_isSo 161 = .ok (.imul, 1) := by decide +kernel
theorem dL_isSo_162 : decode cL_isSo 162 = .ok (.iconst 1, 1) := by decide +kernel
theorem dL_isSo_163 : decode cL_isSo 163 = .ok (.iadd, 1) := by decide +kernel
theorem dL_isSo_164 : decode cL_isSo 164 = .ok (.iload 10, 2) := by decide +kernel
theorem dL_isSo_166 : decode cL_isSo 166 = .ok (.iadd, 1) := by decide +kernel
theorem dL_isSo_167 : decode cL_isSo 167 = .ok (.iaload, 1) := by decide +kernel
theorem dL_isSo_168 : decode cL_isSo 168 = .ok (.if_icmp .eq 5, 3) := by decide +kernel
theorem dL_isSo_171 : decode cL_isSo 171 = .ok (.iconst 0, 1) := by decide +kernel
theorem dL_isSo_172 : decode cL_isSo 172 = .ok (.ireturn, 1) := by decide +kernel
theorem dL_isSo_173 : decode cL_isSo 173 = .ok (.iinc 10 1, 3) := by decide +kernel
theorem dL_isSo_176 : decode cL_isSo 176 = .ok (.goto (-36), 3) := by decide +kernel
theorem dL_isSo_179 : decode cL_isSo 179 = .ok (.aload_n 0, 1) := by decide +kernel
theorem dL_isSo_180 : decode cL_isSo 180 = .ok (.iload 8, 2) := by decide +kernel
theorem dL_isSo_182 : decode cL_isSo 182 = .ok (.iconst 0, 1) := by decide +kernel
theorem dL_isSo_183 : decode cL_isSo 183 = .ok (.invokevirtual 118, 3) := by decide +kernel
theorem dL_isSo_186 : decode cL_isSo 186 = .ok (.aload_n 1, 1) := by decide +kernel
theorem dL_isSo_187 : decode cL_isSo 187 = .ok (.bipush 10, 2) := by decide +kernel
theorem dL_isSo_189 : decode cL_isSo 189 = .ok (.iload 8, 2) := by decide +kernel
theorem dL_isSo_191 : decode cL_isSo 191 = .ok (.iadd, 1) := by decide +kernel
theorem dL_isSo_192 : decode cL_isSo 192 = .ok (.iaload, 1) := by decide +kernel
theorem dL_isSo_193 : decode cL_isSo 193 = .ok (.if_icmp .ne 86, 3) := by decide +kernel
theorem dL_isSo_196 : decode cL_isSo 196 = .ok (.aload_n 0, 1) := by decide +kernel
theorem dL_isSo_197 : decode cL_isSo 197 = .ok (.iload 8, 2) := by decide +kernel
theorem dL_isSo_199 : decode cL_isSo 199 = .ok (.iconst 1, 1) := by decide +kernel
theorem dL_isSo_200 : decode cL_isSo 200 = .ok (.invokevirtual 118, 3) := by decide +kernel
theorem dL_isSo_203 : decode cL_isSo 203 = .ok (.aload_n 1, 1) := by decide +kernel
theorem dL_isSo_204 : decode cL_isSo 204 = .ok (.bipush 10, 2) := by decide +kernel
theorem dL_isSo_206 : decode cL_isSo 206 = .ok (.iload 8, 2) := by decide +kernel
theorem dL_isSo_208 : decode cL_isSo 208 = .ok (.iadd, 1) := by decide +kernel
theorem dL_isSo_209 : decode cL_isSo 209 = .ok (.iaload, 1) := by decide +kernel
theorem dL_isSo_210 : decode cL_isSo 210 = .ok (.iload 8, 2) := by decide +kernel
theorem dL_isSo_212 : decode cL_isSo 212 = .ok (.aload_n 1, 1) := by decide +kernel
theorem dL_isSo_213 : decode cL_isSo 213 = .ok (.aload_n 2, 1) := by decide +kernel
theorem dL_isSo_214 : decode cL_isSo 214 = .ok (.aload 4, 2) := by decide +kernel
theorem dL_isSo_216 : decode cL_isSo 216 = .ok (.invokestatic 30, 3) := by decide +kernel
theorem dL_isSo_219 : decode cL_isSo 219 = .ok (.isub, 1) := by decide +kernel
theorem dL_isSo_220 : decode cL_isSo 220 = .ok (.if_icmp .ne 59, 3) := by decide +kernel
theorem dL_isSo_223 : decode cL_isSo 223 = .ok (.aload_n 0, 1) := by decide +kernel
theorem dL_isSo_224 : decode cL_isSo 224 = .ok (.iload 8, 2) := by decide +kernel
theorem dL_isSo_226 : decode cL_isSo 226 = .ok (.iconst 2, 1) := by decide +kernel
theorem dL_isSo_227 : decode cL_isSo 227 = .ok (.invokevirtual 118, 3) := by decide +kernel
theorem dL_isSo_230 : decode cL_isSo 230 = .ok (.iload 9, 2) := by decide +kernel
theorem dL_isSo_232 : decode cL_isSo 232 = .ok (.if_icmp .ne 47, 3) := by decide +kernel
theorem dL_isSo_235 : decode cL_isSo 235 = .ok (.aload_n 0, 1) := by decide +kernel
theorem dL_isSo_236 : decode cL_isSo 236 = .ok (.iload 8, 2) := by decide +kernel
theorem dL_isSo_238 : decode cL_isSo 238 = .ok (.iconst 3, 1) := by decide +kernel
theorem dL_isSo_239 : decode cL_isSo 239 = .ok (.invokevirtual 118, 3) := by decide +kernel
theorem dL_isSo_242 : decode cL_isSo 242 = .ok (.iload 9, 2) := by decide +kernel
theorem dL_isSo_244 : decode cL_isSo 244 = .ok (.ifCond .ne 8, 3) := by decide +kernel
theorem dL_isSo_247 : decode cL_isSo 247 = .ok (.bipush (-5), 2) := by decide +kernel
theorem dL_isSo_249 : decode cL_isSo 249 = .ok (.goto 14, 3) := by decide +kernel
theorem dL_isSo_252 : decode cL_isSo 252 = .ok (.aload 4, 2) := by decide +kernel
theorem dL_isSo_254 : decode cL_isSo 254 = .ok (.bipush 7, 2) := by decide +kernel
theorem dL_isSo_256 : decode cL_isSo 256 = .ok (.iload 8, 2) := by decide +kernel
theorem dL_isSo_258 : decode cL_isSo 258 = .ok (.imul, 1) := by decide +kernel
theorem dL_isSo_259 : decode cL_isSo 259 = .ok (.iload 9, 2) := by decide +kernel
theorem dL_isSo_261 : decode cL_isSo 261 = .ok (.iadd, 1) := by decide +kernel
theorem dL_isSo_262 : decode cL_isSo 262 = .ok (.iaload, 1) := by decide +kernel
theorem dL_isSo_263 : decode cL_isSo 263 = .ok (.if_icmp .ne 16, 3) := by decide +kernel
theorem dL_isSo_266 : decode cL_isSo 266 = .ok (.aload_n 0, 1) := by decide +kernel
theorem dL_isSo_267 : decode cL_isSo 267 = .ok (.iload 8, 2) := by decide +kernel
theorem dL_isSo_269 : decode cL_isSo 269 = .ok (.iload 9, 2) := by decide +kernel
theorem dL_isSo_271 : decode cL_isSo 271 = .ok (.invokevirtual 115, 3) := by decide +kernel
theorem dL_isSo_274 : decode cL_isSo 274 = .ok (.bipush (-5), 2) := by decide +kernel
theorem dL_isSo_276 : decode cL_isSo 276 = .ok (.if_icmp .eq 5, 3) := by decide +kernel
theorem dL_isSo_279 : decode cL_isSo 279 = .ok (.iconst 0, 1) := by decide +kernel
theorem dL_isSo_280 : decode cL_isSo 280 = .ok (.ireturn, 1) := by decide +kernel
theorem dL_isSo_281 : decode cL_isSo 281 = .ok (.iinc 8 1, 3) := by decide +kernel
theorem dL_isSo_284 : decode cL_isSo 284 = .ok (.goto (-163), 3) := by decide +kernel
theorem dL_isSo_287 : decode cL_isSo 287 = .ok (.iconst 0, 1) := by decide +kernel
theorem dL_isSo_288 : decode cL_isSo 288 = .ok (.istore 8, 2) := by decide +kernel
theorem dL_isSo_290 : decode cL_isSo 290 = .ok (.iload 8, 2) := by decide +kernel
theorem dL_isSo_292 : decode cL_isSo 292 = .ok (.iconst 3, 1) := by decide +kernel
theorem dL_isSo_293 : decode cL_isSo 293 = .ok (.if_icmp .ge 77, 3) := by decide +kernel
theorem dL_isSo_296 : decode cL_isSo 296 = .ok (.aload_n 0, 1) := by decide +kernel
theorem dL_isSo_297 : decode cL_isSo 297 = .ok (.iload 8, 2) := by decide +kernel
theorem dL_isSo_299 : decode cL_isSo 299 = .ok (.iconst 0, 1) := by decide +kernel
theorem dL_isSo_300 : decode cL_isSo 300 = .ok (.invokevirtual 121, 3) := by decide +kernel
theorem dL_isSo_303 : decode cL_isSo 303 = .ok (.aload_n 1, 1) := by decide +kernel
theorem dL_isSo_304 : decode cL_isSo 304 = .ok (.bipush 7, 2) := by decide +kernel
theorem dL_isSo_306 : decode cL_isSo 306 = .ok (.iload 8, 2) := by decide +kernel
theorem dL_isSo_308 : decode cL_isSo 308 = .ok (.iadd, 1) := by decide +kernel
theorem dL_isSo_309 : decode cL_isSo 309 = .ok (.iaload, 1) := by decide +kernel
theorem dL_isSo_310 : decode cL_isSo 310 = .ok (.if_icmp .ne 52, 3) := by decide +kernel
theorem dL_isSo_313 : decode cL_isSo 313 = .ok (.aload_n 0, 1) := by decide +kernel
theorem dL_isSo_314 : decode cL_isSo 314 = .ok (.iload 8, 2) := by decide +kernel
theorem dL_isSo_316 : decode cL_isSo 316 = .ok (.iconst 1, 1) := by decide +kernel
theorem dL_isSo_317 : decode cL_isSo 317 = .ok (.invokevirtual 121, 3) := by decide +kernel
theorem dL_isSo_320 : decode cL_isSo 320 = .ok (.iload 8, 2) := by decide +kernel
theorem dL_isSo_322 : decode cL_isSo 322 = .ok (.aload_n 2, 1) := by decide +kernel
theorem dL_isSo_323 : decode cL_isSo 323 = .ok (.invokestatic 15, 3) := by decide +kernel
theorem dL_isSo_326 : decode cL_isSo 326 = .ok (.if_icmp .ne 36, 3) := by decide +kernel
theorem dL_isSo_329 : decode cL_isSo 329 = .ok (.aload_n 0, 1) := by decide +kernel
theorem dL_isSo_330 : decode cL_isSo 330 = .ok (.iload 8, 2) := by decide +kernel
theorem dL_isSo_332 : decode cL_isSo 332 = .ok (.iconst 2, 1) := by decide +kernel
theorem dL_isSo_333 : decode cL_isSo 333 = .ok (.invokevirtual 121, 3) := by decide +kernel
theorem dL_isSo_336 : decode cL_isSo 336 = .ok (.iload 8, 2) := by decide +kernel
theorem dL_isSo_338 : decode cL_isSo 338 = .ok (.invokestatic 19, 3) := by decide +kernel
theorem dL_isSo_341 : decode cL_isSo 341 = .ok (.if_icmp .ne 21, 3) := by decide +kernel
theorem dL_isSo_344 : decode cL_isSo 344 = .ok (.aload_n 0, 1) := by decide +kernel
theorem dL_isSo_345 : decode cL_isSo 345 = .ok (.bipush 10, 2) := by decide +kernel
theorem dL_isSo_347 : decode cL_isSo 347 = .ok (.iload 8, 2) := by decide +kernel
theorem dL_isSo_349 : decode cL_isSo 349 = .ok (.iadd, 1) := by decide +kernel
theorem dL_isSo_350 : decode cL_isSo 350 = .ok (.invokevirtual 123, 3) := by decide +kernel
theorem dL_isSo_353 : decode cL_isSo 353 = .ok (.aload_n 1, 1) := by decide +kernel
theorem dL_isSo_354 : decode cL_isSo 354 = .ok (.iconst 2, 1) := by decide +kernel
theorem dL_isSo_355 : decode cL_isSo 355 = .ok (.iload 8, 2) := by decide +kernel
theorem dL_isSo_357 : decode cL_isSo 357 = .ok (.iadd, 1) := by decide +kernel
theorem dL_isSo_358 : decode cL_isSo 358 = .ok (.iaload, 1) := by decide +kernel
theorem dL_isSo_359 : decode cL_isSo 359 = .ok (.if_icmp .eq 5, 3) := by decide +kernel
theorem dL_isSo_362 : decode cL_isSo 362 = .ok (.iconst 0, 1) := by decide +kernel
theorem dL_isSo_363 : decode cL_isSo 363 = .ok (.ireturn, 1) := by decide +kernel
theorem dL_isSo_364 : decode cL_isSo 364 = .ok (.iinc 8 1, 3) := by decide +kernel
theorem dL_isSo_367 : decode cL_isSo 367 = .ok (.goto (-77), 3) := by decide +kernel
theorem dL_isSo_370 : decode cL_isSo 370 = .ok (.aload_n 0, 1) := by decide +kernel
theorem dL_isSo_371 : decode cL_isSo 371 = .ok (.iconst 0, 1) := by decide +kernel
theorem dL_isSo_372 : decode cL_isSo 372 = .ok (.invokevirtual 123, 3) := by decide +kernel
theorem dL_isSo_375 : decode cL_isSo 375 = .ok (.aload_n 1, 1) := by decide +kernel
theorem dL_isSo_376 : decode cL_isSo 376 = .ok (.iconst 0, 1) := by decide +kernel
theorem dL_isSo_377 : decode cL_isSo 377 = .ok (.iaload, 1) := by decide +kernel
theorem dL_isSo_378 : decode cL_isSo 378 = .ok (.if_icmp .ne 140, 3) := by decide +kernel
theorem dL_isSo_381 : decode cL_isSo 381 = .ok (.aload_n 0, 1) := by decide +kernel
theorem dL_isSo_382 : decode cL_isSo 382 = .ok (.iconst 1, 1) := by decide +kernel
theorem dL_isSo_383 : decode cL_isSo 383 = .ok (.invokevirtual 123, 3) := by decide +kernel
theorem dL_isSo_386 : decode cL_isSo 386 = .ok (.aload_n 1, 1) := by decide +kernel
theorem dL_isSo_387 : decode cL_isSo 387 = .ok (.iconst 0, 1) := by decide +kernel
theorem dL_isSo_388 : decode cL_isSo 388 = .ok (.iaload, 1) := by decide +kernel
theorem dL_isSo_389 : decode cL_isSo 389 = .ok (.aload_n 1, 1) := by decide +kernel
theorem dL_isSo_390 : decode cL_isSo 390 = .ok (.invokestatic 23, 3) := by decide +kernel
theorem dL_isSo_393 : decode cL_isSo 393 = .ok (.if_icmp .ne 125, 3) := by decide +kernel
theorem dL_isSo_396 : decode cL_isSo 396 = .ok (.aload_n 0, 1) := by decide +kernel
theorem dL_isSo_397 : decode cL_isSo 397 = .ok (.iconst 2, 1) := by decide +kernel
theorem dL_isSo_398 : decode cL_isSo 398 = .ok (.invokevirtual 123, 3) := by decide +kernel
theorem dL_isSo_401 : decode cL_isSo 401 = .ok (.aload_n 1, 1) := by decide +kernel
theorem dL_isSo_402 : decode cL_isSo 402 = .ok (.invokestatic 34, 3) := by decide +kernel
theorem dL_isSo_405 : decode cL_isSo 405 = .ok (.if_icmp .ne 113, 3) := by decide +kernel
theorem dL_isSo_408 : decode cL_isSo 408 = .ok (.aload_n 0, 1) := by decide +kernel
theorem dL_isSo_409 : decode cL_isSo 409 = .ok (.iconst 3, 1) := by decide +kernel
theorem dL_isSo_410 : decode cL_isSo 410 = .ok (.invokevirtual 123, 3) := by decide +kernel
theorem dL_isSo_413 : decode cL_isSo 413 = .ok (.iload 5, 2) := by decide +kernel
theorem dL_isSo_415 : decode cL_isSo 415 = .ok (.if_icmp .ne 103, 3) := by decide +kernel
theorem dL_isSo_418 : decode cL_isSo 418 = .ok (.aload_n 0, 1) := by decide +kernel
theorem dL_isSo_419 : decode cL_isSo 419 = .ok (.iconst 4, 1) := by decide +kernel
theorem dL_isSo_420 : decode cL_isSo 420 = .ok (.invokevirtual 123, 3) := by decide +kernel
theorem dL_isSo_423 : decode cL_isSo 423 = .ok (.iload 6, 2) := by decide +kernel
theorem dL_isSo_425 : decode cL_isSo 425 = .ok (.if_icmp .ne 93, 3) := by decide +kernel
theorem dL_isSo_428 : decode cL_isSo 428 = .ok (.aload_n 0, 1) := by decide +kernel
theorem dL_isSo_429 : decode cL_isSo 429 = .ok (.iconst 5, 1) := by decide +kernel
theorem dL_isSo_430 : decode cL_isSo 430 = .ok (.invokevirtual 123, 3) := by decide +kernel
theorem dL_isSo_433 : decode cL_isSo 433 = .ok (.iload 7, 2) := by decide +kernel
theorem dL_isSo_435 : decode cL_isSo 435 = .ok (.if_icmp .ne 83, 3) := by decide +kernel
theorem dL_isSo_438 : decode cL_isSo 438 = .ok (.aload_n 0, 1) := by decide +kernel
theorem dL_isSo_439 : decode cL_isSo 439 = .ok (.bipush 6, 2) := by decide +kernel
theorem dL_isSo_441 : decode cL_isSo 441 = .ok (.invokevirtual 123, 3) := by decide +kernel
theorem dL_isSo_444 : decode cL_isSo 444 = .ok (.aload_n 1, 1) := by decide +kernel
theorem dL_isSo_445 : decode cL_isSo 445 = .ok (.iconst 5, 1) := by decide +kernel
theorem dL_isSo_446 : decode cL_isSo 446 = .ok (.iaload, 1) := by decide +kernel
theorem dL_isSo_447 : decode cL_isSo 447 = .ok (.if_icmp .ne 71, 3) := by decide +kernel
theorem dL_isSo_450 : decode cL_isSo 450 = .ok (.aload_n 0, 1) := by decide +kernel
theorem dL_isSo_451 : decode cL_isSo 451 = .ok (.bipush 7, 2) := by decide +kernel
theorem dL_isSo_453 : decode cL_isSo 453 = .ok (.invokevirtual 123, 3) := by decide +kernel
theorem dL_isSo_456 : decode cL_isSo 456 = .ok (.aload_n 1, 1) := by decide +kernel
theorem dL_isSo_457 : decode cL_isSo 457 = .ok (.bipush 6, 2) := by decide +kernel
theorem dL_isSo_459 : decode cL_isSo 459 = .ok (.iaload, 1) := by decide +kernel
theorem dL_isSo_460 : decode cL_isSo 460 = .ok (.if_icmp .ne 58, 3) := by decide +kernel
theorem dL_isSo_463 : decode cL_isSo 463 = .ok (.aload_n 0, 1) := by decide +kernel
theorem dL_isSo_464 : decode cL_isSo 464 = .ok (.bipush 8, 2) := by decide +kernel
theorem dL_isSo_466 : decode cL_isSo 466 = .ok (.invokevirtual 123, 3) := by decide +kernel
theorem dL_isSo_469 : decode cL_isSo 469 = .ok (.iconst 0, 1) := by decide +kernel
theorem dL_isSo_470 : decode cL_isSo 470 = .ok (.aload_n 2, 1) := by decide +kernel
theorem dL_isSo_471 : decode cL_isSo 471 = .ok (.invokestatic 126, 3) := by decide +kernel
theorem dL_isSo_474 : decode cL_isSo 474 = .ok (.if_icmp .ne 44, 3) := by decide +kernel
theorem dL_isSo_477 : decode cL_isSo 477 = .ok (.aload_n 0, 1) := by decide +kernel
theorem dL_isSo_478 : decode cL_isSo 478 = .ok (.bipush 9, 2) := by decide +kernel
theorem dL_isSo_480 : decode cL_isSo 480 = .ok (.invokevirtual 123, 3) := by decide +kernel
theorem dL_isSo_483 : decode cL_isSo 483 = .ok (.iconst 1, 1) := by decide +kernel
theorem dL_isSo_484 : decode cL_isSo 484 = .ok (.aload_n 2, 1) := by decide +kernel
theorem dL_isSo_485 : decode cL_isSo 485 = .ok (.invokestatic 126, 3) := by decide +kernel
theorem dL_isSo_488 : decode cL_isSo 488 = .ok (.if_icmp .ne 30, 3) := by decide +kernel
theorem dL_isSo_491 : decode cL_isSo 491 = .ok (.aload_n 0, 1) := by decide +kernel
theorem dL_isSo_492 : decode cL_isSo 492 = .ok (.aload_n 1, 1) := by decide +kernel
theorem dL_isSo_493 : decode cL_isSo 493 = .ok (.iconst 0, 1) := by decide +kernel
theorem dL_isSo_494 : decode cL_isSo 494 = .ok (.iaload, 1) := by decide +kernel
theorem dL_isSo_495 : decode cL_isSo 495 = .ok (.bipush 9, 2) := by decide +kernel
theorem dL_isSo_497 : decode cL_isSo 497 = .ok (.iadd, 1) := by decide +kernel
theorem dL_isSo_498 : decode cL_isSo 498 = .ok (.invokevirtual 129, 3) := by decide +kernel
theorem dL_isSo_501 : decode cL_isSo 501 = .ok (.aload_n 1, 1) := by decide +kernel
theorem dL_isSo_502 : decode cL_isSo 502 = .ok (.iconst 0, 1) := by decide +kernel
theorem dL_isSo_503 : decode cL_isSo 503 = .ok (.iaload, 1) := by decide +kernel
theorem dL_isSo_504 : decode cL_isSo 504 = .ok (.bipush 9, 2) := by decide +kernel
theorem dL_isSo_506 : decode cL_isSo 506 = .ok (.iadd, 1) := by decide +kernel
theorem dL_isSo_507 : decode cL_isSo 507 = .ok (.aload_n 1, 1) := by decide +kernel
theorem dL_isSo_508 : decode cL_isSo 508 = .ok (.invokestatic 23, 3) := by decide +kernel
theorem dL_isSo_511 : decode cL_isSo 511 = .ok (.if_icmp .ne 7, 3) := by decide +kernel
theorem dL_isSo_514 : decode cL_isSo 514 = .ok (.iconst 1, 1) := by decide +kernel
theorem dL_isSo_515 : decode cL_isSo 515 = .ok (.goto 4, 3) := by decide +kernel
theorem dL_isSo_518 : decode cL_isSo 518 = .ok (.iconst 0, 1) := by decide +kernel
theorem dL_isSo_519 : decode cL_isSo 519 = .ok (.ireturn, 1) := by decide +kernel
theorem dL_law_0 : decode cL_law 0 = .ok (.new 46, 3) := by decide +kernel
theorem dL_law_3 : decode cL_law 3 = .ok (.dup, 1) := by decide +kernel
theorem dL_law_4 : decode cL_law 4 = .ok (.invokespecial 131, 3) := by decide +kernel
theorem dL_law_7 : decode cL_law 7 = .ok (.astore_n 1, 1) := by decide +kernel
theorem dL_law_8 : decode cL_law 8 = .ok (.bipush 14, 2) := by decide +kernel
theorem dL_law_10 : decode cL_law 10 = .ok (.newarray .int, 2) := by decide +kernel
theorem dL_law_12 : decode cL_law 12 = .ok (.astore_n 2, 1) := by decide +kernel
theorem dL_law_13 : decode cL_law 13 = .ok (.bipush 60, 2) := by decide +kernel
theorem dL_law_15 : decode cL_law 15 = .ok (.newarray .int, 2) := by decide +kernel
theorem dL_law_17 : decode cL_law 17 = .ok (.astore_n 3, 1) := by decide +kernel
theorem dL_law_18 : decode cL_law 18 = .ok (.bipush 6, 2) := by decide +kernel
theorem dL_law_20 : decode cL_law 20 = .ok (.newarray .int, 2) := by decide +kernel
theorem dL_law_22 : decode cL_law 22 = .ok (.astore 4, 2) := by decide +kernel
theorem dL_law_24 : decode cL_law 24 = .ok (.bipush 28, 2) := by decide +kernel
theorem dL_law_26 : decode cL_law 26 = .ok (.newarray .int, 2) := by decide +kernel
theorem dL_law_28 : decode cL_law 28 = .ok (.astore 5, 2) := by decide +kernel
theorem dL_law_30 : decode cL_law 30 = .ok (.aload_n 2, 1) := by decide +kernel
theorem dL_law_31 : decode cL_law 31 = .ok (.iconst 2, 1) := by decide +kernel
theorem dL_law_32 : decode cL_law 32 = .ok (.iconst 3, 1) := by decide +kernel
theorem dL_law_33 : decode cL_law 33 = .ok (.iastore, 1) := by decide +kernel
theorem dL_law_34 : decode cL_law 34 = .ok (.aload_n 2, 1) := by decide +kernel
theorem dL_law_35 : decode cL_law 35 = .ok (.iconst 3, 1) := by decide +kernel
theorem dL_law_36 : decode cL_law 36 = .ok (.iconst 4, 1) := by decide +kernel
theorem dL_law_37 : decode cL_law 37 = .ok (.iastore, 1) := by decide +kernel
theorem dL_law_38 : decode cL_law 38 = .ok (.aload_n 2, 1) := by decide +kernel
theorem dL_law_39 : decode cL_law 39 = .ok (.iconst 4, 1) := by decide +kernel
theorem dL_law_40 : decode cL_law 40 = .ok (.bipush 20, 2) := by decide +kernel
theorem dL_law_42 : decode cL_law 42 = .ok (.iastore, 1) := by decide +kernel
theorem dL_law_43 : decode cL_law 43 = .ok (.bipush 7, 2) := by decide +kernel
theorem dL_law_45 : decode cL_law 45 = .ok (.istore 6, 2) := by decide +kernel
theorem dL_law_47 : decode cL_law 47 = .ok (.iload 6, 2) := by decide +kernel
theorem dL_law_49 : decode cL_law 49 = .ok (.bipush 10, 2) := by decide +kernel
theorem dL_law_51 : decode cL_law 51 = .ok (.if_icmp .ge 14, 3) := by decide +kernel
theorem dL_law_54 : decode cL_law 54 = .ok (.aload_n 2, 1) := by decide +kernel
theorem dL_law_55 : decode cL_law 55 = .ok (.iload 6, 2) := by decide +kernel
theorem dL_law_57 : decode cL_law 57 = .ok (.iconst 4, 1) := by decide +kernel
theorem dL_law_58 : decode cL_law 58 = .ok (.iastore, 1) := by decide +kernel
theorem dL_law_59 : decode cL_law 59 = .ok (.iinc 6 1, 3) := by decide +kernel
theorem dL_law_62 : decode cL_law 62 = .ok (.goto (-15), 3) := by decide +kernel
theorem dL_law_65 : decode cL_law 65 = .ok (.bipush 10, 2) := by decide +kernel
theorem dL_law_67 : decode cL_law 67 = .ok (.istore 6, 2) := by decide +kernel
theorem dL_law_69 : decode cL_law 69 = .ok (.iload 6, 2) := by decide +kernel
theorem dL_law_71 : decode cL_law 71 = .ok (.bipush 14, 2) := by decide +kernel
theorem dL_law_73 : decode cL_law 73 = .ok (.if_icmp .ge 15, 3) := by decide +kernel
theorem dL_law_76 : decode cL_law 76 = .ok (.aload_n 2, 1) := by decide +kernel
theorem dL_law_77 : decode cL_law 77 = .ok (.iload 6, 2) := by decide +kernel
theorem dL_law_79 : decode cL_law 79 = .ok (.bipush 40, 2) := by decide +kernel
theorem dL_law_81 : decode cL_law 81 = .ok (.iastore, 1) := by decide +kernel
theorem dL_law_82 : decode cL_law 82 = .ok (.iinc 6 1, 3) := by decide +kernel
theorem dL_law_85 : decode cL_law 85 = .ok (.goto (-16), 3) := by decide +kernel
theorem dL_law_88 : decode cL_law 88 = .ok (.aload_n 1, 1) := by decide +kernel
theorem dL_law_89 : decode cL_law 89 = .ok (.aload_n 2, 1) := by decide +kernel
theorem dL_law_90 : decode cL_law 90 = .ok (.aload_n 3, 1) := by decide +kernel
theorem dL_law_91 : decode cL_law 91 = .ok (.aload 4, 2) := by decide +kernel
theorem dL_law_93 : decode cL_law 93 = .ok (.aload 5, 2) := by decide +kernel
theorem dL_law_95 : decode cL_law 95 = .ok (.invokestatic 132, 3) := by decide +kernel
theorem dL_law_98 : decode cL_law 98 = .ok (.ifCond .eq 51, 3) := by decide +kernel
theorem dL_law_101 : decode cL_law 101 = .ok (.aload_n 1, 1) := by decide +kernel
theorem dL_law_102 : decode cL_law 102 = .ok (.invokevirtual 136, 3) := by decide +kernel
theorem dL_law_105 : decode cL_law 105 = .ok (.bipush (-5), 2) := by decide +kernel
theorem dL_law_107 : decode cL_law 107 = .ok (.if_icmp .ne 42, 3) := by decide +kernel
theorem dL_law_110 : decode cL_law 110 = .ok (.aload_n 1, 1) := by decide +kernel
theorem dL_law_111 : decode cL_law 111 = .ok (.invokevirtual 140, 3) := by decide +kernel
theorem dL_law_114 : decode cL_law 114 = .ok (.bipush (-5), 2) := by decide +kernel
theorem dL_law_116 : decode cL_law 116 = .ok (.if_icmp .ne 33, 3) := by decide +kernel
theorem dL_law_119 : decode cL_law 119 = .ok (.aload_n 1, 1) := by decide +kernel
theorem dL_law_120 : decode cL_law 120 = .ok (.iconst 0, 1) := by decide +kernel
theorem dL_law_121 : decode cL_law 121 = .ok (.invokevirtual 143, 3) := by decide +kernel
theorem dL_law_124 : decode cL_law 124 = .ok (.bipush (-5), 2) := by decide +kernel
theorem dL_law_126 : decode cL_law 126 = .ok (.if_icmp .ne 23, 3) := by decide +kernel
theorem dL_law_129 : decode cL_law 129 = .ok (.aload_n 1, 1) := by decide +kernel
theorem dL_law_130 : decode cL_law 130 = .ok (.iconst 1, 1) := by decide +kernel
theorem dL_law_131 : decode cL_law 131 = .ok (.invokevirtual 143, 3) := by decide +kernel
theorem dL_law_134 : decode cL_law 134 = .ok (.bipush (-5), 2) := by decide +kernel
theorem dL_law_136 : decode cL_law 136 = .ok (.if_icmp .ne 13, 3) := by decide +kernel
theorem dL_law_139 : decode cL_law 139 = .ok (.aload_n 1, 1) := by decide +kernel
theorem dL_law_140 : decode cL_law 140 = .ok (.iconst 2, 1) := by decide +kernel
theorem dL_law_141 : decode cL_law 141 = .ok (.invokevirtual 143, 3) := by decide +kernel
theorem dL_law_144 : decode cL_law 144 = .ok (.bipush (-2), 2) := by decide +kernel
theorem dL_law_146 : decode cL_law 146 = .ok (.if_icmp .eq 5, 3) := by decide +kernel
theorem dL_law_149 : decode cL_law 149 = .ok (.iconst 0, 1) := by decide +kernel
theorem dL_law_150 : decode cL_law 150 = .ok (.ireturn, 1) := by decide +kernel
theorem dL_law_151 : decode cL_law 151 = .ok (.iconst 0, 1) := by decide +kernel
theorem dL_law_152 : decode cL_law 152 = .ok (.istore 6, 2) := by decide +kernel
theorem dL_law_154 : decode cL_law 154 = .ok (.iload 6, 2) := by decide +kernel
theorem dL_law_156 : decode cL_law 156 = .ok (.bipush 48, 2) := by decide +kernel
theorem dL_law_158 : decode cL_law 158 = .ok (.if_icmp .ge 124, 3) := by decide +kernel
theorem dL_law_161 : decode cL_law 161 = .ok (.aload_n 0, 1) := by decide +kernel
theorem dL_law_162 : decode cL_law 162 = .ok (.iconst 2, 1) := by decide +kernel
theorem dL_law_163 : decode cL_law 163 = .ok (.iload 6, 2) := by decide +kernel
theorem dL_law_165 : decode cL_law 165 = .ok (.imul, 1) := by decide +kernel
theorem dL_law_166 : decode cL_law 166 = .ok (.invokestatic 146, 3) := by decide +kernel
theorem dL_law_169 : decode cL_law 169 = .ok (.istore 7, 2) := by decide +kernel
theorem dL_law_171 : decode cL_law 171 = .ok (.aload_n 0, 1) := by decide +kernel
theorem dL_law_172 : decode cL_law 172 = .ok (.iconst 2, 1) := by decide +kernel
theorem dL_law_173 : decode cL_law 173 = .ok (.iload 6, 2) := by decide +kernel
theorem dL_law_175 : decode cL_law 175 = .ok (.imul, 1) := by decide +kernel
theorem dL_law_176 : decode cL_law 176 = .ok (.iconst 1, 1) := by decide +kernel
theorem dL_law_177 : decode cL_law 177 = .ok (.iadd, 1) := by decide +kernel
theorem dL_law_178 : decode cL_law 178 = .ok (.invokestatic 146, 3) := by decide +kernel
theorem dL_law_181 : decode cL_law 181 = .ok (.istore 8, 2) := by decide +kernel
theorem dL_law_183 : decode cL_law 183 = .ok (.iload 6, 2) := by decide +kernel
theorem dL_law_185 : decode cL_law 185 = .ok (.iconst 3, 1) := by decide +kernel
theorem dL_law_186 : decode cL_law 186 = .ok (.if_icmp .lt 15, 3) := by decide +kernel
theorem dL_law_189 : decode cL_law 189 = .ok (.iload 7, 2) := by decide +kernel
theorem dL_law_191 : decode cL_law 191 = .ok (.bipush 6, 2) := by decide +kernel
theorem dL_law_193 : decode cL_law 193 = .ok (.ishr, 1) := by decide +kernel
theorem dL_law_194 : decode cL_law 194 = .ok (.iconst 3, 1) := by decide +kernel
theorem dL_law_195 : decode cL_law 195 = .ok (.invokestatic 41, 3) := by decide +kernel
theorem dL_law_198 : decode cL_law 198 = .ok (.ifCond .ne 7, 3) := by decide +kernel
theorem dL_law_201 : decode cL_law 201 = .ok (.iconst 1, 1) := by decide +kernel
theorem dL_law_202 : decode cL_law 202 = .ok (.goto 4, 3) := by decide +kernel
theorem dL_law_205 : decode cL_law 205 = .ok (.iconst 0, 1) := by decide +kernel
theorem dL_law_206 : decode cL_law 206 = .ok (.istore 9, 2) := by decide +kernel
theorem dL_law_208 : decode cL_law 208 = .ok (.iload 9, 2) := by decide +kernel
theorem dL_law_210 : decode cL_law 210 = .ok (.ifCond .eq 30, 3) := by decide +kernel
theorem dL_law_213 : decode cL_law 213 = .ok (.aload_n 1, 1) := by decide +kernel
theorem dL_law_214 : decode cL_law 214 = .ok (.iload 6, 2) := by decide +kernel
theorem dL_law_216 : decode cL_law 216 = .ok (.iconst 3, 1) := by decide +kernel
theorem dL_law_217 : decode cL_law 217 = .ok (.if_icmp .ge 7, 3) := by decide +kernel
theorem dL_law_220 : decode cL_law 220 = .ok (.iconst 0, 1) := by decide +kernel
theorem dL_law_221 : decode cL_law 221 = .ok (.goto 5, 3) := by decide +kernel
theorem dL_law_224 : decode cL_law 224 = .ok (.iload 7, 2) := by decide +kernel
theorem dL_law_226 : decode cL_law 226 = .ok (.iload 8, 2) := by decide +kernel
theorem dL_law_228 : decode cL_law 228 = .ok (.aload_n 2, 1) := by decide +kernel
theorem dL_law_229 : decode cL_law 229 = .ok (.aload_n 3, 1) := by decide +kernel
theorem dL_law_230 : decode cL_law 230 = .ok (.aload 4, 2) := by decide +kernel
theorem dL_law_232 : decode cL_law 232 = .ok (.aload 5, 2) := by decide +kernel
theorem dL_law_234 : decode cL_law 234 = .ok (.invokestatic 150, 3) := by decide +kernel
theorem dL_law_237 : decode cL_law 237 = .ok (.goto 17, 3) := by decide +kernel
theorem dL_law_240 : decode cL_law 240 = .ok (.aload_n 1, 1) := by decide +kernel
theorem dL_law_241 : decode cL_law 241 = .ok (.iload 7, 2) := by decide +kernel
theorem dL_law_243 : decode cL_law 243 = .ok (.iload 8, 2) := by decide +kernel
theorem dL_law_245 : decode cL_law 245 = .ok (.aload_n 2, 1) := by decide +kernel
theorem dL_law_246 : decode cL_law 246 = .ok (.aload_n 3, 1) := by decide +kernel
theorem dL_law_247 : decode cL_law 247 = .ok (.aload 4, 2) := by decide +kernel
theorem dL_law_249 : decode cL_law 249 = .ok (.aload 5, 2) := by decide +kernel
theorem dL_law_251 : decode cL_law 251 = .ok (.invokestatic 154, 3) := by decide +kernel
theorem dL_law_254 : decode cL_law 254 = .ok (.istore 10, 2) := by decide +kernel
theorem dL_law_256 : decode cL_law 256 = .ok (.iload 10, 2) := by decide +kernel
theorem dL_law_258 : decode cL_law 258 = .ok (.ifCond .eq 16, 3) := by decide +kernel
theorem dL_law_261 : decode cL_law 261 = .ok (.aload_n 1, 1) := by decide +kernel
theorem dL_law_262 : decode cL_law 262 = .ok (.aload_n 2, 1) := by decide +kernel
theorem dL_law_263 : decode cL_law 263 = .ok (.aload_n 3, 1) := by decide +kernel
theorem dL_law_264 : decode cL_law 264 = .ok (.aload 4, 2) := by decide +kernel
theorem dL_law_266 : decode cL_law 266 = .ok (.aload 5, 2) := by decide +kernel
theorem dL_law_268 : decode cL_law 268 = .ok (.invokestatic 132, 3) := by decide +kernel
theorem dL_law_271 : decode cL_law 271 = .ok (.ifCond .ne 5, 3) := by decide +kernel
theorem dL_law_274 : decode cL_law 274 = .ok (.iconst 0, 1) := by decide +kernel
theorem dL_law_275 : decode cL_law 275 = .ok (.ireturn, 1) := by decide +kernel
theorem dL_law_276 : decode cL_law 276 = .ok (.iinc 6 1, 3) := by decide +kernel
theorem dL_law_279 : decode cL_law 279 = .ok (.goto (-125), 3) := by decide +kernel
theorem dL_law_282 : decode cL_law 282 = .ok (.aload_n 1, 1) := by decide +kernel
theorem dL_law_283 : decode cL_law 283 = .ok (.iconst 0, 1) := by decide +kernel
theorem dL_law_284 : decode cL_law 284 = .ok (.invokevirtual 63, 3) := by decide +kernel
theorem dL_law_287 : decode cL_law 287 = .ok (.bipush (-2), 2) := by decide +kernel
theorem dL_law_289 : decode cL_law 289 = .ok (.if_icmp .ne 116, 3) := by decide +kernel
theorem dL_law_292 : decode cL_law 292 = .ok (.aload_n 1, 1) := by decide +kernel
theorem dL_law_293 : decode cL_law 293 = .ok (.bipush 100, 2) := by decide +kernel
theorem dL_law_295 : decode cL_law 295 = .ok (.invokevirtual 63, 3) := by decide +kernel
theorem dL_law_298 : decode cL_law 298 = .ok (.bipush (-2), 2) := by decide +kernel
theorem dL_law_300 : decode cL_law 300 = .ok (.if_icmp .ne 105, 3) := by decide +kernel
theorem dL_law_303 : decode cL_law 303 = .ok (.aload_n 1, 1) := by decide +kernel
theorem dL_law_304 : decode cL_law 304 = .ok (.iconst (-1), 1) := by decide +kernel
theorem dL_law_305 : decode cL_law 305 = .ok (.invokevirtual 129, 3) := by decide +kernel
theorem dL_law_308 : decode cL_law 308 = .ok (.bipush (-2), 2) := by decide +kernel
theorem dL_law_310 : decode cL_law 310 = .ok (.if_icmp .ne 95, 3) := by decide +kernel
theorem dL_law_313 : decode cL_law 313 = .ok (.aload_n 1, 1) := by decide +kernel
theorem dL_law_314 : decode cL_law 314 = .ok (.sipush 10000, 3) := by decide +kernel
theorem dL_law_317 : decode cL_law 317 = .ok (.invokevirtual 129, 3) := by decide +kernel
theorem dL_law_320 : decode cL_law 320 = .ok (.bipush (-2), 2) := by decide +kernel
theorem dL_law_322 : decode cL_law 322 = .ok (.if_icmp .ne 83, 3) := by decide +kernel
theorem dL_law_325 : decode cL_law 325 = .ok (.aload_n 1, 1) := by decide +kernel
theorem dL_law_326 : decode cL_law 326 = .ok (.bipush 20, 2) := by decide +kernel
theorem dL_law_328 : decode cL_law 328 = .ok (.bipush 11, 2) := by decide +kernel
theorem dL_law_330 : decode cL_law 330 = .ok (.invokevirtual 93, 3) := by decide +kernel
theorem dL_law_333 : decode cL_law 333 = .ok (.iconst (-1), 1) := by decide +kernel
theorem dL_law_334 : decode cL_law 334 = .ok (.if_icmp .ne 71, 3) := by decide +kernel
theorem dL_law_337 : decode cL_law 337 = .ok (.aload_n 1, 1) := by decide +kernel
theorem dL_law_338 : decode cL_law 338 = .ok (.iconst 4, 1) := by decide +kernel
theorem dL_law_339 : decode cL_law 339 = .ok (.iconst 4, 1) := by decide +kernel
theorem dL_law_340 : decode cL_law 340 = .ok (.invokevirtual 118, 3) := by decide +kernel
theorem dL_law_343 : decode cL_law 343 = .ok (.iconst (-1), 1) := by decide +kernel
theorem dL_law_344 : decode cL_law 344 = .ok (.if_icmp .ne 61, 3) := by decide +kernel
theorem dL_law_347 : decode cL_law 347 = .ok (.aload_n 1, 1) := by decide +kernel
theorem dL_law_348 : decode cL_law 348 = .ok (.iconst 0, 1) := by decide +kernel
theorem dL_law_349 : decode cL_law 349 = .ok (.iconst 4, 1) := by decide +kernel
theorem dL_law_350 : decode cL_law 350 = .ok (.invokevirtual 118, 3) := by decide +kernel
theorem dL_law_353 : decode cL_law 353 = .ok (.bipush (-2), 2) := by decide +kernel
theorem dL_law_355 : decode cL_law 355 = .ok (.if_icmp .ne 50, 3) := by decide +kernel
theorem dL_law_358 : decode cL_law 358 = .ok (.aload_n 1, 1) := by decide +kernel
theorem dL_law_359 : decode cL_law 359 = .ok (.iconst 0, 1) := by decide +kernel
theorem dL_law_360 : decode cL_law 360 = .ok (.iconst (-1), 1) := by decide +kernel
theorem dL_law_361 : decode cL_law 361 = .ok (.invokevirtual 115, 3) := by decide +kernel
theorem dL_law_364 : decode cL_law 364 = .ok (.bipush (-2), 2) := by decide +kernel
theorem dL_law_366 : decode cL_law 366 = .ok (.if_icmp .ne 39, 3) := by decide +kernel
theorem dL_law_369 : decode cL_law 369 = .ok (.aload_n 1, 1) := by decide +kernel
theorem dL_law_370 : decode cL_law 370 = .ok (.iconst (-1), 1) := by decide +kernel
theorem dL_law_371 : decode cL_law 371 = .ok (.iconst (-1), 1) := by decide +kernel
theorem dL_law_372 : decode cL_law 372 = .ok (.invokevirtual 115, 3) := by decide +kernel
theorem dL_law_375 : decode cL_law 375 = .ok (.iconst (-1), 1) := by decide +kernel
theorem dL_law_376 : decode cL_law 376 = .ok (.if_icmp .ne 29, 3) := by decide +kernel
theorem dL_law_379 : decode cL_law 379 = .ok (.aload_n 1, 1) := by decide +kernel
theorem dL_law_380 : decode cL_law 380 = .ok (.iconst 0, 1) := by decide +kernel
theorem dL_law_381 : decode cL_law 381 = .ok (.iconst 3, 1) := by decide +kernel
theorem dL_law_382 : decode cL_law 382 = .ok (.invokevirtual 121, 3) := by decide +kernel
theorem dL_law_385 : decode cL_law 385 = .ok (.bipush (-2), 2) := by decide +kernel
theorem dL_law_387 : decode cL_law 387 = .ok (.if_icmp .ne 18, 3) := by decide +kernel
theorem dL_law_390 : decode cL_law 390 = .ok (.aload_n 1, 1) := by decide +kernel
theorem dL_law_391 : decode cL_law 391 = .ok (.bipush 15, 2) := by decide +kernel
theorem dL_law_393 : decode cL_law 393 = .ok (.invokevirtual 123, 3) := by decide +kernel
theorem dL_law_396 : decode cL_law 396 = .ok (.bipush (-2), 2) := by decide +kernel
theorem dL_law_398 : decode cL_law 398 = .ok (.if_icmp .ne 7, 3) := by decide +kernel
theorem dL_law_401 : decode cL_law 401 = .ok (.iconst 1, 1) := by decide +kernel
theorem dL_law_402 : decode cL_law 402 = .ok (.goto 4, 3) := by decide +kernel
theorem dL_law_405 : decode cL_law 405 = .ok (.iconst 0, 1) := by decide +kernel
theorem dL_law_406 : decode cL_law 406 = .ok (.ireturn, 1) := by decide +kernel
