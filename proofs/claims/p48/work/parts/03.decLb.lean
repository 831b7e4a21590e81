theorem dL_isCorner_4 : decode cL_isCorner 4 = .ok (.iload_n 0, 1) := by decide +kernel
theorem dL_isCorner_5 : decode cL_isCorner 5 = .ok (.bipush 6, 2) := by decide +kernel
theorem dL_isCorner_7 : decode cL_isCorner 7 = .ok (.if_icmp .eq 15, 3) := by decide +kernel
theorem dL_isCorner_10 : decode cL_isCorner 10 = .ok (.iload_n 0, 1) := by decide +kernel
theorem dL_isCorner_11 : decode cL_isCorner 11 = .ok (.bipush 42, 2) := by decide +kernel
theorem dL_isCorner_13 : decode cL_isCorner 13 = .ok (.if_icmp .eq 9, 3) := by decide +kernel
theorem dL_isCorner_16 : decode cL_isCorner 16 = .ok (.iload_n 0, 1) := by decide +kernel
theorem dL_isCorner_17 : decode cL_isCorner 17 = .ok (.bipush 48, 2) := by decide +kernel
theorem dL_isCorner_19 : decode cL_isCorner 19 = .ok (.if_icmp .ne 7, 3) := by decide +kernel
theorem dL_isCorner_22 : decode cL_isCorner 22 = .ok (.iconst 1, 1) := by decide +kernel
theorem dL_isCorner_23 : decode cL_isCorner 23 = .ok (.goto 4, 3) := by decide +kernel
theorem dL_isCorner_26 : decode cL_isCorner 26 = .ok (.iconst 0, 1) := by decide +kernel
theorem dL_isCorner_27 : decode cL_isCorner 27 = .ok (.ireturn, 1) := by decide +kernel
theorem dL_follows_0 : decode cL_follows 0 = .ok (.aload_n 0, 1) := by decide +kernel
theorem dL_follows_1 : decode cL_follows 1 = .ok (.invokevirtual 124, 3) := by decide +kernel
theorem dL_follows_4 : decode cL_follows 4 = .ok (.istore_n 2, 1) := by decide +kernel
theorem dL_follows_5 : decode cL_follows 5 = .ok (.aload_n 0, 1) := by decide +kernel
theorem dL_follows_6 : decode cL_follows 6 = .ok (.invokevirtual 211, 3) := by decide +kernel
theorem dL_follows_9 : decode cL_follows 9 = .ok (.istore_n 3, 1) := by decide +kernel
theorem dL_follows_10 : decode cL_follows 10 = .ok (.aload_n 0, 1) := by decide +kernel
theorem dL_follows_11 : decode cL_follows 11 = .ok (.invokevirtual 214, 3) := by decide +kernel
theorem dL_follows_14 : decode cL_follows 14 = .ok (.istore 4, 2) := by decide +kernel
theorem dL_follows_16 : decode cL_follows 16 = .ok (.aload_n 0, 1) := by decide +kernel
theorem dL_follows_17 : decode cL_follows 17 = .ok (.iconst 1, 1) := by decide +kernel
theorem dL_follows_18 : decode cL_follows 18 = .ok (.invokestatic 140, 3) := by decide +kernel
theorem dL_follows_21 : decode cL_follows 21 = .ok (.lconst 0, 1) := by decide +kernel
theorem dL_follows_22 : decode cL_follows 22 = .ok (.lcmp, 1) := by decide +kernel
theorem dL_follows_23 : decode cL_follows 23 = .ok (.ifCond .ne 7, 3) := by decide +kernel
theorem dL_follows_26 : decode cL_follows 26 = .ok (.iconst 1, 1) := by decide +kernel
theorem dL_follows_27 : decode cL_follows 27 = .ok (.goto 4, 3) := by decide +kernel
theorem dL_follows_30 : decode cL_follows 30 = .ok (.iconst 0, 1) := by decide +kernel
theorem dL_follows_31 : decode cL_follows 31 = .ok (.istore 5, 2) := by decide +kernel
theorem dL_follows_33 : decode cL_follows 33 = .ok (.iload_n 2, 1) := by decide +kernel
theorem dL_follows_34 : decode cL_follows 34 = .ok (.iconst 1, 1) := by decide +kernel
theorem dL_follows_35 : decode cL_follows 35 = .ok (.if_icmp .ne 11, 3) := by decide +kernel
theorem dL_follows_38 : decode cL_follows 38 = .ok (.aload_n 0, 1) := by decide +kernel
theorem dL_follows_39 : decode cL_follows 39 = .ok (.invokestatic 181, 3) := by decide +kernel
theorem dL_follows_42 : decode cL_follows 42 = .ok (.l2i, 1) := by decide +kernel
theorem dL_follows_43 : decode cL_follows 43 = .ok (.goto 4, 3) := by decide +kernel
theorem dL_follows_46 : decode cL_follows 46 = .ok (.iconst 0, 1) := by decide +kernel
theorem dL_follows_47 : decode cL_follows 47 = .ok (.istore 6, 2) := by decide +kernel
theorem dL_follows_49 : decode cL_follows 49 = .ok (.iload_n 2, 1) := by decide +kernel
theorem dL_follows_50 : decode cL_follows 50 = .ok (.iconst 1, 1) := by decide +kernel
theorem dL_follows_51 : decode cL_follows 51 = .ok (.if_icmp .ne 13, 3) := by decide +kernel
theorem dL_follows_54 : decode cL_follows 54 = .ok (.aload_n 0, 1) := by decide +kernel
theorem dL_follows_55 : decode cL_follows 55 = .ok (.iload 6, 2) := by decide +kernel
theorem dL_follows_57 : decode cL_follows 57 = .ok (.invokestatic 158, 3) := by decide +kernel
theorem dL_follows_60 : decode cL_follows 60 = .ok (.l2i, 1) := by decide +kernel
theorem dL_follows_61 : decode cL_follows 61 = .ok (.goto 4, 3) := by decide +kernel
theorem dL_follows_64 : decode cL_follows 64 = .ok (.iconst 0, 1) := by decide +kernel
theorem dL_follows_65 : decode cL_follows 65 = .ok (.istore 7, 2) := by decide +kernel
theorem dL_follows_67 : decode cL_follows 67 = .ok (.iconst 0, 1) := by decide +kernel
theorem dL_follows_68 : decode cL_follows 68 = .ok (.istore 8, 2) := by decide +kernel
theorem dL_follows_70 : decode cL_follows 70 = .ok (.iload 8, 2) := by decide +kernel
theorem dL_follows_72 : decode cL_follows 72 = .ok (.iload 7, 2) := by decide +kernel
theorem dL_follows_74 : decode cL_follows 74 = .ok (.if_icmp .ge 308, 3) := by decide +kernel
theorem dL_follows_77 : decode cL_follows 77 = .ok (.iload 5, 2) := by decide +kernel
theorem dL_follows_79 : decode cL_follows 79 = .ok (.ifCond .eq 303, 3) := by decide +kernel
theorem dL_follows_82 : decode cL_follows 82 = .ok (.aload_n 0, 1) := by decide +kernel
theorem dL_follows_83 : decode cL_follows 83 = .ok (.iload 6, 2) := by decide +kernel
theorem dL_follows_85 : decode cL_follows 85 = .ok (.iload 8, 2) := by decide +kernel
theorem dL_follows_87 : decode cL_follows 87 = .ok (.invokestatic 173, 3) := by decide +kernel
theorem dL_follows_90 : decode cL_follows 90 = .ok (.l2i, 1) := by decide +kernel
theorem dL_follows_91 : decode cL_follows 91 = .ok (.istore 9, 2) := by decide +kernel
theorem dL_follows_93 : decode cL_follows 93 = .ok (.iload 9, 2) := by decide +kernel
theorem dL_follows_95 : decode cL_follows 95 = .ok (.bipush 49, 2) := by decide +kernel
theorem dL_follows_97 : decode cL_follows 97 = .ok (.idiv, 1) := by decide +kernel
theorem dL_follows_98 : decode cL_follows 98 = .ok (.istore 10, 2) := by decide +kernel
theorem dL_follows_100 : decode cL_follows 100 = .ok (.iload 9, 2) := by decide +kernel
theorem dL_follows_102 : decode cL_follows 102 = .ok (.bipush 49, 2) := by decide +kernel
theorem dL_follows_104 : decode cL_follows 104 = .ok (.irem, 1) := by decide +kernel
theorem dL_follows_105 : decode cL_follows 105 = .ok (.istore 11, 2) := by decide +kernel
theorem dL_follows_107 : decode cL_follows 107 = .ok (.aload_n 0, 1) := by decide +kernel
theorem dL_follows_108 : decode cL_follows 108 = .ok (.iload 10, 2) := by decide +kernel
theorem dL_follows_110 : decode cL_follows 110 = .ok (.iload 11, 2) := by decide +kernel
theorem dL_follows_112 : decode cL_follows 112 = .ok (.invokestatic 164, 3) := by decide +kernel
theorem dL_follows_115 : decode cL_follows 115 = .ok (.lstore 12, 2) := by decide +kernel
theorem dL_follows_117 : decode cL_follows 117 = .ok (.aload_n 0, 1) := by decide +kernel
theorem dL_follows_118 : decode cL_follows 118 = .ok (.iload 10, 2) := by decide +kernel
theorem dL_follows_120 : decode cL_follows 120 = .ok (.iload 11, 2) := by decide +kernel
theorem dL_follows_122 : decode cL_follows 122 = .ok (.invokestatic 166, 3) := by decide +kernel
theorem dL_follows_125 : decode cL_follows 125 = .ok (.lstore 14, 2) := by decide +kernel
theorem dL_follows_127 : decode cL_follows 127 = .ok (.aload_n 0, 1) := by decide +kernel
theorem dL_follows_128 : decode cL_follows 128 = .ok (.iload 10, 2) := by decide +kernel
theorem dL_follows_130 : decode cL_follows 130 = .ok (.iload 11, 2) := by decide +kernel
theorem dL_follows_132 : decode cL_follows 132 = .ok (.invokestatic 168, 3) := by decide +kernel
theorem dL_follows_135 : decode cL_follows 135 = .ok (.lstore 16, 2) := by decide +kernel
theorem dL_follows_137 : decode cL_follows 137 = .ok (.aload_n 0, 1) := by decide +kernel
theorem dL_follows_138 : decode cL_follows 138 = .ok (.iconst 1, 1) := by decide +kernel
theorem dL_follows_139 : decode cL_follows 139 = .ok (.iload 6, 2) := by decide +kernel
theorem dL_follows_141 : decode cL_follows 141 = .ok (.isub, 1) := by decide +kernel
theorem dL_follows_142 : decode cL_follows 142 = .ok (.invokestatic 179, 3) := by decide +kernel
theorem dL_follows_145 : decode cL_follows 145 = .ok (.lstore 18, 2) := by decide +kernel
theorem dL_follows_147 : decode cL_follows 147 = .ok (.aload_n 0, 1) := by decide +kernel
theorem dL_follows_148 : decode cL_follows 148 = .ok (.iload 6, 2) := by decide +kernel
theorem dL_follows_150 : decode cL_follows 150 = .ok (.invokestatic 177, 3) := by decide +kernel
theorem dL_follows_153 : decode cL_follows 153 = .ok (.lstore 20, 2) := by decide +kernel
theorem dL_follows_155 : decode cL_follows 155 = .ok (.aload_n 0, 1) := by decide +kernel
theorem dL_follows_156 : decode cL_follows 156 = .ok (.iload 10, 2) := by decide +kernel
theorem dL_follows_158 : decode cL_follows 158 = .ok (.iload 11, 2) := by decide +kernel
theorem dL_follows_160 : decode cL_follows 160 = .ok (.invokestatic 135, 3) := by decide +kernel
theorem dL_follows_163 : decode cL_follows 163 = .ok (.lload 12, 2) := by decide +kernel
theorem dL_follows_165 : decode cL_follows 165 = .ok (.lcmp, 1) := by decide +kernel
theorem dL_follows_166 : decode cL_follows 166 = .ok (.ifCond .ne 198, 3) := by decide +kernel
theorem dL_follows_169 : decode cL_follows 169 = .ok (.aload_n 0, 1) := by decide +kernel
theorem dL_follows_170 : decode cL_follows 170 = .ok (.iconst 1, 1) := by decide +kernel
theorem dL_follows_171 : decode cL_follows 171 = .ok (.iload 6, 2) := by decide +kernel
theorem dL_follows_173 : decode cL_follows 173 = .ok (.isub, 1) := by decide +kernel
theorem dL_follows_174 : decode cL_follows 174 = .ok (.invokestatic 179, 3) := by decide +kernel
theorem dL_follows_177 : decode cL_follows 177 = .ok (.lload 18, 2) := by decide +kernel
theorem dL_follows_179 : decode cL_follows 179 = .ok (.lload 12, 2) := by decide +kernel
theorem dL_follows_181 : decode cL_follows 181 = .ok (.ladd, 1) := by decide +kernel
theorem dL_follows_182 : decode cL_follows 182 = .ok (.lcmp, 1) := by decide +kernel
theorem dL_follows_183 : decode cL_follows 183 = .ok (.ifCond .ne 181, 3) := by decide +kernel
theorem dL_follows_186 : decode cL_follows 186 = .ok (.aload_n 0, 1) := by decide +kernel
theorem dL_follows_187 : decode cL_follows 187 = .ok (.invokevirtual 211, 3) := by decide +kernel
theorem dL_follows_190 : decode cL_follows 190 = .ok (.iload_n 3, 1) := by decide +kernel
theorem dL_follows_191 : decode cL_follows 191 = .ok (.iconst 1, 1) := by decide +kernel
theorem dL_follows_192 : decode cL_follows 192 = .ok (.iadd, 1) := by decide +kernel
theorem dL_follows_193 : decode cL_follows 193 = .ok (.if_icmp .ne 171, 3) := by decide +kernel
theorem dL_follows_196 : decode cL_follows 196 = .ok (.aload_n 0, 1) := by decide +kernel
theorem dL_follows_197 : decode cL_follows 197 = .ok (.invokevirtual 214, 3) := by decide +kernel
theorem dL_follows_200 : decode cL_follows 200 = .ok (.iload 4, 2) := by decide +kernel
theorem dL_follows_202 : decode cL_follows 202 = .ok (.iconst 1, 1) := by decide +kernel
theorem dL_follows_203 : decode cL_follows 203 = .ok (.iadd, 1) := by decide +kernel
theorem dL_follows_204 : decode cL_follows 204 = .ok (.if_icmp .ne 160, 3) := by decide +kernel
theorem dL_follows_207 : decode cL_follows 207 = .ok (.aload_n 0, 1) := by decide +kernel
theorem dL_follows_208 : decode cL_follows 208 = .ok (.iload 11, 2) := by decide +kernel
theorem dL_follows_210 : decode cL_follows 210 = .ok (.bipush 7, 2) := by decide +kernel
theorem dL_follows_212 : decode cL_follows 212 = .ok (.idiv, 1) := by decide +kernel
theorem dL_follows_213 : decode cL_follows 213 = .ok (.iload 11, 2) := by decide +kernel
theorem dL_follows_215 : decode cL_follows 215 = .ok (.bipush 7, 2) := by decide +kernel
theorem dL_follows_217 : decode cL_follows 217 = .ok (.irem, 1) := by decide +kernel
theorem dL_follows_218 : decode cL_follows 218 = .ok (.invokestatic 144, 3) := by decide +kernel
theorem dL_follows_221 : decode cL_follows 221 = .ok (.lconst 0, 1) := by decide +kernel
theorem dL_follows_222 : decode cL_follows 222 = .ok (.lcmp, 1) := by decide +kernel
theorem dL_follows_223 : decode cL_follows 223 = .ok (.ifCond .le 141, 3) := by decide +kernel
theorem dL_follows_226 : decode cL_follows 226 = .ok (.aload_n 0, 1) := by decide +kernel
theorem dL_follows_227 : decode cL_follows 227 = .ok (.iload 10, 2) := by decide +kernel
theorem dL_follows_229 : decode cL_follows 229 = .ok (.bipush 7, 2) := by decide +kernel
theorem dL_follows_231 : decode cL_follows 231 = .ok (.idiv, 1) := by decide +kernel
theorem dL_follows_232 : decode cL_follows 232 = .ok (.iload 10, 2) := by decide +kernel
theorem dL_follows_234 : decode cL_follows 234 = .ok (.bipush 7, 2) := by decide +kernel
theorem dL_follows_236 : decode cL_follows 236 = .ok (.irem, 1) := by decide +kernel
theorem dL_follows_237 : decode cL_follows 237 = .ok (.invokestatic 144, 3) := by decide +kernel
theorem dL_follows_240 : decode cL_follows 240 = .ok (.lconst 0, 1) := by decide +kernel
theorem dL_follows_241 : decode cL_follows 241 = .ok (.lcmp, 1) := by decide +kernel
theorem dL_follows_242 : decode cL_follows 242 = .ok (.ifCond .ne 122, 3) := by decide +kernel
theorem dL_follows_245 : decode cL_follows 245 = .ok (.lload 14, 2) := by decide +kernel
theorem dL_follows_247 : decode cL_follows 247 = .ok (.lconst 1, 1) := by decide +kernel
theorem dL_follows_248 : decode cL_follows 248 = .ok (.lcmp, 1) := by decide +kernel
theorem dL_follows_249 : decode cL_follows 249 = .ok (.ifCond .ne 7, 3) := by decide +kernel
theorem dL_follows_252 : decode cL_follows 252 = .ok (.iconst 1, 1) := by decide +kernel
theorem dL_follows_253 : decode cL_follows 253 = .ok (.goto 4, 3) := by decide +kernel
theorem dL_follows_256 : decode cL_follows 256 = .ok (.iconst 0, 1) := by decide +kernel
theorem dL_follows_257 : decode cL_follows 257 = .ok (.aload_n 0, 1) := by decide +kernel
theorem dL_follows_258 : decode cL_follows 258 = .ok (.invokevirtual 124, 3) := by decide +kernel
theorem dL_follows_261 : decode cL_follows 261 = .ok (.iconst 2, 1) := by decide +kernel
theorem dL_follows_262 : decode cL_follows 262 = .ok (.iload 6, 2) := by decide +kernel
theorem dL_follows_264 : decode cL_follows 264 = .ok (.iadd, 1) := by decide +kernel
theorem dL_follows_265 : decode cL_follows 265 = .ok (.if_icmp .ne 7, 3) := by decide +kernel
theorem dL_follows_268 : decode cL_follows 268 = .ok (.iconst 1, 1) := by decide +kernel
theorem dL_follows_269 : decode cL_follows 269 = .ok (.goto 4, 3) := by decide +kernel
theorem dL_follows_272 : decode cL_follows 272 = .ok (.iconst 0, 1) := by decide +kernel
theorem dL_follows_273 : decode cL_follows 273 = .ok (.if_icmp .ne 91, 3) := by decide +kernel
theorem dL_follows_276 : decode cL_follows 276 = .ok (.aload_n 0, 1) := by decide +kernel
theorem dL_follows_277 : decode cL_follows 277 = .ok (.iload 6, 2) := by decide +kernel
theorem dL_follows_279 : decode cL_follows 279 = .ok (.invokestatic 177, 3) := by decide +kernel
theorem dL_follows_282 : decode cL_follows 282 = .ok (.lload 20, 2) := by decide +kernel
theorem dL_follows_284 : decode cL_follows 284 = .ok (.lload 14, 2) := by decide +kernel
theorem dL_follows_286 : decode cL_follows 286 = .ok (.ladd, 1) := by decide +kernel
theorem dL_follows_287 : decode cL_follows 287 = .ok (.lcmp, 1) := by decide +kernel
theorem dL_follows_288 : decode cL_follows 288 = .ok (.ifCond .ne 76, 3) := by decide +kernel
theorem dL_follows_291 : decode cL_follows 291 = .ok (.lload 14, 2) := by decide +kernel
theorem dL_follows_293 : decode cL_follows 293 = .ok (.lconst 1, 1) := by decide +kernel
theorem dL_follows_294 : decode cL_follows 294 = .ok (.lcmp, 1) := by decide +kernel
theorem dL_follows_295 : decode cL_follows 295 = .ok (.ifCond .ne 15, 3) := by decide +kernel
theorem dL_follows_298 : decode cL_follows 298 = .ok (.lload 16, 2) := by decide +kernel
theorem dL_follows_300 : decode cL_follows 300 = .ok (.ldc2_w 232, 3) := by decide +kernel
theorem dL_follows_303 : decode cL_follows 303 = .ok (.lcmp, 1) := by decide +kernel
theorem dL_follows_304 : decode cL_follows 304 = .ok (.ifCond .ne 60, 3) := by decide +kernel
theorem dL_follows_307 : decode cL_follows 307 = .ok (.goto 28, 3) := by decide +kernel
theorem dL_follows_310 : decode cL_follows 310 = .ok (.lload 16, 2) := by decide +kernel
theorem dL_follows_312 : decode cL_follows 312 = .ok (.ldc2_w 234, 3) := by decide +kernel
theorem dL_follows_315 : decode cL_follows 315 = .ok (.lload 12, 2) := by decide +kernel
theorem dL_follows_317 : decode cL_follows 317 = .ok (.lmul, 1) := by decide +kernel
theorem dL_follows_318 : decode cL_follows 318 = .ok (.ldc2_w 236, 3) := by decide +kernel
theorem dL_follows_321 : decode cL_follows 321 = .ok (.aload_n 0, 1) := by decide +kernel
theorem dL_follows_322 : decode cL_follows 322 = .ok (.iconst 1, 1) := by decide +kernel
theorem dL_follows_323 : decode cL_follows 323 = .ok (.iload 6, 2) := by decide +kernel
theorem dL_follows_325 : decode cL_follows 325 = .ok (.isub, 1) := by decide +kernel
theorem dL_follows_326 : decode cL_follows 326 = .ok (.invokestatic 170, 3) := by decide +kernel
theorem dL_follows_329 : decode cL_follows 329 = .ok (.lmul, 1) := by decide +kernel
theorem dL_follows_330 : decode cL_follows 330 = .ok (.lsub, 1) := by decide +kernel
theorem dL_follows_331 : decode cL_follows 331 = .ok (.lcmp, 1) := by decide +kernel
theorem dL_follows_332 : decode cL_follows 332 = .ok (.ifCond .ne 32, 3) := by decide +kernel
theorem dL_follows_335 : decode cL_follows 335 = .ok (.aload_n 0, 1) := by decide +kernel
theorem dL_follows_336 : decode cL_follows 336 = .ok (.invokestatic 238, 3) := by decide +kernel
theorem dL_follows_339 : decode cL_follows 339 = .ok (.lconst 0, 1) := by decide +kernel
theorem dL_follows_340 : decode cL_follows 340 = .ok (.lcmp, 1) := by decide +kernel
theorem dL_follows_341 : decode cL_follows 341 = .ok (.ifCond .ne 23, 3) := by decide +kernel
theorem dL_follows_344 : decode cL_follows 344 = .ok (.aload_n 0, 1) := by decide +kernel
theorem dL_follows_345 : decode cL_follows 345 = .ok (.invokevirtual 211, 3) := by decide +kernel
theorem dL_follows_348 : decode cL_follows 348 = .ok (.iload_n 3, 1) := by decide +kernel
theorem dL_follows_349 : decode cL_follows 349 = .ok (.if_icmp .ne 15, 3) := by decide +kernel
theorem dL_follows_352 : decode cL_follows 352 = .ok (.aload_n 0, 1) := by decide +kernel
theorem dL_follows_353 : decode cL_follows 353 = .ok (.invokevirtual 124, 3) := by decide +kernel
theorem dL_follows_356 : decode cL_follows 356 = .ok (.iload_n 2, 1) := by decide +kernel
theorem dL_follows_357 : decode cL_follows 357 = .ok (.if_icmp .ne 7, 3) := by decide +kernel
theorem dL_follows_360 : decode cL_follows 360 = .ok (.iconst 1, 1) := by decide +kernel
theorem dL_follows_361 : decode cL_follows 361 = .ok (.goto 4, 3) := by decide +kernel
theorem dL_follows_364 : decode cL_follows 364 = .ok (.iconst 0, 1) := by decide +kernel
theorem dL_follows_365 : decode cL_follows 365 = .ok (.istore 5, 2) := by decide +kernel
theorem dL_follows_367 : decode cL_follows 367 = .ok (.iload 8, 2) := by decide +kernel
theorem dL_follows_369 : decode cL_follows 369 = .ok (.iconst 1, 1) := by decide +kernel
theorem dL_follows_370 : decode cL_follows 370 = .ok (.iload 7, 2) := by decide +kernel
theorem dL_follows_372 : decode cL_follows 372 = .ok (.bipush 6, 2) := by decide +kernel
theorem dL_follows_374 : decode cL_follows 374 = .ok (.idiv, 1) := by decide +kernel
theorem dL_follows_375 : decode cL_follows 375 = .ok (.iadd, 1) := by decide +kernel
theorem dL_follows_376 : decode cL_follows 376 = .ok (.iadd, 1) := by decide +kernel
theorem dL_follows_377 : decode cL_follows 377 = .ok (.istore 8, 2) := by decide +kernel
theorem dL_follows_379 : decode cL_follows 379 = .ok (.goto (-309), 3) := by decide +kernel
theorem dL_follows_382 : decode cL_follows 382 = .ok (.iload 5, 2) := by decide +kernel
theorem dL_follows_384 : decode cL_follows 384 = .ok (.ifCond .eq 119, 3) := by decide +kernel
theorem dL_follows_387 : decode cL_follows 387 = .ok (.iload 7, 2) := by decide +kernel
theorem dL_follows_389 : decode cL_follows 389 = .ok (.ifCond .le 114, 3) := by decide +kernel
theorem dL_follows_392 : decode cL_follows 392 = .ok (.aload_n 0, 1) := by decide +kernel
theorem dL_follows_393 : decode cL_follows 393 = .ok (.iload 6, 2) := by decide +kernel
theorem dL_follows_395 : decode cL_follows 395 = .ok (.invokestatic 175, 3) := by decide +kernel
theorem dL_follows_398 : decode cL_follows 398 = .ok (.l2i, 1) := by decide +kernel
theorem dL_follows_399 : decode cL_follows 399 = .ok (.istore 8, 2) := by decide +kernel
theorem dL_follows_401 : decode cL_follows 401 = .ok (.aload_n 0, 1) := by decide +kernel
theorem dL_follows_402 : decode cL_follows 402 = .ok (.iload 8, 2) := by decide +kernel
theorem dL_follows_404 : decode cL_follows 404 = .ok (.bipush 49, 2) := by decide +kernel
theorem dL_follows_406 : decode cL_follows 406 = .ok (.idiv, 1) := by decide +kernel
theorem dL_follows_407 : decode cL_follows 407 = .ok (.iload 8, 2) := by decide +kernel
theorem dL_follows_409 : decode cL_follows 409 = .ok (.bipush 49, 2) := by decide +kernel
theorem dL_follows_411 : decode cL_follows 411 = .ok (.irem, 1) := by decide +kernel
theorem dL_follows_412 : decode cL_follows 412 = .ok (.invokestatic 168, 3) := by decide +kernel
theorem dL_follows_415 : decode cL_follows 415 = .ok (.lstore 9, 2) := by decide +kernel
theorem dL_follows_417 : decode cL_follows 417 = .ok (.iconst 0, 1) := by decide +kernel
theorem dL_follows_418 : decode cL_follows 418 = .ok (.istore 11, 2) := by decide +kernel
theorem dL_follows_420 : decode cL_follows 420 = .ok (.iload 11, 2) := by decide +kernel
theorem dL_follows_422 : decode cL_follows 422 = .ok (.iload 7, 2) := by decide +kernel
theorem dL_follows_424 : decode cL_follows 424 = .ok (.if_icmp .ge 79, 3) := by decide +kernel
theorem dL_follows_427 : decode cL_follows 427 = .ok (.iload 5, 2) := by decide +kernel
theorem dL_follows_429 : decode cL_follows 429 = .ok (.ifCond .eq 74, 3) := by decide +kernel
theorem dL_follows_432 : decode cL_follows 432 = .ok (.aload_n 0, 1) := by decide +kernel
theorem dL_follows_433 : decode cL_follows 433 = .ok (.iload 6, 2) := by decide +kernel
theorem dL_follows_435 : decode cL_follows 435 = .ok (.iload 11, 2) := by decide +kernel
theorem dL_follows_437 : decode cL_follows 437 = .ok (.invokestatic 173, 3) := by decide +kernel
theorem dL_follows_440 : decode cL_follows 440 = .ok (.l2i, 1) := by decide +kernel
theorem dL_follows_441 : decode cL_follows 441 = .ok (.istore 12, 2) := by decide +kernel
theorem dL_follows_443 : decode cL_follows 443 = .ok (.aload_n 0, 1) := by decide +kernel
theorem dL_follows_444 : decode cL_follows 444 = .ok (.iload 12, 2) := by decide +kernel
theorem dL_follows_446 : decode cL_follows 446 = .ok (.bipush 49, 2) := by decide +kernel
theorem dL_follows_448 : decode cL_follows 448 = .ok (.idiv, 1) := by decide +kernel
theorem dL_follows_449 : decode cL_follows 449 = .ok (.iload 12, 2) := by decide +kernel
theorem dL_follows_451 : decode cL_follows 451 = .ok (.bipush 49, 2) := by decide +kernel
theorem dL_follows_453 : decode cL_follows 453 = .ok (.irem, 1) := by decide +kernel
theorem dL_follows_454 : decode cL_follows 454 = .ok (.invokestatic 168, 3) := by decide +kernel
theorem dL_follows_457 : decode cL_follows 457 = .ok (.lstore 13, 2) := by decide +kernel
theorem dL_follows_459 : decode cL_follows 459 = .ok (.lload 13, 2) := by decide +kernel
theorem dL_follows_461 : decode cL_follows 461 = .ok (.lload 9, 2) := by decide +kernel
theorem dL_follows_463 : decode cL_follows 463 = .ok (.lcmp, 1) := by decide +kernel
theorem dL_follows_464 : decode cL_follows 464 = .ok (.ifCond .lt 18, 3) := by decide +kernel
theorem dL_follows_467 : decode cL_follows 467 = .ok (.lload 13, 2) := by decide +kernel
theorem dL_follows_469 : decode cL_follows 469 = .ok (.lload 9, 2) := by decide +kernel
theorem dL_follows_471 : decode cL_follows 471 = .ok (.lcmp, 1) := by decide +kernel
theorem dL_follows_472 : decode cL_follows 472 = .ok (.ifCond .ne 14, 3) := by decide +kernel
theorem dL_follows_475 : decode cL_follows 475 = .ok (.iload 8, 2) := by decide +kernel
theorem dL_follows_477 : decode cL_follows 477 = .ok (.iload 12, 2) := by decide +kernel
theorem dL_follows_479 : decode cL_follows 479 = .ok (.if_icmp .gt 7, 3) := by decide +kernel
theorem dL_follows_482 : decode cL_follows 482 = .ok (.iconst 1, 1) := by decide +kernel
theorem dL_follows_483 : decode cL_follows 483 = .ok (.goto 4, 3) := by decide +kernel
theorem dL_follows_486 : decode cL_follows 486 = .ok (.iconst 0, 1) := by decide +kernel
theorem dL_follows_487 : decode cL_follows 487 = .ok (.istore 5, 2) := by decide +kernel
theorem dL_follows_489 : decode cL_follows 489 = .ok (.iload 11, 2) := by decide +kernel
theorem dL_follows_491 : decode cL_follows 491 = .ok (.iconst 1, 1) := by decide +kernel
theorem dL_follows_492 : decode cL_follows 492 = .ok (.iload 7, 2) := by decide +kernel
theorem dL_follows_494 : decode cL_follows 494 = .ok (.iconst 5, 1) := by decide +kernel
theorem dL_follows_495 : decode cL_follows 495 = .ok (.idiv, 1) := by decide +kernel
theorem dL_follows_496 : decode cL_follows 496 = .ok (.iadd, 1) := by decide +kernel
theorem dL_follows_497 : decode cL_follows 497 = .ok (.iadd, 1) := by decide +kernel
theorem dL_follows_498 : decode cL_follows 498 = .ok (.istore 11, 2) := by decide +kernel
theorem dL_follows_500 : decode cL_follows 500 = .ok (.goto (-80), 3) := by decide +kernel
theorem dL_follows_503 : decode cL_follows 503 = .ok (.aload_n 0, 1) := by decide +kernel
theorem dL_follows_504 : decode cL_follows 504 = .ok (.invokevirtual 240, 3) := by decide +kernel
theorem dL_follows_507 : decode cL_follows 507 = .ok (.istore 8, 2) := by decide +kernel
theorem dL_follows_509 : decode cL_follows 509 = .ok (.iload 5, 2) := by decide +kernel
theorem dL_follows_511 : decode cL_follows 511 = .ok (.ifCond .eq 59, 3) := by decide +kernel
theorem dL_follows_514 : decode cL_follows 514 = .ok (.aload_n 0, 1) := by decide +kernel
theorem dL_follows_515 : decode cL_follows 515 = .ok (.invokevirtual 244, 3) := by decide +kernel
theorem dL_follows_518 : decode cL_follows 518 = .ok (.iload 8, 2) := by decide +kernel
theorem dL_follows_520 : decode cL_follows 520 = .ok (.ifCond .ne 7, 3) := by decide +kernel
theorem dL_follows_523 : decode cL_follows 523 = .ok (.iconst 1, 1) := by decide +kernel
theorem dL_follows_524 : decode cL_follows 524 = .ok (.goto 4, 3) := by decide +kernel
theorem dL_follows_527 : decode cL_follows 527 = .ok (.iconst 0, 1) := by decide +kernel
theorem dL_follows_528 : decode cL_follows 528 = .ok (.if_icmp .ne 42, 3) := by decide +kernel
theorem dL_follows_531 : decode cL_follows 531 = .ok (.aload_n 0, 1) := by decide +kernel
theorem dL_follows_532 : decode cL_follows 532 = .ok (.invokevirtual 240, 3) := by decide +kernel
theorem dL_follows_535 : decode cL_follows 535 = .ok (.iload 8, 2) := by decide +kernel
theorem dL_follows_537 : decode cL_follows 537 = .ok (.ifCond .ne 7, 3) := by decide +kernel
theorem dL_follows_540 : decode cL_follows 540 = .ok (.iconst 1, 1) := by decide +kernel
theorem dL_follows_541 : decode cL_follows 541 = .ok (.goto 4, 3) := by decide +kernel
theorem dL_follows_544 : decode cL_follows 544 = .ok (.iconst 0, 1) := by decide +kernel
theorem dL_follows_545 : decode cL_follows 545 = .ok (.if_icmp .ne 25, 3) := by decide +kernel
theorem dL_follows_548 : decode cL_follows 548 = .ok (.aload_n 0, 1) := by decide +kernel
theorem dL_follows_549 : decode cL_follows 549 = .ok (.invokestatic 238, 3) := by decide +kernel
theorem dL_follows_552 : decode cL_follows 552 = .ok (.lconst 0, 1) := by decide +kernel
theorem dL_follows_553 : decode cL_follows 553 = .ok (.lcmp, 1) := by decide +kernel
theorem dL_follows_554 : decode cL_follows 554 = .ok (.ifCond .ne 16, 3) := by decide +kernel
theorem dL_follows_557 : decode cL_follows 557 = .ok (.aload_n 0, 1) := by decide +kernel
theorem dL_follows_558 : decode cL_follows 558 = .ok (.invokevirtual 240, 3) := by decide +kernel
theorem dL_follows_561 : decode cL_follows 561 = .ok (.iload 8, 2) := by decide +kernel
theorem dL_follows_563 : decode cL_follows 563 = .ok (.if_icmp .ne 7, 3) := by decide +kernel
theorem dL_follows_566 : decode cL_follows 566 = .ok (.iconst 1, 1) := by decide +kernel
theorem dL_follows_567 : decode cL_follows 567 = .ok (.goto 4, 3) := by decide +kernel
theorem dL_follows_570 : decode cL_follows 570 = .ok (.iconst 0, 1) := by decide +kernel
theorem dL_follows_571 : decode cL_follows 571 = .ok (.istore 5, 2) := by decide +kernel
theorem dL_follows_573 : decode cL_follows 573 = .ok (.aload_n 0, 1) := by decide +kernel
theorem dL_follows_574 : decode cL_follows 574 = .ok (.iconst 0, 1) := by decide +kernel
theorem dL_follows_575 : decode cL_follows 575 = .ok (.invokestatic 146, 3) := by decide +kernel
theorem dL_follows_578 : decode cL_follows 578 = .ok (.aload_n 0, 1) := by decide +kernel
theorem dL_follows_579 : decode cL_follows 579 = .ok (.iconst 1, 1) := by decide +kernel
theorem dL_follows_580 : decode cL_follows 580 = .ok (.invokestatic 146, 3) := by decide +kernel
theorem dL_follows_583 : decode cL_follows 583 = .ok (.ladd, 1) := by decide +kernel
theorem dL_follows_584 : decode cL_follows 584 = .ok (.lstore 9, 2) := by decide +kernel
theorem dL_follows_586 : decode cL_follows 586 = .ok (.iload 5, 2) := by decide +kernel
theorem dL_follows_588 : decode cL_follows 588 = .ok (.ifCond .eq 115, 3) := by decide +kernel
theorem dL_follows_591 : decode cL_follows 591 = .ok (.aload_n 0, 1) := by decide +kernel
theorem dL_follows_592 : decode cL_follows 592 = .ok (.invokevirtual 247, 3) := by decide +kernel
theorem dL_follows_595 : decode cL_follows 595 = .ok (.i2l, 1) := by decide +kernel
theorem dL_follows_596 : decode cL_follows 596 = .ok (.lload 9, 2) := by decide +kernel
theorem dL_follows_598 : decode cL_follows 598 = .ok (.lcmp, 1) := by decide +kernel
theorem dL_follows_599 : decode cL_follows 599 = .ok (.ifCond .ne 104, 3) := by decide +kernel
theorem dL_follows_602 : decode cL_follows 602 = .ok (.aload_n 0, 1) := by decide +kernel
theorem dL_follows_603 : decode cL_follows 603 = .ok (.invokevirtual 124, 3) := by decide +kernel
theorem dL_follows_606 : decode cL_follows 606 = .ok (.ifCond .ne 97, 3) := by decide +kernel
theorem dL_follows_609 : decode cL_follows 609 = .ok (.aload_n 0, 1) := by decide +kernel
theorem dL_follows_610 : decode cL_follows 610 = .ok (.invokestatic 186, 3) := by decide +kernel
theorem dL_follows_613 : decode cL_follows 613 = .ok (.ldc2_w 25, 3) := by decide +kernel
theorem dL_follows_616 : decode cL_follows 616 = .ok (.lcmp, 1) := by decide +kernel
theorem dL_follows_617 : decode cL_follows 617 = .ok (.ifCond .ne 86, 3) := by decide +kernel
theorem dL_follows_620 : decode cL_follows 620 = .ok (.aload_n 0, 1) := by decide +kernel
theorem dL_follows_621 : decode cL_follows 621 = .ok (.iload_n 1, 1) := by decide +kernel
theorem dL_follows_622 : decode cL_follows 622 = .ok (.iconst 2, 1) := by decide +kernel
theorem dL_follows_623 : decode cL_follows 623 = .ok (.irem, 1) := by decide +kernel
theorem dL_follows_624 : decode cL_follows 624 = .ok (.invokestatic 158, 3) := by decide +kernel
theorem dL_follows_627 : decode cL_follows 627 = .ok (.lconst 0, 1) := by decide +kernel
theorem dL_follows_628 : decode cL_follows 628 = .ok (.lcmp, 1) := by decide +kernel
theorem dL_follows_629 : decode cL_follows 629 = .ok (.ifCond .ne 74, 3) := by decide +kernel
theorem dL_follows_632 : decode cL_follows 632 = .ok (.aload_n 0, 1) := by decide +kernel
theorem dL_follows_633 : decode cL_follows 633 = .ok (.iload_n 1, 1) := by decide +kernel
theorem dL_follows_634 : decode cL_follows 634 = .ok (.iconst 5, 1) := by decide +kernel
theorem dL_follows_635 : decode cL_follows 635 = .ok (.irem, 1) := by decide +kernel
theorem dL_follows_636 : decode cL_follows 636 = .ok (.iconst 1, 1) := by decide +kernel
theorem dL_follows_637 : decode cL_follows 637 = .ok (.iadd, 1) := by decide +kernel
theorem dL_follows_638 : decode cL_follows 638 = .ok (.iload_n 1, 1) := by decide +kernel
theorem dL_follows_639 : decode cL_follows 639 = .ok (.iconst 5, 1) := by decide +kernel
theorem dL_follows_640 : decode cL_follows 640 = .ok (.idiv, 1) := by decide +kernel
theorem dL_follows_641 : decode cL_follows 641 = .ok (.iconst 2, 1) := by decide +kernel
theorem dL_follows_642 : decode cL_follows 642 = .ok (.irem, 1) := by decide +kernel
theorem dL_follows_643 : decode cL_follows 643 = .ok (.iconst 1, 1) := by decide +kernel
theorem dL_follows_644 : decode cL_follows 644 = .ok (.iadd, 1) := by decide +kernel
theorem dL_follows_645 : decode cL_follows 645 = .ok (.iconst 3, 1) := by decide +kernel
theorem dL_follows_646 : decode cL_follows 646 = .ok (.invokestatic 127, 3) := by decide +kernel
theorem dL_follows_649 : decode cL_follows 649 = .ok (.lconst 0, 1) := by decide +kernel
theorem dL_follows_650 : decode cL_follows 650 = .ok (.lcmp, 1) := by decide +kernel
theorem dL_follows_651 : decode cL_follows 651 = .ok (.ifCond .ne 52, 3) := by decide +kernel
theorem dL_follows_654 : decode cL_follows 654 = .ok (.aload_n 0, 1) := by decide +kernel
theorem dL_follows_655 : decode cL_follows 655 = .ok (.iconst 1, 1) := by decide +kernel
theorem dL_follows_656 : decode cL_follows 656 = .ok (.invokestatic 132, 3) := by decide +kernel
theorem dL_follows_659 : decode cL_follows 659 = .ok (.lconst 0, 1) := by decide +kernel
theorem dL_follows_660 : decode cL_follows 660 = .ok (.lcmp, 1) := by decide +kernel
theorem dL_follows_661 : decode cL_follows 661 = .ok (.ifCond .le 42, 3) := by decide +kernel
theorem dL_follows_664 : decode cL_follows 664 = .ok (.aload_n 0, 1) := by decide +kernel
theorem dL_follows_665 : decode cL_follows 665 = .ok (.invokestatic 238, 3) := by decide +kernel
theorem dL_follows_668 : decode cL_follows 668 = .ok (.lconst 0, 1) := by decide +kernel
theorem dL_follows_669 : decode cL_follows 669 = .ok (.lcmp, 1) := by decide +kernel
theorem dL_follows_670 : decode cL_follows 670 = .ok (.ifCond .ne 33, 3) := by decide +kernel
theorem dL_follows_673 : decode cL_follows 673 = .ok (.aload_n 0, 1) := by decide +kernel
theorem dL_follows_674 : decode cL_follows 674 = .ok (.invokestatic 238, 3) := by decide +kernel
theorem dL_follows_677 : decode cL_follows 677 = .ok (.lconst 0, 1) := by decide +kernel
theorem dL_follows_678 : decode cL_follows 678 = .ok (.lcmp, 1) := by decide +kernel
theorem dL_follows_679 : decode cL_follows 679 = .ok (.ifCond .ne 24, 3) := by decide +kernel
theorem dL_follows_682 : decode cL_follows 682 = .ok (.aload_n 0, 1) := by decide +kernel
theorem dL_follows_683 : decode cL_follows 683 = .ok (.invokestatic 238, 3) := by decide +kernel
theorem dL_follows_686 : decode cL_follows 686 = .ok (.lconst 0, 1) := by decide +kernel
theorem dL_follows_687 : decode cL_follows 687 = .ok (.lcmp, 1) := by decide +kernel
theorem dL_follows_688 : decode cL_follows 688 = .ok (.ifCond .ne 15, 3) := by decide +kernel
theorem dL_follows_691 : decode cL_follows 691 = .ok (.aload_n 0, 1) := by decide +kernel
theorem dL_follows_692 : decode cL_follows 692 = .ok (.invokevirtual 124, 3) := by decide +kernel
theorem dL_follows_695 : decode cL_follows 695 = .ok (.iload_n 2, 1) := by decide +kernel
theorem dL_follows_696 : decode cL_follows 696 = .ok (.if_icmp .ne 7, 3) := by decide +kernel
theorem dL_follows_699 : decode cL_follows 699 = .ok (.iconst 1, 1) := by decide +kernel
theorem dL_follows_700 : decode cL_follows 700 = .ok (.goto 4, 3) := by decide +kernel
theorem dL_follows_703 : decode cL_follows 703 = .ok (.iconst 0, 1) := by decide +kernel
theorem dL_follows_704 : decode cL_follows 704 = .ok (.istore 5, 2) := by decide +kernel
theorem dL_follows_706 : decode cL_follows 706 = .ok (.iload 5, 2) := by decide +kernel
theorem dL_follows_708 : decode cL_follows 708 = .ok (.ifCond .eq 93, 3) := by decide +kernel
theorem dL_follows_711 : decode cL_follows 711 = .ok (.aload_n 0, 1) := by decide +kernel
theorem dL_follows_712 : decode cL_follows 712 = .ok (.invokevirtual 250, 3) := by decide +kernel
theorem dL_follows_715 : decode cL_follows 715 = .ok (.bipush 13, 2) := by decide +kernel
theorem dL_follows_717 : decode cL_follows 717 = .ok (.if_icmp .ne 84, 3) := by decide +kernel
theorem dL_follows_720 : decode cL_follows 720 = .ok (.aload_n 0, 1) := by decide +kernel
theorem dL_follows_721 : decode cL_follows 721 = .ok (.invokevirtual 124, 3) := by decide +kernel
theorem dL_follows_724 : decode cL_follows 724 = .ok (.iconst 1, 1) := by decide +kernel
theorem dL_follows_725 : decode cL_follows 725 = .ok (.if_icmp .ne 76, 3) := by decide +kernel
theorem dL_follows_728 : decode cL_follows 728 = .ok (.aload_n 0, 1) := by decide +kernel
theorem dL_follows_729 : decode cL_follows 729 = .ok (.invokevirtual 211, 3) := by decide +kernel
theorem dL_follows_732 : decode cL_follows 732 = .ok (.ifCond .ne 69, 3) := by decide +kernel
theorem dL_follows_735 : decode cL_follows 735 = .ok (.aload_n 0, 1) := by decide +kernel
theorem dL_follows_736 : decode cL_follows 736 = .ok (.invokestatic 184, 3) := by decide +kernel
theorem dL_follows_739 : decode cL_follows 739 = .ok (.lconst 1, 1) := by decide +kernel
theorem dL_follows_740 : decode cL_follows 740 = .ok (.lcmp, 1) := by decide +kernel
theorem dL_follows_741 : decode cL_follows 741 = .ok (.ifCond .ne 60, 3) := by decide +kernel
theorem dL_follows_744 : decode cL_follows 744 = .ok (.aload_n 0, 1) := by decide +kernel
theorem dL_follows_745 : decode cL_follows 745 = .ok (.iconst 1, 1) := by decide +kernel
theorem dL_follows_746 : decode cL_follows 746 = .ok (.invokestatic 142, 3) := by decide +kernel
theorem dL_follows_749 : decode cL_follows 749 = .ok (.lconst 0, 1) := by decide +kernel
theorem dL_follows_750 : decode cL_follows 750 = .ok (.lcmp, 1) := by decide +kernel
theorem dL_follows_751 : decode cL_follows 751 = .ok (.ifCond .ne 50, 3) := by decide +kernel
theorem dL_follows_754 : decode cL_follows 754 = .ok (.aload_n 0, 1) := by decide +kernel
theorem dL_follows_755 : decode cL_follows 755 = .ok (.invokevirtual 124, 3) := by decide +kernel
theorem dL_follows_758 : decode cL_follows 758 = .ok (.iload_n 2, 1) := by decide +kernel
theorem dL_follows_759 : decode cL_follows 759 = .ok (.if_icmp .ne 42, 3) := by decide +kernel
theorem dL_follows_762 : decode cL_follows 762 = .ok (.aload_n 0, 1) := by decide +kernel
theorem dL_follows_763 : decode cL_follows 763 = .ok (.invokevirtual 211, 3) := by decide +kernel
theorem dL_follows_766 : decode cL_follows 766 = .ok (.iload_n 3, 1) := by decide +kernel
theorem dL_follows_767 : decode cL_follows 767 = .ok (.if_icmp .ne 34, 3) := by decide +kernel
theorem dL_follows_770 : decode cL_follows 770 = .ok (.aload_n 0, 1) := by decide +kernel
theorem dL_follows_771 : decode cL_follows 771 = .ok (.invokestatic 238, 3) := by decide +kernel
theorem dL_follows_774 : decode cL_follows 774 = .ok (.lconst 0, 1) := by decide +kernel
theorem dL_follows_775 : decode cL_follows 775 = .ok (.lcmp, 1) := by decide +kernel
theorem dL_follows_776 : decode cL_follows 776 = .ok (.ifCond .ne 25, 3) := by decide +kernel
theorem dL_follows_779 : decode cL_follows 779 = .ok (.aload_n 0, 1) := by decide +kernel
theorem dL_follows_780 : decode cL_follows 780 = .ok (.invokestatic 238, 3) := by decide +kernel
theorem dL_follows_783 : decode cL_follows 783 = .ok (.lconst 0, 1) := by decide +kernel
theorem dL_follows_784 : decode cL_follows 784 = .ok (.lcmp, 1) := by decide +kernel
theorem dL_follows_785 : decode cL_follows 785 = .ok (.ifCond .ne 16, 3) := by decide +kernel
theorem dL_follows_788 : decode cL_follows 788 = .ok (.aload_n 0, 1) := by decide +kernel
theorem dL_follows_789 : decode cL_follows 789 = .ok (.invokevirtual 214, 3) := by decide +kernel
theorem dL_follows_792 : decode cL_follows 792 = .ok (.iload 4, 2) := by decide +kernel
theorem dL_follows_794 : decode cL_follows 794 = .ok (.if_icmp .ne 7, 3) := by decide +kernel
theorem dL_follows_797 : decode cL_follows 797 = .ok (.iconst 1, 1) := by decide +kernel
theorem dL_follows_798 : decode cL_follows 798 = .ok (.goto 4, 3) := by decide +kernel
theorem dL_follows_801 : decode cL_follows 801 = .ok (.iconst 0, 1) := by decide +kernel
theorem dL_follows_802 : decode cL_follows 802 = .ok (.ireturn, 1) := by decide +kernel
theorem dL_alike_0 : decode cL_alike 0 = .ok (.aload_n 0, 1) := by decide +kernel
theorem dL_alike_1 : decode cL_alike 1 = .ok (.invokevirtual 120, 3) := by decide +kernel
theorem dL_alike_4 : decode cL_alike 4 = .ok (.aload_n 1, 1) := by decide +kernel
theorem dL_alike_5 : decode cL_alike 5 = .ok (.invokevirtual 120, 3) := by decide +kernel
theorem dL_alike_8 : decode cL_alike 8 = .ok (.lcmp, 1) := by decide +kernel
theorem dL_alike_9 : decode cL_alike 9 = .ok (.ifCond .ne 18, 3) := by decide +kernel
theorem dL_alike_12 : decode cL_alike 12 = .ok (.aload_n 0, 1) := by decide +kernel
theorem dL_alike_13 : decode cL_alike 13 = .ok (.invokevirtual 253, 3) := by decide +kernel
theorem dL_alike_16 : decode cL_alike 16 = .ok (.aload_n 1, 1) := by decide +kernel
theorem dL_alike_17 : decode cL_alike 17 = .ok (.invokevirtual 253, 3) := by decide +kernel
theorem dL_alike_20 : decode cL_alike 20 = .ok (.if_icmp .ne 7, 3) := by decide +kernel
theorem dL_alike_23 : decode cL_alike 23 = .ok (.iconst 1, 1) := by decide +kernel
theorem dL_alike_24 : decode cL_alike 24 = .ok (.goto 4, 3) := by decide +kernel
theorem dL_alike_27 : decode cL_alike 27 = .ok (.iconst 0, 1) := by decide +kernel
theorem dL_alike_28 : decode cL_alike 28 = .ok (.ireturn, 1) := by decide +kernel
theorem dL_types_0 : decode cL_types 0 = .ok (.aload_n 0, 1) := by decide +kernel
theorem dL_types_1 : decode cL_types 1 = .ok (.bipush 97, 2) := by decide +kernel
theorem dL_types_3 : decode cL_types 3 = .ok (.iload_n 1, 1) := by decide +kernel
theorem dL_types_4 : decode cL_types 4 = .ok (.bipush 7, 2) := by decide +kernel
theorem dL_types_6 : decode cL_types 6 = .ok (.irem, 1) := by decide +kernel
theorem dL_types_7 : decode cL_types 7 = .ok (.iadd, 1) := by decide +kernel
theorem dL_types_8 : decode cL_types 8 = .ok (.invokestatic 138, 3) := by decide +kernel
theorem dL_types_11 : decode cL_types 11 = .ok (.lconst 0, 1) := by decide +kernel
theorem dL_types_12 : decode cL_types 12 = .ok (.lcmp, 1) := by decide +kernel
theorem dL_types_13 : decode cL_types 13 = .ok (.ifCond .le 23, 3) := by decide +kernel
theorem dL_types_16 : decode cL_types 16 = .ok (.aload_n 0, 1) := by decide +kernel
theorem dL_types_17 : decode cL_types 17 = .ok (.bipush 49, 2) := by decide +kernel
theorem dL_types_19 : decode cL_types 19 = .ok (.iload_n 1, 1) := by decide +kernel
theorem dL_types_20 : decode cL_types 20 = .ok (.bipush 7, 2) := by decide +kernel
theorem dL_types_22 : decode cL_types 22 = .ok (.idiv, 1) := by decide +kernel
theorem dL_types_23 : decode cL_types 23 = .ok (.iadd, 1) := by decide +kernel
theorem dL_types_24 : decode cL_types 24 = .ok (.invokestatic 138, 3) := by decide +kernel
theorem dL_types_27 : decode cL_types 27 = .ok (.lconst 0, 1) := by decide +kernel
theorem dL_types_28 : decode cL_types 28 = .ok (.lcmp, 1) := by decide +kernel
theorem dL_types_29 : decode cL_types 29 = .ok (.ifCond .le 7, 3) := by decide +kernel
theorem dL_types_32 : decode cL_types 32 = .ok (.iconst 1, 1) := by decide +kernel
theorem dL_types_33 : decode cL_types 33 = .ok (.goto 4, 3) := by decide +kernel
theorem dL_types_36 : decode cL_types 36 = .ok (.iconst 0, 1) := by decide +kernel
theorem dL_types_37 : decode cL_types 37 = .ok (.ireturn, 1) := by decide +kernel
theorem dL_told_0 : decode cL_told 0 = .ok (.aload_n 0, 1) := by decide +kernel
theorem dL_told_1 : decode cL_told 1 = .ok (.invokevirtual 256, 3) := by decide +kernel
theorem dL_told_4 : decode cL_told 4 = .ok (.ifCond .lt 7, 3) := by decide +kernel
theorem dL_told_7 : decode cL_told 7 = .ok (.iconst 1, 1) := by decide +kernel
theorem dL_told_8 : decode cL_told 8 = .ok (.goto 4, 3) := by decide +kernel
theorem dL_told_11 : decode cL_told 11 = .ok (.iconst 0, 1) := by decide +kernel
theorem dL_told_12 : decode cL_told 12 = .ok (.istore_n 2, 1) := by decide +kernel
theorem dL_told_13 : decode cL_told 13 = .ok (.aload_n 0, 1) := by decide +kernel
theorem dL_told_14 : decode cL_told 14 = .ok (.invokevirtual 124, 3) := by decide +kernel
theorem dL_told_17 : decode cL_told 17 = .ok (.iconst 1, 1) := by decide +kernel
theorem dL_told_18 : decode cL_told 18 = .ok (.if_icmp .ne 11, 3) := by decide +kernel
theorem dL_told_21 : decode cL_told 21 = .ok (.aload_n 0, 1) := by decide +kernel
theorem dL_told_22 : decode cL_told 22 = .ok (.invokestatic 181, 3) := by decide +kernel
theorem dL_told_25 : decode cL_told 25 = .ok (.l2i, 1) := by decide +kernel
theorem dL_told_26 : decode cL_told 26 = .ok (.goto 4, 3) := by decide +kernel
theorem dL_told_29 : decode cL_told 29 = .ok (.iconst 0, 1) := by decide +kernel
theorem dL_told_30 : decode cL_told 30 = .ok (.istore_n 3, 1) := by decide +kernel
theorem dL_told_31 : decode cL_told 31 = .ok (.aload_n 0, 1) := by decide +kernel
theorem dL_told_32 : decode cL_told 32 = .ok (.iload_n 3, 1) := by decide +kernel
theorem dL_told_33 : decode cL_told 33 = .ok (.invokestatic 158, 3) := by decide +kernel
theorem dL_told_36 : decode cL_told 36 = .ok (.l2i, 1) := by decide +kernel
theorem dL_told_37 : decode cL_told 37 = .ok (.istore 4, 2) := by decide +kernel
theorem dL_told_39 : decode cL_told 39 = .ok (.iload 4, 2) := by decide +kernel
theorem dL_told_41 : decode cL_told 41 = .ok (.ifCond .ne 7, 3) := by decide +kernel
theorem dL_told_44 : decode cL_told 44 = .ok (.iconst 0, 1) := by decide +kernel
theorem dL_told_45 : decode cL_told 45 = .ok (.goto 13, 3) := by decide +kernel
theorem dL_told_48 : decode cL_told 48 = .ok (.aload_n 0, 1) := by decide +kernel
theorem dL_told_49 : decode cL_told 49 = .ok (.iload_n 3, 1) := by decide +kernel
theorem dL_told_50 : decode cL_told 50 = .ok (.iload_n 1, 1) := by decide +kernel
theorem dL_told_51 : decode cL_told 51 = .ok (.iload 4, 2) := by decide +kernel
theorem dL_told_53 : decode cL_told 53 = .ok (.irem, 1) := by decide +kernel
theorem dL_told_54 : decode cL_told 54 = .ok (.invokestatic 173, 3) := by decide +kernel
theorem dL_told_57 : decode cL_told 57 = .ok (.l2i, 1) := by decide +kernel
theorem dL_told_58 : decode cL_told 58 = .ok (.istore 5, 2) := by decide +kernel
theorem dL_told_60 : decode cL_told 60 = .ok (.iload_n 2, 1) := by decide +kernel
theorem dL_told_61 : decode cL_told 61 = .ok (.ifCond .eq 73, 3) := by decide +kernel
theorem dL_told_64 : decode cL_told 64 = .ok (.aload_n 0, 1) := by decide +kernel
theorem dL_told_65 : decode cL_told 65 = .ok (.iload 5, 2) := by decide +kernel
theorem dL_told_67 : decode cL_told 67 = .ok (.bipush 49, 2) := by decide +kernel
theorem dL_told_69 : decode cL_told 69 = .ok (.idiv, 1) := by decide +kernel
theorem dL_told_70 : decode cL_told 70 = .ok (.invokestatic 259, 3) := by decide +kernel
theorem dL_told_73 : decode cL_told 73 = .ok (.ifCond .eq 61, 3) := by decide +kernel
theorem dL_told_76 : decode cL_told 76 = .ok (.aload_n 0, 1) := by decide +kernel
theorem dL_told_77 : decode cL_told 77 = .ok (.iload 5, 2) := by decide +kernel
theorem dL_told_79 : decode cL_told 79 = .ok (.bipush 49, 2) := by decide +kernel
theorem dL_told_81 : decode cL_told 81 = .ok (.irem, 1) := by decide +kernel
theorem dL_told_82 : decode cL_told 82 = .ok (.invokestatic 259, 3) := by decide +kernel
theorem dL_told_85 : decode cL_told 85 = .ok (.ifCond .eq 49, 3) := by decide +kernel
theorem dL_told_88 : decode cL_told 88 = .ok (.iload_n 1, 1) := by decide +kernel
theorem dL_told_89 : decode cL_told 89 = .ok (.iconst 3, 1) := by decide +kernel
theorem dL_told_90 : decode cL_told 90 = .ok (.irem, 1) := by decide +kernel
theorem dL_told_91 : decode cL_told 91 = .ok (.ifCond .gt 39, 3) := by decide +kernel
theorem dL_told_94 : decode cL_told 94 = .ok (.aload_n 0, 1) := by decide +kernel
theorem dL_told_95 : decode cL_told 95 = .ok (.bipush 59, 2) := by decide +kernel
theorem dL_told_97 : decode cL_told 97 = .ok (.invokestatic 138, 3) := by decide +kernel
theorem dL_told_100 : decode cL_told 100 = .ok (.lconst 0, 1) := by decide +kernel
theorem dL_told_101 : decode cL_told 101 = .ok (.lcmp, 1) := by decide +kernel
theorem dL_told_102 : decode cL_told 102 = .ok (.ifCond .le 32, 3) := by decide +kernel
theorem dL_told_105 : decode cL_told 105 = .ok (.aload_n 0, 1) := by decide +kernel
theorem dL_told_106 : decode cL_told 106 = .ok (.iload_n 1, 1) := by decide +kernel
theorem dL_told_107 : decode cL_told 107 = .ok (.bipush 49, 2) := by decide +kernel
theorem dL_told_109 : decode cL_told 109 = .ok (.irem, 1) := by decide +kernel
theorem dL_told_110 : decode cL_told 110 = .ok (.invokestatic 259, 3) := by decide +kernel
theorem dL_told_113 : decode cL_told 113 = .ok (.ifCond .eq 21, 3) := by decide +kernel
theorem dL_told_116 : decode cL_told 116 = .ok (.aload_n 0, 1) := by decide +kernel
theorem dL_told_117 : decode cL_told 117 = .ok (.iload_n 1, 1) := by decide +kernel
theorem dL_told_118 : decode cL_told 118 = .ok (.bipush 49, 2) := by decide +kernel
theorem dL_told_120 : decode cL_told 120 = .ok (.idiv, 1) := by decide +kernel
theorem dL_told_121 : decode cL_told 121 = .ok (.bipush 49, 2) := by decide +kernel
theorem dL_told_123 : decode cL_told 123 = .ok (.irem, 1) := by decide +kernel
theorem dL_told_124 : decode cL_told 124 = .ok (.invokestatic 259, 3) := by decide +kernel
theorem dL_told_127 : decode cL_told 127 = .ok (.ifCond .eq 7, 3) := by decide +kernel
theorem dL_told_130 : decode cL_told 130 = .ok (.iconst 1, 1) := by decide +kernel
theorem dL_told_131 : decode cL_told 131 = .ok (.goto 4, 3) := by decide +kernel
theorem dL_told_134 : decode cL_told 134 = .ok (.iconst 0, 1) := by decide +kernel
theorem dL_told_135 : decode cL_told 135 = .ok (.istore_n 2, 1) := by decide +kernel
theorem dL_told_136 : decode cL_told 136 = .ok (.iload_n 2, 1) := by decide +kernel
theorem dL_told_137 : decode cL_told 137 = .ok (.ifCond .eq 10, 3) := by decide +kernel
theorem dL_told_140 : decode cL_told 140 = .ok (.aload_n 0, 1) := by decide +kernel
theorem dL_told_141 : decode cL_told 141 = .ok (.invokestatic 263, 3) := by decide +kernel
theorem dL_told_144 : decode cL_told 144 = .ok (.goto 6, 3) := by decide +kernel
theorem dL_told_147 : decode cL_told 147 = .ok (.ldc2_w 230, 3) := by decide +kernel
theorem dL_told_150 : decode cL_told 150 = .ok (.lreturn, 1) := by decide +kernel
theorem dL_act_0 : decode cL_act 0 = .ok (.aload_n 0, 1) := by decide +kernel
theorem dL_act_1 : decode cL_act 1 = .ok (.invokevirtual 124, 3) := by decide +kernel
theorem dL_act_4 : decode cL_act 4 = .ok (.istore_n 3, 1) := by decide +kernel
theorem dL_act_5 : decode cL_act 5 = .ok (.iload_n 3, 1) := by decide +kernel
theorem dL_act_6 : decode cL_act 6 = .ok (.iconst 1, 1) := by decide +kernel
theorem dL_act_7 : decode cL_act 7 = .ok (.if_icmp .ne 11, 3) := by decide +kernel
theorem dL_act_10 : decode cL_act 10 = .ok (.aload_n 0, 1) := by decide +kernel
theorem dL_act_11 : decode cL_act 11 = .ok (.invokestatic 181, 3) := by decide +kernel
theorem dL_act_14 : decode cL_act 14 = .ok (.l2i, 1) := by decide +kernel
theorem dL_act_15 : decode cL_act 15 = .ok (.goto 4, 3) := by decide +kernel
theorem dL_act_18 : decode cL_act 18 = .ok (.iconst 0, 1) := by decide +kernel
theorem dL_act_19 : decode cL_act 19 = .ok (.istore 4, 2) := by decide +kernel
theorem dL_act_21 : decode cL_act 21 = .ok (.aload_n 0, 1) := by decide +kernel
theorem dL_act_22 : decode cL_act 22 = .ok (.iload 4, 2) := by decide +kernel
theorem dL_act_24 : decode cL_act 24 = .ok (.invokestatic 158, 3) := by decide +kernel
theorem dL_act_27 : decode cL_act 27 = .ok (.l2i, 1) := by decide +kernel
theorem dL_act_28 : decode cL_act 28 = .ok (.istore 5, 2) := by decide +kernel
theorem dL_act_30 : decode cL_act 30 = .ok (.iload 5, 2) := by decide +kernel
theorem dL_act_32 : decode cL_act 32 = .ok (.ifCond .ne 7, 3) := by decide +kernel
theorem dL_act_35 : decode cL_act 35 = .ok (.iconst 0, 1) := by decide +kernel
theorem dL_act_36 : decode cL_act 36 = .ok (.goto 14, 3) := by decide +kernel
theorem dL_act_39 : decode cL_act 39 = .ok (.aload_n 0, 1) := by decide +kernel
theorem dL_act_40 : decode cL_act 40 = .ok (.iload 4, 2) := by decide +kernel
theorem dL_act_42 : decode cL_act 42 = .ok (.iload_n 2, 1) := by decide +kernel
theorem dL_act_43 : decode cL_act 43 = .ok (.iload 5, 2) := by decide +kernel
theorem dL_act_45 : decode cL_act 45 = .ok (.irem, 1) := by decide +kernel
theorem dL_act_46 : decode cL_act 46 = .ok (.invokestatic 173, 3) := by decide +kernel
theorem dL_act_49 : decode cL_act 49 = .ok (.l2i, 1) := by decide +kernel
theorem dL_act_50 : decode cL_act 50 = .ok (.istore 6, 2) := by decide +kernel
theorem dL_act_52 : decode cL_act 52 = .ok (.iload_n 2, 1) := by decide +kernel
theorem dL_act_53 : decode cL_act 53 = .ok (.bipush 49, 2) := by decide +kernel
theorem dL_act_55 : decode cL_act 55 = .ok (.idiv, 1) := by decide +kernel
theorem dL_act_56 : decode cL_act 56 = .ok (.istore 7, 2) := by decide +kernel
theorem dL_act_58 : decode cL_act 58 = .ok (.iload_n 3, 1) := by decide +kernel
theorem dL_act_59 : decode cL_act 59 = .ok (.ifCond .ne 58, 3) := by decide +kernel
theorem dL_act_62 : decode cL_act 62 = .ok (.iload_n 1, 1) := by decide +kernel
theorem dL_act_63 : decode cL_act 63 = .ok (.bipush 8, 2) := by decide +kernel
theorem dL_act_65 : decode cL_act 65 = .ok (.irem, 1) := by decide +kernel
theorem dL_act_66 : decode cL_act 66 = .ok (.bipush 6, 2) := by decide +kernel
theorem dL_act_68 : decode cL_act 68 = .ok (.if_icmp .ge 40, 3) := by decide +kernel
theorem dL_act_71 : decode cL_act 71 = .ok (.aload_n 0, 1) := by decide +kernel
theorem dL_act_72 : decode cL_act 72 = .ok (.iload_n 2, 1) := by decide +kernel
theorem dL_act_73 : decode cL_act 73 = .ok (.bipush 49, 2) := by decide +kernel
theorem dL_act_75 : decode cL_act 75 = .ok (.irem, 1) := by decide +kernel
theorem dL_act_76 : decode cL_act 76 = .ok (.bipush 7, 2) := by decide +kernel
theorem dL_act_78 : decode cL_act 78 = .ok (.idiv, 1) := by decide +kernel
theorem dL_act_79 : decode cL_act 79 = .ok (.iload_n 2, 1) := by decide +kernel
theorem dL_act_80 : decode cL_act 80 = .ok (.bipush 7, 2) := by decide +kernel
theorem dL_act_82 : decode cL_act 82 = .ok (.irem, 1) := by decide +kernel
theorem dL_act_83 : decode cL_act 83 = .ok (.aload_n 0, 1) := by decide +kernel
theorem dL_act_84 : decode cL_act 84 = .ok (.invokestatic 186, 3) := by decide +kernel
theorem dL_act_87 : decode cL_act 87 = .ok (.ldc2_w 25, 3) := by decide +kernel
theorem dL_act_90 : decode cL_act 90 = .ok (.lcmp, 1) := by decide +kernel
theorem dL_act_91 : decode cL_act 91 = .ok (.ifCond .ne 7, 3) := by decide +kernel
theorem dL_act_94 : decode cL_act 94 = .ok (.iconst 3, 1) := by decide +kernel
theorem dL_act_95 : decode cL_act 95 = .ok (.goto 7, 3) := by decide +kernel
theorem dL_act_98 : decode cL_act 98 = .ok (.iload 7, 2) := by decide +kernel
theorem dL_act_100 : decode cL_act 100 = .ok (.iconst 3, 1) := by decide +kernel
theorem dL_act_101 : decode cL_act 101 = .ok (.irem, 1) := by decide +kernel
theorem dL_act_102 : decode cL_act 102 = .ok (.invokestatic 127, 3) := by decide +kernel
theorem dL_act_105 : decode cL_act 105 = .ok (.goto 11, 3) := by decide +kernel
theorem dL_act_108 : decode cL_act 108 = .ok (.aload_n 0, 1) := by decide +kernel
theorem dL_act_109 : decode cL_act 109 = .ok (.iload 7, 2) := by decide +kernel
theorem dL_act_111 : decode cL_act 111 = .ok (.iconst 2, 1) := by decide +kernel
theorem dL_act_112 : decode cL_act 112 = .ok (.irem, 1) := by decide +kernel
theorem dL_act_113 : decode cL_act 113 = .ok (.invokestatic 132, 3) := by decide +kernel
theorem dL_act_116 : decode cL_act 116 = .ok (.lreturn, 1) := by decide +kernel
theorem dL_act_117 : decode cL_act 117 = .ok (.iload_n 1, 1) := by decide +kernel
theorem dL_act_118 : decode cL_act 118 = .ok (.bipush 24, 2) := by decide +kernel
theorem dL_act_120 : decode cL_act 120 = .ok (.irem, 1) := by decide +kernel
theorem dL_act_121 : decode cL_act 121 = .ok (.tableswitch 165 0 7 #[47, 76, 102, 102, 109, 109, 114, 145], 47) := by decide +kernel
theorem dL_act_168 : decode cL_act 168 = .ok (.iload 7, 2) := by decide +kernel
theorem dL_act_170 : decode cL_act 170 = .ok (.iconst 4, 1) := by decide +kernel
theorem dL_act_171 : decode cL_act 171 = .ok (.irem, 1) := by decide +kernel
theorem dL_act_172 : decode cL_act 172 = .ok (.ifCond .ne 11, 3) := by decide +kernel
theorem dL_act_175 : decode cL_act 175 = .ok (.aload_n 0, 1) := by decide +kernel
theorem dL_act_176 : decode cL_act 176 = .ok (.invokevirtual 247, 3) := by decide +kernel
theorem dL_act_179 : decode cL_act 179 = .ok (.i2l, 1) := by decide +kernel
theorem dL_act_180 : decode cL_act 180 = .ok (.goto 16, 3) := by decide +kernel
theorem dL_act_183 : decode cL_act 183 = .ok (.aload_n 0, 1) := by decide +kernel
theorem dL_act_184 : decode cL_act 184 = .ok (.iload_n 2, 1) := by decide +kernel
theorem dL_act_185 : decode cL_act 185 = .ok (.bipush 49, 2) := by decide +kernel
theorem dL_act_187 : decode cL_act 187 = .ok (.irem, 1) := by decide +kernel
theorem dL_act_188 : decode cL_act 188 = .ok (.iload 7, 2) := by decide +kernel
theorem dL_act_190 : decode cL_act 190 = .ok (.bipush 49, 2) := by decide +kernel
theorem dL_act_192 : decode cL_act 192 = .ok (.irem, 1) := by decide +kernel
theorem dL_act_193 : decode cL_act 193 = .ok (.invokestatic 135, 3) := by decide +kernel
theorem dL_act_196 : decode cL_act 196 = .ok (.lreturn, 1) := by decide +kernel
theorem dL_act_197 : decode cL_act 197 = .ok (.iload_n 3, 1) := by decide +kernel
theorem dL_act_198 : decode cL_act 198 = .ok (.iconst 1, 1) := by decide +kernel
theorem dL_act_199 : decode cL_act 199 = .ok (.if_icmp .ne 18, 3) := by decide +kernel
theorem dL_act_202 : decode cL_act 202 = .ok (.aload_n 0, 1) := by decide +kernel
theorem dL_act_203 : decode cL_act 203 = .ok (.invokevirtual 244, 3) := by decide +kernel
theorem dL_act_206 : decode cL_act 206 = .ok (.ifCond .eq 7, 3) := by decide +kernel
theorem dL_act_209 : decode cL_act 209 = .ok (.lconst 1, 1) := by decide +kernel
theorem dL_act_210 : decode cL_act 210 = .ok (.goto 12, 3) := by decide +kernel
theorem dL_act_213 : decode cL_act 213 = .ok (.lconst 0, 1) := by decide +kernel
theorem dL_act_214 : decode cL_act 214 = .ok (.goto 8, 3) := by decide +kernel
theorem dL_act_217 : decode cL_act 217 = .ok (.aload_n 0, 1) := by decide +kernel
theorem dL_act_218 : decode cL_act 218 = .ok (.invokevirtual 250, 3) := by decide +kernel
theorem dL_act_221 : decode cL_act 221 = .ok (.i2l, 1) := by decide +kernel
theorem dL_act_222 : decode cL_act 222 = .ok (.lreturn, 1) := by decide +kernel
theorem dL_act_223 : decode cL_act 223 = .ok (.aload_n 0, 1) := by decide +kernel
theorem dL_act_224 : decode cL_act 224 = .ok (.iload 7, 2) := by decide +kernel
theorem dL_act_226 : decode cL_act 226 = .ok (.invokestatic 265, 3) := by decide +kernel
theorem dL_act_229 : decode cL_act 229 = .ok (.lreturn, 1) := by decide +kernel
theorem dL_act_230 : decode cL_act 230 = .ok (.aload_n 0, 1) := by decide +kernel
theorem dL_act_231 : decode cL_act 231 = .ok (.invokestatic 238, 3) := by decide +kernel
theorem dL_act_234 : decode cL_act 234 = .ok (.lreturn, 1) := by decide +kernel
theorem dL_act_235 : decode cL_act 235 = .ok (.iload 7, 2) := by decide +kernel
theorem dL_act_237 : decode cL_act 237 = .ok (.iconst 2, 1) := by decide +kernel
theorem dL_act_238 : decode cL_act 238 = .ok (.irem, 1) := by decide +kernel
theorem dL_act_239 : decode cL_act 239 = .ok (.ifCond .ne 16, 3) := by decide +kernel
theorem dL_act_242 : decode cL_act 242 = .ok (.aload_n 0, 1) := by decide +kernel
theorem dL_act_243 : decode cL_act 243 = .ok (.iload 7, 2) := by decide +kernel
theorem dL_act_245 : decode cL_act 245 = .ok (.iconst 2, 1) := by decide +kernel
theorem dL_act_246 : decode cL_act 246 = .ok (.idiv, 1) := by decide +kernel
theorem dL_act_247 : decode cL_act 247 = .ok (.iconst 1, 1) := by decide +kernel
theorem dL_act_248 : decode cL_act 248 = .ok (.iand, 1) := by decide +kernel
theorem dL_act_249 : decode cL_act 249 = .ok (.invokestatic 140, 3) := by decide +kernel
theorem dL_act_252 : decode cL_act 252 = .ok (.goto 13, 3) := by decide +kernel
theorem dL_act_255 : decode cL_act 255 = .ok (.aload_n 0, 1) := by decide +kernel
theorem dL_act_256 : decode cL_act 256 = .ok (.iload 7, 2) := by decide +kernel
theorem dL_act_258 : decode cL_act 258 = .ok (.iconst 2, 1) := by decide +kernel
theorem dL_act_259 : decode cL_act 259 = .ok (.idiv, 1) := by decide +kernel
theorem dL_act_260 : decode cL_act 260 = .ok (.iconst 1, 1) := by decide +kernel
theorem dL_act_261 : decode cL_act 261 = .ok (.iand, 1) := by decide +kernel
theorem dL_act_262 : decode cL_act 262 = .ok (.invokestatic 142, 3) := by decide +kernel
theorem dL_act_265 : decode cL_act 265 = .ok (.lreturn, 1) := by decide +kernel
theorem dL_act_266 : decode cL_act 266 = .ok (.iload 5, 2) := by decide +kernel
theorem dL_act_268 : decode cL_act 268 = .ok (.ifCond .ne 11, 3) := by decide +kernel
theorem dL_act_271 : decode cL_act 271 = .ok (.aload_n 0, 1) := by decide +kernel
theorem dL_act_272 : decode cL_act 272 = .ok (.invokevirtual 250, 3) := by decide +kernel
theorem dL_act_275 : decode cL_act 275 = .ok (.i2l, 1) := by decide +kernel
theorem dL_act_276 : decode cL_act 276 = .ok (.goto 9, 3) := by decide +kernel
theorem dL_act_279 : decode cL_act 279 = .ok (.aload_n 0, 1) := by decide +kernel
theorem dL_act_280 : decode cL_act 280 = .ok (.iload 4, 2) := by decide +kernel
theorem dL_act_282 : decode cL_act 282 = .ok (.invokestatic 175, 3) := by decide +kernel
theorem dL_act_285 : decode cL_act 285 = .ok (.lreturn, 1) := by decide +kernel
theorem dL_act_286 : decode cL_act 286 = .ok (.iload 5, 2) := by decide +kernel
theorem dL_act_288 : decode cL_act 288 = .ok (.ifCond .eq 8, 3) := by decide +kernel
theorem dL_act_291 : decode cL_act 291 = .ok (.iload_n 3, 1) := by decide +kernel
theorem dL_act_292 : decode cL_act 292 = .ok (.iconst 1, 1) := by decide +kernel
theorem dL_act_293 : decode cL_act 293 = .ok (.if_icmp .le 26, 3) := by decide +kernel
theorem dL_act_296 : decode cL_act 296 = .ok (.iload 7, 2) := by decide +kernel
theorem dL_act_298 : decode cL_act 298 = .ok (.iconst 3, 1) := by decide +kernel
theorem dL_act_299 : decode cL_act 299 = .ok (.irem, 1) := by decide +kernel
theorem dL_act_300 : decode cL_act 300 = .ok (.ifCond .ne 11, 3) := by decide +kernel
theorem dL_act_303 : decode cL_act 303 = .ok (.aload_n 0, 1) := by decide +kernel
theorem dL_act_304 : decode cL_act 304 = .ok (.invokevirtual 250, 3) := by decide +kernel
theorem dL_act_307 : decode cL_act 307 = .ok (.i2l, 1) := by decide +kernel
theorem dL_act_308 : decode cL_act 308 = .ok (.goto 25, 3) := by decide +kernel
theorem dL_act_311 : decode cL_act 311 = .ok (.aload_n 0, 1) := by decide +kernel
theorem dL_act_312 : decode cL_act 312 = .ok (.invokevirtual 247, 3) := by decide +kernel
theorem dL_act_315 : decode cL_act 315 = .ok (.i2l, 1) := by decide +kernel
theorem dL_act_316 : decode cL_act 316 = .ok (.goto 17, 3) := by decide +kernel
theorem dL_act_319 : decode cL_act 319 = .ok (.aload_n 0, 1) := by decide +kernel
theorem dL_act_320 : decode cL_act 320 = .ok (.iload 6, 2) := by decide +kernel
theorem dL_act_322 : decode cL_act 322 = .ok (.bipush 49, 2) := by decide +kernel
theorem dL_act_324 : decode cL_act 324 = .ok (.idiv, 1) := by decide +kernel
theorem dL_act_325 : decode cL_act 325 = .ok (.iload 6, 2) := by decide +kernel
theorem dL_act_327 : decode cL_act 327 = .ok (.bipush 49, 2) := by decide +kernel
theorem dL_act_329 : decode cL_act 329 = .ok (.irem, 1) := by decide +kernel
theorem dL_act_330 : decode cL_act 330 = .ok (.invokestatic 135, 3) := by decide +kernel
theorem dL_act_333 : decode cL_act 333 = .ok (.lreturn, 1) := by decide +kernel
theorem dL_law_0 : decode cL_law 0 = .ok (.new 10, 3) := by decide +kernel
theorem dL_law_3 : decode cL_law 3 = .ok (.dup, 1) := by decide +kernel
theorem dL_law_4 : decode cL_law 4 = .ok (.invokespecial 268, 3) := by decide +kernel
theorem dL_law_7 : decode cL_law 7 = .ok (.astore_n 1, 1) := by decide +kernel
theorem dL_law_8 : decode cL_law 8 = .ok (.new 10, 3) := by decide +kernel
theorem dL_law_11 : decode cL_law 11 = .ok (.dup, 1) := by decide +kernel
theorem dL_law_12 : decode cL_law 12 = .ok (.invokespecial 268, 3) := by decide +kernel
theorem dL_law_15 : decode cL_law 15 = .ok (.astore_n 2, 1) := by decide +kernel
theorem dL_law_16 : decode cL_law 16 = .ok (.aload_n 1, 1) := by decide +kernel
theorem dL_law_17 : decode cL_law 17 = .ok (.aload_n 2, 1) := by decide +kernel
theorem dL_law_18 : decode cL_law 18 = .ok (.invokestatic 269, 3) := by decide +kernel
theorem dL_law_21 : decode cL_law 21 = .ok (.ifCond .eq 23, 3) := by decide +kernel
theorem dL_law_24 : decode cL_law 24 = .ok (.aload_n 1, 1) := by decide +kernel
theorem dL_law_25 : decode cL_law 25 = .ok (.invokestatic 273, 3) := by decide +kernel
theorem dL_law_28 : decode cL_law 28 = .ok (.ifCond .eq 16, 3) := by decide +kernel
theorem dL_law_31 : decode cL_law 31 = .ok (.aload_n 1, 1) := by decide +kernel
theorem dL_law_32 : decode cL_law 32 = .ok (.bipush 7, 2) := by decide +kernel
theorem dL_law_34 : decode cL_law 34 = .ok (.invokestatic 277, 3) := by decide +kernel
theorem dL_law_37 : decode cL_law 37 = .ok (.ifCond .eq 7, 3) := by decide +kernel
theorem dL_law_40 : decode cL_law 40 = .ok (.iconst 1, 1) := by decide +kernel
theorem dL_law_41 : decode cL_law 41 = .ok (.goto 4, 3) := by decide +kernel
theorem dL_law_44 : decode cL_law 44 = .ok (.iconst 0, 1) := by decide +kernel
theorem dL_law_45 : decode cL_law 45 = .ok (.istore_n 3, 1) := by decide +kernel
theorem dL_law_46 : decode cL_law 46 = .ok (.iconst 0, 1) := by decide +kernel
theorem dL_law_47 : decode cL_law 47 = .ok (.istore 4, 2) := by decide +kernel
theorem dL_law_49 : decode cL_law 49 = .ok (.iload 4, 2) := by decide +kernel
theorem dL_law_51 : decode cL_law 51 = .ok (.bipush 40, 2) := by decide +kernel
theorem dL_law_53 : decode cL_law 53 = .ok (.if_icmp .ge 201, 3) := by decide +kernel
theorem dL_law_56 : decode cL_law 56 = .ok (.iload_n 3, 1) := by decide +kernel
theorem dL_law_57 : decode cL_law 57 = .ok (.ifCond .eq 197, 3) := by decide +kernel
theorem dL_law_60 : decode cL_law 60 = .ok (.aload_n 0, 1) := by decide +kernel
theorem dL_law_61 : decode cL_law 61 = .ok (.iconst 2, 1) := by decide +kernel
theorem dL_law_62 : decode cL_law 62 = .ok (.iload 4, 2) := by decide +kernel
theorem dL_law_64 : decode cL_law 64 = .ok (.imul, 1) := by decide +kernel
theorem dL_law_65 : decode cL_law 65 = .ok (.invokestatic 280, 3) := by decide +kernel
theorem dL_law_68 : decode cL_law 68 = .ok (.istore 5, 2) := by decide +kernel
theorem dL_law_70 : decode cL_law 70 = .ok (.aload_n 0, 1) := by decide +kernel
theorem dL_law_71 : decode cL_law 71 = .ok (.iconst 2, 1) := by decide +kernel
theorem dL_law_72 : decode cL_law 72 = .ok (.iload 4, 2) := by decide +kernel
theorem dL_law_74 : decode cL_law 74 = .ok (.imul, 1) := by decide +kernel
theorem dL_law_75 : decode cL_law 75 = .ok (.iconst 1, 1) := by decide +kernel
theorem dL_law_76 : decode cL_law 76 = .ok (.iadd, 1) := by decide +kernel
theorem dL_law_77 : decode cL_law 77 = .ok (.invokestatic 280, 3) := by decide +kernel
theorem dL_law_80 : decode cL_law 80 = .ok (.istore 6, 2) := by decide +kernel
theorem dL_law_82 : decode cL_law 82 = .ok (.aload_n 1, 1) := by decide +kernel
theorem dL_law_83 : decode cL_law 83 = .ok (.iload 5, 2) := by decide +kernel
theorem dL_law_85 : decode cL_law 85 = .ok (.iload 6, 2) := by decide +kernel
theorem dL_law_87 : decode cL_law 87 = .ok (.invokestatic 284, 3) := by decide +kernel
theorem dL_law_90 : decode cL_law 90 = .ok (.aload_n 2, 1) := by decide +kernel
theorem dL_law_91 : decode cL_law 91 = .ok (.iload 5, 2) := by decide +kernel
theorem dL_law_93 : decode cL_law 93 = .ok (.iload 6, 2) := by decide +kernel
theorem dL_law_95 : decode cL_law 95 = .ok (.invokestatic 284, 3) := by decide +kernel
theorem dL_law_98 : decode cL_law 98 = .ok (.lcmp, 1) := by decide +kernel
theorem dL_law_99 : decode cL_law 99 = .ok (.ifCond .ne 7, 3) := by decide +kernel
theorem dL_law_102 : decode cL_law 102 = .ok (.iconst 1, 1) := by decide +kernel
theorem dL_law_103 : decode cL_law 103 = .ok (.goto 4, 3) := by decide +kernel
theorem dL_law_106 : decode cL_law 106 = .ok (.iconst 0, 1) := by decide +kernel
theorem dL_law_107 : decode cL_law 107 = .ok (.istore_n 3, 1) := by decide +kernel
theorem dL_law_108 : decode cL_law 108 = .ok (.iload 4, 2) := by decide +kernel
theorem dL_law_110 : decode cL_law 110 = .ok (.bipush 8, 2) := by decide +kernel
theorem dL_law_112 : decode cL_law 112 = .ok (.irem, 1) := by decide +kernel
theorem dL_law_113 : decode cL_law 113 = .ok (.iconst 3, 1) := by decide +kernel
theorem dL_law_114 : decode cL_law 114 = .ok (.if_icmp .ne 29, 3) := by decide +kernel
theorem dL_law_117 : decode cL_law 117 = .ok (.iload_n 3, 1) := by decide +kernel
theorem dL_law_118 : decode cL_law 118 = .ok (.ifCond .eq 23, 3) := by decide +kernel
theorem dL_law_121 : decode cL_law 121 = .ok (.aload_n 2, 1) := by decide +kernel
theorem dL_law_122 : decode cL_law 122 = .ok (.invokestatic 273, 3) := by decide +kernel
theorem dL_law_125 : decode cL_law 125 = .ok (.ifCond .eq 16, 3) := by decide +kernel
theorem dL_law_128 : decode cL_law 128 = .ok (.aload_n 2, 1) := by decide +kernel
theorem dL_law_129 : decode cL_law 129 = .ok (.iload 6, 2) := by decide +kernel
theorem dL_law_131 : decode cL_law 131 = .ok (.invokestatic 277, 3) := by decide +kernel
theorem dL_law_134 : decode cL_law 134 = .ok (.ifCond .eq 7, 3) := by decide +kernel
theorem dL_law_137 : decode cL_law 137 = .ok (.iconst 1, 1) := by decide +kernel
theorem dL_law_138 : decode cL_law 138 = .ok (.goto 4, 3) := by decide +kernel
theorem dL_law_141 : decode cL_law 141 = .ok (.iconst 0, 1) := by decide +kernel
theorem dL_law_142 : decode cL_law 142 = .ok (.istore_n 3, 1) := by decide +kernel
theorem dL_law_143 : decode cL_law 143 = .ok (.iload 4, 2) := by decide +kernel
theorem dL_law_145 : decode cL_law 145 = .ok (.bipush 13, 2) := by decide +kernel
theorem dL_law_147 : decode cL_law 147 = .ok (.irem, 1) := by decide +kernel
theorem dL_law_148 : decode cL_law 148 = .ok (.bipush 12, 2) := by decide +kernel
theorem dL_law_150 : decode cL_law 150 = .ok (.if_icmp .ne 72, 3) := by decide +kernel
theorem dL_law_153 : decode cL_law 153 = .ok (.iload_n 3, 1) := by decide +kernel
theorem dL_law_154 : decode cL_law 154 = .ok (.ifCond .eq 26, 3) := by decide +kernel
theorem dL_law_157 : decode cL_law 157 = .ok (.aload_n 2, 1) := by decide +kernel
theorem dL_law_158 : decode cL_law 158 = .ok (.iload 6, 2) := by decide +kernel
theorem dL_law_160 : decode cL_law 160 = .ok (.invokestatic 287, 3) := by decide +kernel
theorem dL_law_163 : decode cL_law 163 = .ok (.ifCond .eq 17, 3) := by decide +kernel
theorem dL_law_166 : decode cL_law 166 = .ok (.aload_n 1, 1) := by decide +kernel
theorem dL_law_167 : decode cL_law 167 = .ok (.iconst 1, 1) := by decide +kernel
theorem dL_law_168 : decode cL_law 168 = .ok (.invokestatic 140, 3) := by decide +kernel
theorem dL_law_171 : decode cL_law 171 = .ok (.lconst 0, 1) := by decide +kernel
theorem dL_law_172 : decode cL_law 172 = .ok (.lcmp, 1) := by decide +kernel
theorem dL_law_173 : decode cL_law 173 = .ok (.ifCond .ne 7, 3) := by decide +kernel
theorem dL_law_176 : decode cL_law 176 = .ok (.iconst 1, 1) := by decide +kernel
theorem dL_law_177 : decode cL_law 177 = .ok (.goto 4, 3) := by decide +kernel
theorem dL_law_180 : decode cL_law 180 = .ok (.iconst 0, 1) := by decide +kernel
theorem dL_law_181 : decode cL_law 181 = .ok (.istore_n 3, 1) := by decide +kernel
theorem dL_law_182 : decode cL_law 182 = .ok (.iconst 0, 1) := by decide +kernel
theorem dL_law_183 : decode cL_law 183 = .ok (.istore 7, 2) := by decide +kernel
theorem dL_law_185 : decode cL_law 185 = .ok (.iload 7, 2) := by decide +kernel
theorem dL_law_187 : decode cL_law 187 = .ok (.bipush 6, 2) := by decide +kernel
theorem dL_law_189 : decode cL_law 189 = .ok (.if_icmp .ge 33, 3) := by decide +kernel
theorem dL_law_192 : decode cL_law 192 = .ok (.iload_n 3, 1) := by decide +kernel
theorem dL_law_193 : decode cL_law 193 = .ok (.ifCond .eq 29, 3) := by decide +kernel
theorem dL_law_196 : decode cL_law 196 = .ok (.aload_n 1, 1) := by decide +kernel
theorem dL_law_197 : decode cL_law 197 = .ok (.iconst 1, 1) := by decide +kernel
theorem dL_law_198 : decode cL_law 198 = .ok (.invokestatic 142, 3) := by decide +kernel
theorem dL_law_201 : decode cL_law 201 = .ok (.aload_n 2, 1) := by decide +kernel
theorem dL_law_202 : decode cL_law 202 = .ok (.iconst 1, 1) := by decide +kernel
theorem dL_law_203 : decode cL_law 203 = .ok (.invokestatic 142, 3) := by decide +kernel
theorem dL_law_206 : decode cL_law 206 = .ok (.lcmp, 1) := by decide +kernel
theorem dL_law_207 : decode cL_law 207 = .ok (.ifCond .ne 7, 3) := by decide +kernel
theorem dL_law_210 : decode cL_law 210 = .ok (.iconst 1, 1) := by decide +kernel
theorem dL_law_211 : decode cL_law 211 = .ok (.goto 4, 3) := by decide +kernel
theorem dL_law_214 : decode cL_law 214 = .ok (.iconst 0, 1) := by decide +kernel
theorem dL_law_215 : decode cL_law 215 = .ok (.istore_n 3, 1) := by decide +kernel
theorem dL_law_216 : decode cL_law 216 = .ok (.iinc 7 1, 3) := by decide +kernel
theorem dL_law_219 : decode cL_law 219 = .ok (.goto (-34), 3) := by decide +kernel
theorem dL_law_222 : decode cL_law 222 = .ok (.iload_n 3, 1) := by decide +kernel
theorem dL_law_223 : decode cL_law 223 = .ok (.ifCond .eq 23, 3) := by decide +kernel
theorem dL_law_226 : decode cL_law 226 = .ok (.iload 4, 2) := by decide +kernel
theorem dL_law_228 : decode cL_law 228 = .ok (.bipush 10, 2) := by decide +kernel
theorem dL_law_230 : decode cL_law 230 = .ok (.irem, 1) := by decide +kernel
theorem dL_law_231 : decode cL_law 231 = .ok (.ifCond .gt 11, 3) := by decide +kernel
theorem dL_law_234 : decode cL_law 234 = .ok (.aload_n 1, 1) := by decide +kernel
theorem dL_law_235 : decode cL_law 235 = .ok (.aload_n 2, 1) := by decide +kernel
theorem dL_law_236 : decode cL_law 236 = .ok (.invokestatic 269, 3) := by decide +kernel
theorem dL_law_239 : decode cL_law 239 = .ok (.ifCond .eq 7, 3) := by decide +kernel
theorem dL_law_242 : decode cL_law 242 = .ok (.iconst 1, 1) := by decide +kernel
theorem dL_law_243 : decode cL_law 243 = .ok (.goto 4, 3) := by decide +kernel
theorem dL_law_246 : decode cL_law 246 = .ok (.iconst 0, 1) := by decide +kernel
theorem dL_law_247 : decode cL_law 247 = .ok (.istore_n 3, 1) := by decide +kernel
theorem dL_law_248 : decode cL_law 248 = .ok (.iinc 4 1, 3) := by decide +kernel
theorem dL_law_251 : decode cL_law 251 = .ok (.goto (-202), 3) := by decide +kernel
theorem dL_law_254 : decode cL_law 254 = .ok (.iload_n 3, 1) := by decide +kernel
theorem dL_law_255 : decode cL_law 255 = .ok (.ifCond .eq 15, 3) := by decide +kernel
theorem dL_law_258 : decode cL_law 258 = .ok (.aload_n 1, 1) := by decide +kernel
theorem dL_law_259 : decode cL_law 259 = .ok (.aload_n 2, 1) := by decide +kernel
theorem dL_law_260 : decode cL_law 260 = .ok (.invokestatic 269, 3) := by decide +kernel
theorem dL_law_263 : decode cL_law 263 = .ok (.ifCond .eq 7, 3) := by decide +kernel
theorem dL_law_266 : decode cL_law 266 = .ok (.iconst 1, 1) := by decide +kernel
theorem dL_law_267 : decode cL_law 267 = .ok (.goto 4, 3) := by decide +kernel
theorem dL_law_270 : decode cL_law 270 = .ok (.iconst 0, 1) := by decide +kernel
theorem dL_law_271 : decode cL_law 271 = .ok (.ireturn, 1) := by decide +kernel
