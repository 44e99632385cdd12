/-! the rows of code, one by one -/
theorem f198_197 : q_fetch 198 197 = some (.aload_n 0, 1, 0) := by decide +kernel
theorem f198_198 : q_fetch 198 198 = some (.getfield 135, 3, 1257) := by decide +kernel
theorem f198_201 : q_fetch 198 201 = some (.iload_n 2, 1, 0) := by decide +kernel
theorem f198_202 : q_fetch 198 202 = some (.aload_n 0, 1, 0) := by decide +kernel
theorem f198_203 : q_fetch 198 203 = some (.getfield 35, 3, 1173) := by decide +kernel
theorem f198_206 : q_fetch 198 206 = some (.iload 8, 2, 0) := by decide +kernel
theorem f198_208 : q_fetch 198 208 = some (.iaload, 1, 0) := by decide +kernel
theorem f198_209 : q_fetch 198 209 = some (.iadd, 1, 0) := by decide +kernel
theorem f198_210 : q_fetch 198 210 = some (.aload_n 0, 1, 0) := by decide +kernel
theorem f198_211 : q_fetch 198 211 = some (.getfield 135, 3, 1257) := by decide +kernel
theorem f198_214 : q_fetch 198 214 = some (.iload 8, 2, 0) := by decide +kernel
theorem f198_216 : q_fetch 198 216 = some (.iaload, 1, 0) := by decide +kernel
theorem f198_217 : q_fetch 198 217 = some (.aload_n 0, 1, 0) := by decide +kernel
theorem f198_218 : q_fetch 198 218 = some (.getfield 29, 3, 1169) := by decide +kernel
theorem f198_221 : q_fetch 198 221 = some (.iload 8, 2, 0) := by decide +kernel
theorem f198_223 : q_fetch 198 223 = some (.iaload, 1, 0) := by decide +kernel
theorem f198_224 : q_fetch 198 224 = some (.sipush 204, 3, 0) := by decide +kernel
theorem f198_227 : q_fetch 198 227 = some (.if_icmp .ne (20), 3, 247) := by decide +kernel
theorem f198_230 : q_fetch 198 230 = some (.aload_n 0, 1, 0) := by decide +kernel
theorem f198_231 : q_fetch 198 231 = some (.getfield 132, 3, 1255) := by decide +kernel
theorem f198_234 : q_fetch 198 234 = some (.iload_n 2, 1, 0) := by decide +kernel
theorem f198_235 : q_fetch 198 235 = some (.aload_n 0, 1, 0) := by decide +kernel
theorem f198_236 : q_fetch 198 236 = some (.getfield 32, 3, 1171) := by decide +kernel
theorem f198_239 : q_fetch 198 239 = some (.iload 8, 2, 0) := by decide +kernel
theorem f198_241 : q_fetch 198 241 = some (.iaload, 1, 0) := by decide +kernel
theorem f198_242 : q_fetch 198 242 = some (.iadd, 1, 0) := by decide +kernel
theorem f198_243 : q_fetch 198 243 = some (.iaload, 1, 0) := by decide +kernel
theorem f198_244 : q_fetch 198 244 = some (.goto 4, 3, 248) := by decide +kernel
theorem f198_247 : q_fetch 198 247 = some (.iconst 0, 1, 0) := by decide +kernel
theorem f198_248 : q_fetch 198 248 = some (.ior, 1, 0) := by decide +kernel
theorem f198_249 : q_fetch 198 249 = some (.iastore, 1, 0) := by decide +kernel
theorem f198_250 : q_fetch 198 250 = some (.iinc 7 (-1), 3, 0) := by decide +kernel
theorem f198_253 : q_fetch 198 253 = some (.goto (-112), 3, 141) := by decide +kernel
theorem f198_256 : q_fetch 198 256 = some (.iload_n 3, 1, 0) := by decide +kernel
theorem f198_257 : q_fetch 198 257 = some (.istore 7, 2, 0) := by decide +kernel
theorem f198_259 : q_fetch 198 259 = some (.iload 7, 2, 0) := by decide +kernel
theorem f198_261 : q_fetch 198 261 = some (.iload 6, 2, 0) := by decide +kernel
theorem f198_263 : q_fetch 198 263 = some (.if_icmp .gt (42), 3, 305) := by decide +kernel
theorem f198_266 : q_fetch 198 266 = some (.aload_n 0, 1, 0) := by decide +kernel
theorem f198_267 : q_fetch 198 267 = some (.iload_n 1, 1, 0) := by decide +kernel
theorem f198_268 : q_fetch 198 268 = some (.iload_n 2, 1, 0) := by decide +kernel
theorem f198_269 : q_fetch 198 269 = some (.iload_n 2, 1, 0) := by decide +kernel
theorem f198_270 : q_fetch 198 270 = some (.iload 7, 2, 0) := by decide +kernel
theorem f198_272 : q_fetch 198 272 = some (.iadd, 1, 0) := by decide +kernel
theorem f198_273 : q_fetch 198 273 = some (.invokevirtual 352, 3, 200) := by decide +kernel
theorem f198_276 : q_fetch 198 276 = some (.ifCond .ne (23), 3, 299) := by decide +kernel
theorem f198_279 : q_fetch 198 279 = some (.aload_n 0, 1, 0) := by decide +kernel
theorem f198_280 : q_fetch 198 280 = some (.getfield 23, 3, 1165) := by decide +kernel
theorem f198_283 : q_fetch 198 283 = some (.bipush 101, 2, 0) := by decide +kernel
theorem f198_285 : q_fetch 198 285 = some (.iload_n 1, 1, 0) := by decide +kernel
theorem f198_286 : q_fetch 198 286 = some (.imul, 1, 0) := by decide +kernel
theorem f198_287 : q_fetch 198 287 = some (.aload_n 0, 1, 0) := by decide +kernel
theorem f198_288 : q_fetch 198 288 = some (.getfield 41, 3, 1177) := by decide +kernel
theorem f198_291 : q_fetch 198 291 = some (.iload_n 2, 1, 0) := by decide +kernel
theorem f198_292 : q_fetch 198 292 = some (.iload 7, 2, 0) := by decide +kernel
theorem f198_294 : q_fetch 198 294 = some (.iadd, 1, 0) := by decide +kernel
theorem f198_295 : q_fetch 198 295 = some (.iaload, 1, 0) := by decide +kernel
theorem f198_296 : q_fetch 198 296 = some (.iadd, 1, 0) := by decide +kernel
theorem f198_297 : q_fetch 198 297 = some (.iaload, 1, 0) := by decide +kernel
theorem f198_298 : q_fetch 198 298 = some (.ireturn, 1, 0) := by decide +kernel
theorem f198_299 : q_fetch 198 299 = some (.iinc 7 1, 3, 0) := by decide +kernel
theorem f198_302 : q_fetch 198 302 = some (.goto (-43), 3, 259) := by decide +kernel
theorem f198_305 : q_fetch 198 305 = some (.aload_n 0, 1, 0) := by decide +kernel
theorem f198_306 : q_fetch 198 306 = some (.getfield 126, 3, 1251) := by decide +kernel
theorem f198_309 : q_fetch 198 309 = some (.iload_n 2, 1, 0) := by decide +kernel
theorem f198_310 : q_fetch 198 310 = some (.iload 6, 2, 0) := by decide +kernel
theorem f198_312 : q_fetch 198 312 = some (.iadd, 1, 0) := by decide +kernel
theorem f198_313 : q_fetch 198 313 = some (.iaload, 1, 0) := by decide +kernel
theorem f198_314 : q_fetch 198 314 = some (.iconst 2, 1, 0) := by decide +kernel
theorem f198_315 : q_fetch 198 315 = some (.if_icmp .eq (21), 3, 336) := by decide +kernel
theorem f198_318 : q_fetch 198 318 = some (.aload_n 0, 1, 0) := by decide +kernel
theorem f198_319 : q_fetch 198 319 = some (.getfield 23, 3, 1165) := by decide +kernel
theorem f198_322 : q_fetch 198 322 = some (.bipush 101, 2, 0) := by decide +kernel
theorem f198_324 : q_fetch 198 324 = some (.iload_n 1, 1, 0) := by decide +kernel
theorem f198_325 : q_fetch 198 325 = some (.imul, 1, 0) := by decide +kernel
theorem f198_326 : q_fetch 198 326 = some (.aload_n 0, 1, 0) := by decide +kernel
theorem f198_327 : q_fetch 198 327 = some (.getfield 66, 3, 1193) := by decide +kernel
theorem f198_330 : q_fetch 198 330 = some (.iload 5, 2, 0) := by decide +kernel
theorem f198_332 : q_fetch 198 332 = some (.iaload, 1, 0) := by decide +kernel
theorem f198_333 : q_fetch 198 333 = some (.iadd, 1, 0) := by decide +kernel
theorem f198_334 : q_fetch 198 334 = some (.iaload, 1, 0) := by decide +kernel
theorem f198_335 : q_fetch 198 335 = some (.ireturn, 1, 0) := by decide +kernel
theorem f198_336 : q_fetch 198 336 = some (.aload_n 0, 1, 0) := by decide +kernel
theorem f198_337 : q_fetch 198 337 = some (.getfield 17, 3, 1161) := by decide +kernel
theorem f198_340 : q_fetch 198 340 = some (.bipush 101, 2, 0) := by decide +kernel
theorem f198_342 : q_fetch 198 342 = some (.iload_n 1, 1, 0) := by decide +kernel
theorem f198_343 : q_fetch 198 343 = some (.imul, 1, 0) := by decide +kernel
theorem f198_344 : q_fetch 198 344 = some (.aload_n 0, 1, 0) := by decide +kernel
theorem f198_345 : q_fetch 198 345 = some (.getfield 66, 3, 1193) := by decide +kernel
theorem f198_348 : q_fetch 198 348 = some (.iload 5, 2, 0) := by decide +kernel
theorem f198_350 : q_fetch 198 350 = some (.iaload, 1, 0) := by decide +kernel
theorem f198_351 : q_fetch 198 351 = some (.iadd, 1, 0) := by decide +kernel
theorem f198_352 : q_fetch 198 352 = some (.iaload, 1, 0) := by decide +kernel
theorem f198_353 : q_fetch 198 353 = some (.sipush 302, 3, 0) := by decide +kernel
theorem f198_356 : q_fetch 198 356 = some (.if_icmp .ne (17), 3, 373) := by decide +kernel
theorem f198_359 : q_fetch 198 359 = some (.iload 4, 2, 0) := by decide +kernel
theorem f198_361 : q_fetch 198 361 = some (.aload_n 0, 1, 0) := by decide +kernel
theorem f198_362 : q_fetch 198 362 = some (.getfield 132, 3, 1255) := by decide +kernel
theorem f198_365 : q_fetch 198 365 = some (.iload_n 2, 1, 0) := by decide +kernel
theorem f198_366 : q_fetch 198 366 = some (.iload 6, 2, 0) := by decide +kernel
theorem f198_368 : q_fetch 198 368 = some (.iadd, 1, 0) := by decide +kernel
theorem f198_369 : q_fetch 198 369 = some (.iaload, 1, 0) := by decide +kernel
theorem f198_370 : q_fetch 198 370 = some (.ior, 1, 0) := by decide +kernel
theorem f198_371 : q_fetch 198 371 = some (.istore 4, 2, 0) := by decide +kernel
theorem f198_373 : q_fetch 198 373 = some (.iload 6, 2, 0) := by decide +kernel
theorem f198_375 : q_fetch 198 375 = some (.iconst 1, 1, 0) := by decide +kernel
theorem f198_376 : q_fetch 198 376 = some (.iadd, 1, 0) := by decide +kernel
theorem f198_377 : q_fetch 198 377 = some (.istore_n 3, 1, 0) := by decide +kernel
theorem f198_378 : q_fetch 198 378 = some (.iinc 5 1, 3, 0) := by decide +kernel
theorem f198_381 : q_fetch 198 381 = some (.goto (-330), 3, 51) := by decide +kernel
theorem f198_384 : q_fetch 198 384 = some (.bipush (-2), 2, 0) := by decide +kernel
theorem f198_386 : q_fetch 198 386 = some (.ireturn, 1, 0) := by decide +kernel
theorem f199_0 : q_fetch 199 0 = some (.aload_n 0, 1, 0) := by decide +kernel
theorem f199_1 : q_fetch 199 1 = some (.getfield 29, 3, 1169) := by decide +kernel
theorem f199_4 : q_fetch 199 4 = some (.iload_n 2, 1, 0) := by decide +kernel
theorem f199_5 : q_fetch 199 5 = some (.iaload, 1, 0) := by decide +kernel
theorem f199_6 : q_fetch 199 6 = some (.istore_n 3, 1, 0) := by decide +kernel
theorem f199_7 : q_fetch 199 7 = some (.iload_n 1, 1, 0) := by decide +kernel
theorem f199_8 : q_fetch 199 8 = some (.aload_n 0, 1, 0) := by decide +kernel
theorem f199_9 : q_fetch 199 9 = some (.getfield 32, 3, 1171) := by decide +kernel
theorem f199_12 : q_fetch 199 12 = some (.iload_n 2, 1, 0) := by decide +kernel
theorem f199_13 : q_fetch 199 13 = some (.iaload, 1, 0) := by decide +kernel
theorem f199_14 : q_fetch 199 14 = some (.iadd, 1, 0) := by decide +kernel
theorem f199_15 : q_fetch 199 15 = some (.istore 4, 2, 0) := by decide +kernel
theorem f199_17 : q_fetch 199 17 = some (.iload_n 1, 1, 0) := by decide +kernel
theorem f199_18 : q_fetch 199 18 = some (.aload_n 0, 1, 0) := by decide +kernel
theorem f199_19 : q_fetch 199 19 = some (.getfield 35, 3, 1173) := by decide +kernel
theorem f199_22 : q_fetch 199 22 = some (.iload_n 2, 1, 0) := by decide +kernel
theorem f199_23 : q_fetch 199 23 = some (.iaload, 1, 0) := by decide +kernel
theorem f199_24 : q_fetch 199 24 = some (.iadd, 1, 0) := by decide +kernel
theorem f199_25 : q_fetch 199 25 = some (.istore 5, 2, 0) := by decide +kernel
theorem f199_27 : q_fetch 199 27 = some (.iload_n 3, 1, 0) := by decide +kernel
theorem f199_28 : q_fetch 199 28 = some (.sipush 204, 3, 0) := by decide +kernel
theorem f199_31 : q_fetch 199 31 = some (.if_icmp .ne (19), 3, 50) := by decide +kernel
theorem f199_34 : q_fetch 199 34 = some (.aload_n 0, 1, 0) := by decide +kernel
theorem f199_35 : q_fetch 199 35 = some (.getfield 132, 3, 1255) := by decide +kernel
theorem f199_38 : q_fetch 199 38 = some (.iload 4, 2, 0) := by decide +kernel
theorem f199_40 : q_fetch 199 40 = some (.iaload, 1, 0) := by decide +kernel
theorem f199_41 : q_fetch 199 41 = some (.aload_n 0, 1, 0) := by decide +kernel
theorem f199_42 : q_fetch 199 42 = some (.getfield 132, 3, 1255) := by decide +kernel
theorem f199_45 : q_fetch 199 45 = some (.iload 5, 2, 0) := by decide +kernel
theorem f199_47 : q_fetch 199 47 = some (.iaload, 1, 0) := by decide +kernel
theorem f199_48 : q_fetch 199 48 = some (.ior, 1, 0) := by decide +kernel
theorem f199_49 : q_fetch 199 49 = some (.ireturn, 1, 0) := by decide +kernel
theorem f199_50 : q_fetch 199 50 = some (.iload_n 3, 1, 0) := by decide +kernel
theorem f199_51 : q_fetch 199 51 = some (.sipush 205, 3, 0) := by decide +kernel
theorem f199_54 : q_fetch 199 54 = some (.if_icmp .ne (19), 3, 73) := by decide +kernel
theorem f199_57 : q_fetch 199 57 = some (.aload_n 0, 1, 0) := by decide +kernel
theorem f199_58 : q_fetch 199 58 = some (.getfield 132, 3, 1255) := by decide +kernel
theorem f199_61 : q_fetch 199 61 = some (.iload 4, 2, 0) := by decide +kernel
theorem f199_63 : q_fetch 199 63 = some (.iaload, 1, 0) := by decide +kernel
theorem f199_64 : q_fetch 199 64 = some (.aload_n 0, 1, 0) := by decide +kernel
theorem f199_65 : q_fetch 199 65 = some (.getfield 132, 3, 1255) := by decide +kernel
theorem f199_68 : q_fetch 199 68 = some (.iload 5, 2, 0) := by decide +kernel
theorem f199_70 : q_fetch 199 70 = some (.iaload, 1, 0) := by decide +kernel
theorem f199_71 : q_fetch 199 71 = some (.iand, 1, 0) := by decide +kernel
theorem f199_72 : q_fetch 199 72 = some (.ireturn, 1, 0) := by decide +kernel
theorem f199_73 : q_fetch 199 73 = some (.iload_n 3, 1, 0) := by decide +kernel
theorem f199_74 : q_fetch 199 74 = some (.sipush 305, 3, 0) := by decide +kernel
theorem f199_77 : q_fetch 199 77 = some (.if_icmp .ne (29), 3, 106) := by decide +kernel
theorem f199_80 : q_fetch 199 80 = some (.aload_n 0, 1, 0) := by decide +kernel
theorem f199_81 : q_fetch 199 81 = some (.getfield 29, 3, 1169) := by decide +kernel
theorem f199_84 : q_fetch 199 84 = some (.iload 4, 2, 0) := by decide +kernel
theorem f199_86 : q_fetch 199 86 = some (.iaload, 1, 0) := by decide +kernel
theorem f199_87 : q_fetch 199 87 = some (.sipush 308, 3, 0) := by decide +kernel
theorem f199_90 : q_fetch 199 90 = some (.if_icmp .eq (18), 3, 108) := by decide +kernel
theorem f199_93 : q_fetch 199 93 = some (.aload_n 0, 1, 0) := by decide +kernel
theorem f199_94 : q_fetch 199 94 = some (.getfield 29, 3, 1169) := by decide +kernel
theorem f199_97 : q_fetch 199 97 = some (.iload 4, 2, 0) := by decide +kernel
theorem f199_99 : q_fetch 199 99 = some (.iaload, 1, 0) := by decide +kernel
theorem f199_100 : q_fetch 199 100 = some (.sipush 309, 3, 0) := by decide +kernel
theorem f199_103 : q_fetch 199 103 = some (.if_icmp .eq (5), 3, 108) := by decide +kernel
theorem f199_106 : q_fetch 199 106 = some (.iconst 0, 1, 0) := by decide +kernel
theorem f199_107 : q_fetch 199 107 = some (.ireturn, 1, 0) := by decide +kernel
theorem f199_108 : q_fetch 199 108 = some (.iconst 1, 1, 0) := by decide +kernel
theorem f199_109 : q_fetch 199 109 = some (.aload_n 0, 1, 0) := by decide +kernel
theorem f199_110 : q_fetch 199 110 = some (.getfield 38, 3, 1175) := by decide +kernel
theorem f199_113 : q_fetch 199 113 = some (.iload_n 2, 1, 0) := by decide +kernel
theorem f199_114 : q_fetch 199 114 = some (.iaload, 1, 0) := by decide +kernel
theorem f199_115 : q_fetch 199 115 = some (.aload_n 0, 1, 0) := by decide +kernel
theorem f199_116 : q_fetch 199 116 = some (.getfield 29, 3, 1169) := by decide +kernel
theorem f199_119 : q_fetch 199 119 = some (.iload 4, 2, 0) := by decide +kernel
theorem f199_121 : q_fetch 199 121 = some (.iaload, 1, 0) := by decide +kernel
theorem f199_122 : q_fetch 199 122 = some (.sipush 309, 3, 0) := by decide +kernel
theorem f199_125 : q_fetch 199 125 = some (.if_icmp .ne (7), 3, 132) := by decide +kernel
theorem f199_128 : q_fetch 199 128 = some (.iconst 3, 1, 0) := by decide +kernel
theorem f199_129 : q_fetch 199 129 = some (.goto 4, 3, 133) := by decide +kernel
theorem f199_132 : q_fetch 199 132 = some (.iconst 0, 1, 0) := by decide +kernel
theorem f199_133 : q_fetch 199 133 = some (.iadd, 1, 0) := by decide +kernel
theorem f199_134 : q_fetch 199 134 = some (.ishl, 1, 0) := by decide +kernel
theorem f199_135 : q_fetch 199 135 = some (.ireturn, 1, 0) := by decide +kernel
theorem f200_0 : q_fetch 200 0 = some (.aload_n 0, 1, 0) := by decide +kernel
theorem f200_1 : q_fetch 200 1 = some (.getfield 29, 3, 1169) := by decide +kernel
theorem f200_4 : q_fetch 200 4 = some (.iload_n 3, 1, 0) := by decide +kernel
theorem f200_5 : q_fetch 200 5 = some (.iaload, 1, 0) := by decide +kernel
theorem f200_6 : q_fetch 200 6 = some (.istore 4, 2, 0) := by decide +kernel
theorem f200_8 : q_fetch 200 8 = some (.iload_n 2, 1, 0) := by decide +kernel
theorem f200_9 : q_fetch 200 9 = some (.aload_n 0, 1, 0) := by decide +kernel
theorem f200_10 : q_fetch 200 10 = some (.getfield 32, 3, 1171) := by decide +kernel
theorem f200_13 : q_fetch 200 13 = some (.iload_n 3, 1, 0) := by decide +kernel
theorem f200_14 : q_fetch 200 14 = some (.iaload, 1, 0) := by decide +kernel
theorem f200_15 : q_fetch 200 15 = some (.iadd, 1, 0) := by decide +kernel
theorem f200_16 : q_fetch 200 16 = some (.istore 5, 2, 0) := by decide +kernel
theorem f200_18 : q_fetch 200 18 = some (.iload_n 2, 1, 0) := by decide +kernel
theorem f200_19 : q_fetch 200 19 = some (.aload_n 0, 1, 0) := by decide +kernel
theorem f200_20 : q_fetch 200 20 = some (.getfield 35, 3, 1173) := by decide +kernel
theorem f200_23 : q_fetch 200 23 = some (.iload_n 3, 1, 0) := by decide +kernel
theorem f200_24 : q_fetch 200 24 = some (.iaload, 1, 0) := by decide +kernel
theorem f200_25 : q_fetch 200 25 = some (.iadd, 1, 0) := by decide +kernel
theorem f200_26 : q_fetch 200 26 = some (.istore 6, 2, 0) := by decide +kernel
theorem f200_28 : q_fetch 200 28 = some (.iload 4, 2, 0) := by decide +kernel
theorem f200_30 : q_fetch 200 30 = some (.lookupswitch (399) #[(1, 146), (2, 164), (33, 216), (45, 240), (46, 185), (200, 264), (201, 264), (202, 364), (203, 364), (204, 294), (205, 294), (304, 329), (305, 192), (306, 155), (307, 155), (308, 164), (309, 164)], 146, 0) := by decide +kernel
theorem f200_176 : q_fetch 200 176 = some (.aload_n 0, 1, 0) := by decide +kernel
theorem f200_177 : q_fetch 200 177 = some (.iload_n 3, 1, 0) := by decide +kernel
theorem f200_178 : q_fetch 200 178 = some (.iconst 1, 1, 0) := by decide +kernel
theorem f200_179 : q_fetch 200 179 = some (.iconst 0, 1, 0) := by decide +kernel
theorem f200_180 : q_fetch 200 180 = some (.invokevirtual 339, 3, 201) := by decide +kernel
theorem f200_183 : q_fetch 200 183 = some (.iconst 1, 1, 0) := by decide +kernel
theorem f200_184 : q_fetch 200 184 = some (.ireturn, 1, 0) := by decide +kernel
theorem f200_185 : q_fetch 200 185 = some (.aload_n 0, 1, 0) := by decide +kernel
theorem f200_186 : q_fetch 200 186 = some (.iload_n 3, 1, 0) := by decide +kernel
theorem f200_187 : q_fetch 200 187 = some (.iconst 2, 1, 0) := by decide +kernel
theorem f200_188 : q_fetch 200 188 = some (.iconst 0, 1, 0) := by decide +kernel
theorem f200_189 : q_fetch 200 189 = some (.invokevirtual 339, 3, 201) := by decide +kernel
theorem f200_192 : q_fetch 200 192 = some (.iconst 1, 1, 0) := by decide +kernel
theorem f200_193 : q_fetch 200 193 = some (.ireturn, 1, 0) := by decide +kernel
theorem f200_194 : q_fetch 200 194 = some (.aload_n 0, 1, 0) := by decide +kernel
theorem f200_195 : q_fetch 200 195 = some (.iload_n 3, 1, 0) := by decide +kernel
theorem f200_196 : q_fetch 200 196 = some (.iconst 3, 1, 0) := by decide +kernel
theorem f200_197 : q_fetch 200 197 = some (.aload_n 0, 1, 0) := by decide +kernel
theorem f200_198 : q_fetch 200 198 = some (.iload_n 1, 1, 0) := by decide +kernel
theorem f200_199 : q_fetch 200 199 = some (.iload 4, 2, 0) := by decide +kernel
theorem f200_201 : q_fetch 200 201 = some (.aload_n 0, 1, 0) := by decide +kernel
theorem f200_202 : q_fetch 200 202 = some (.getfield 38, 3, 1175) := by decide +kernel
theorem f200_205 : q_fetch 200 205 = some (.iload_n 3, 1, 0) := by decide +kernel
theorem f200_206 : q_fetch 200 206 = some (.iaload, 1, 0) := by decide +kernel
theorem f200_207 : q_fetch 200 207 = some (.invokevirtual 342, 3, 202) := by decide +kernel
theorem f200_210 : q_fetch 200 210 = some (.invokevirtual 339, 3, 201) := by decide +kernel
theorem f200_213 : q_fetch 200 213 = some (.iconst 1, 1, 0) := by decide +kernel
theorem f200_214 : q_fetch 200 214 = some (.ireturn, 1, 0) := by decide +kernel
theorem f200_215 : q_fetch 200 215 = some (.aload_n 0, 1, 0) := by decide +kernel
theorem f200_216 : q_fetch 200 216 = some (.iload_n 2, 1, 0) := by decide +kernel
theorem f200_217 : q_fetch 200 217 = some (.iload_n 3, 1, 0) := by decide +kernel
theorem f200_218 : q_fetch 200 218 = some (.invokevirtual 346, 3, 203) := by decide +kernel
theorem f200_221 : q_fetch 200 221 = some (.ireturn, 1, 0) := by decide +kernel
theorem f200_222 : q_fetch 200 222 = some (.aload_n 0, 1, 0) := by decide +kernel
theorem f200_223 : q_fetch 200 223 = some (.iload_n 3, 1, 0) := by decide +kernel
theorem f200_224 : q_fetch 200 224 = some (.iconst 2, 1, 0) := by decide +kernel
theorem f200_225 : q_fetch 200 225 = some (.iconst 0, 1, 0) := by decide +kernel
theorem f200_226 : q_fetch 200 226 = some (.invokevirtual 339, 3, 201) := by decide +kernel
theorem f200_229 : q_fetch 200 229 = some (.aload_n 0, 1, 0) := by decide +kernel
theorem f200_230 : q_fetch 200 230 = some (.getfield 126, 3, 1251) := by decide +kernel
theorem f200_233 : q_fetch 200 233 = some (.iload 5, 2, 0) := by decide +kernel
theorem f200_235 : q_fetch 200 235 = some (.iaload, 1, 0) := by decide +kernel
theorem f200_236 : q_fetch 200 236 = some (.iconst 3, 1, 0) := by decide +kernel
theorem f200_237 : q_fetch 200 237 = some (.if_icmp .ne (7), 3, 244) := by decide +kernel
theorem f200_240 : q_fetch 200 240 = some (.iconst 1, 1, 0) := by decide +kernel
theorem f200_241 : q_fetch 200 241 = some (.goto 4, 3, 245) := by decide +kernel
theorem f200_244 : q_fetch 200 244 = some (.iconst 0, 1, 0) := by decide +kernel
theorem f200_245 : q_fetch 200 245 = some (.ireturn, 1, 0) := by decide +kernel
theorem f200_246 : q_fetch 200 246 = some (.aload_n 0, 1, 0) := by decide +kernel
theorem f200_247 : q_fetch 200 247 = some (.iload_n 3, 1, 0) := by decide +kernel
theorem f200_248 : q_fetch 200 248 = some (.iconst 2, 1, 0) := by decide +kernel
theorem f200_249 : q_fetch 200 249 = some (.iconst 0, 1, 0) := by decide +kernel
theorem f200_250 : q_fetch 200 250 = some (.invokevirtual 339, 3, 201) := by decide +kernel
theorem f200_253 : q_fetch 200 253 = some (.aload_n 0, 1, 0) := by decide +kernel
theorem f200_254 : q_fetch 200 254 = some (.getfield 126, 3, 1251) := by decide +kernel
theorem f200_257 : q_fetch 200 257 = some (.iload 5, 2, 0) := by decide +kernel
theorem f200_259 : q_fetch 200 259 = some (.iaload, 1, 0) := by decide +kernel
theorem f200_260 : q_fetch 200 260 = some (.iconst 2, 1, 0) := by decide +kernel
theorem f200_261 : q_fetch 200 261 = some (.if_icmp .ne (7), 3, 268) := by decide +kernel
theorem f200_264 : q_fetch 200 264 = some (.iconst 1, 1, 0) := by decide +kernel
theorem f200_265 : q_fetch 200 265 = some (.goto 4, 3, 269) := by decide +kernel
theorem f200_268 : q_fetch 200 268 = some (.iconst 0, 1, 0) := by decide +kernel
theorem f200_269 : q_fetch 200 269 = some (.ireturn, 1, 0) := by decide +kernel
theorem f200_270 : q_fetch 200 270 = some (.aload_n 0, 1, 0) := by decide +kernel
theorem f200_271 : q_fetch 200 271 = some (.iload_n 3, 1, 0) := by decide +kernel
theorem f200_272 : q_fetch 200 272 = some (.iconst 1, 1, 0) := by decide +kernel
theorem f200_273 : q_fetch 200 273 = some (.iconst 0, 1, 0) := by decide +kernel
theorem f200_274 : q_fetch 200 274 = some (.invokevirtual 339, 3, 201) := by decide +kernel
theorem f200_277 : q_fetch 200 277 = some (.aload_n 0, 1, 0) := by decide +kernel
theorem f200_278 : q_fetch 200 278 = some (.getfield 126, 3, 1251) := by decide +kernel
theorem f200_281 : q_fetch 200 281 = some (.iload 5, 2, 0) := by decide +kernel
theorem f200_283 : q_fetch 200 283 = some (.iaload, 1, 0) := by decide +kernel
theorem f200_284 : q_fetch 200 284 = some (.iconst 1, 1, 0) := by decide +kernel
theorem f200_285 : q_fetch 200 285 = some (.if_icmp .ne (7), 3, 292) := by decide +kernel
theorem f200_288 : q_fetch 200 288 = some (.iconst 1, 1, 0) := by decide +kernel
theorem f200_289 : q_fetch 200 289 = some (.goto 4, 3, 293) := by decide +kernel
theorem f200_292 : q_fetch 200 292 = some (.iconst 0, 1, 0) := by decide +kernel
theorem f200_293 : q_fetch 200 293 = some (.ireturn, 1, 0) := by decide +kernel
theorem f200_294 : q_fetch 200 294 = some (.aload_n 0, 1, 0) := by decide +kernel
theorem f200_295 : q_fetch 200 295 = some (.iload_n 3, 1, 0) := by decide +kernel
theorem f200_296 : q_fetch 200 296 = some (.iconst 2, 1, 0) := by decide +kernel
theorem f200_297 : q_fetch 200 297 = some (.iconst 0, 1, 0) := by decide +kernel
theorem f200_298 : q_fetch 200 298 = some (.invokevirtual 339, 3, 201) := by decide +kernel
theorem f200_301 : q_fetch 200 301 = some (.aload_n 0, 1, 0) := by decide +kernel
theorem f200_302 : q_fetch 200 302 = some (.getfield 126, 3, 1251) := by decide +kernel
theorem f200_305 : q_fetch 200 305 = some (.iload 5, 2, 0) := by decide +kernel
theorem f200_307 : q_fetch 200 307 = some (.iaload, 1, 0) := by decide +kernel
theorem f200_308 : q_fetch 200 308 = some (.aload_n 0, 1, 0) := by decide +kernel
theorem f200_309 : q_fetch 200 309 = some (.getfield 126, 3, 1251) := by decide +kernel
theorem f200_312 : q_fetch 200 312 = some (.iload 6, 2, 0) := by decide +kernel
theorem f200_314 : q_fetch 200 314 = some (.iaload, 1, 0) := by decide +kernel
theorem f200_315 : q_fetch 200 315 = some (.if_icmp .ne (7), 3, 322) := by decide +kernel
theorem f200_318 : q_fetch 200 318 = some (.iconst 1, 1, 0) := by decide +kernel
theorem f200_319 : q_fetch 200 319 = some (.goto 4, 3, 323) := by decide +kernel
theorem f200_322 : q_fetch 200 322 = some (.iconst 0, 1, 0) := by decide +kernel
theorem f200_323 : q_fetch 200 323 = some (.ireturn, 1, 0) := by decide +kernel
theorem f200_324 : q_fetch 200 324 = some (.aload_n 0, 1, 0) := by decide +kernel
theorem f200_325 : q_fetch 200 325 = some (.iload_n 3, 1, 0) := by decide +kernel
theorem f200_326 : q_fetch 200 326 = some (.iconst 2, 1, 0) := by decide +kernel
theorem f200_327 : q_fetch 200 327 = some (.iconst 0, 1, 0) := by decide +kernel
theorem f200_328 : q_fetch 200 328 = some (.invokevirtual 339, 3, 201) := by decide +kernel
theorem f200_331 : q_fetch 200 331 = some (.aload_n 0, 1, 0) := by decide +kernel
theorem f200_332 : q_fetch 200 332 = some (.getfield 126, 3, 1251) := by decide +kernel
theorem f200_335 : q_fetch 200 335 = some (.iload 5, 2, 0) := by decide +kernel
theorem f200_337 : q_fetch 200 337 = some (.iaload, 1, 0) := by decide +kernel
theorem f200_338 : q_fetch 200 338 = some (.iconst 2, 1, 0) := by decide +kernel
theorem f200_339 : q_fetch 200 339 = some (.if_icmp .ne (18), 3, 357) := by decide +kernel
theorem f200_342 : q_fetch 200 342 = some (.aload_n 0, 1, 0) := by decide +kernel
theorem f200_343 : q_fetch 200 343 = some (.getfield 126, 3, 1251) := by decide +kernel
theorem f200_346 : q_fetch 200 346 = some (.iload 6, 2, 0) := by decide +kernel
theorem f200_348 : q_fetch 200 348 = some (.iaload, 1, 0) := by decide +kernel
theorem f200_349 : q_fetch 200 349 = some (.iconst 2, 1, 0) := by decide +kernel
theorem f200_350 : q_fetch 200 350 = some (.if_icmp .ne (7), 3, 357) := by decide +kernel
theorem f200_353 : q_fetch 200 353 = some (.iconst 1, 1, 0) := by decide +kernel
theorem f200_354 : q_fetch 200 354 = some (.goto 4, 3, 358) := by decide +kernel
theorem f200_357 : q_fetch 200 357 = some (.iconst 0, 1, 0) := by decide +kernel
theorem f200_358 : q_fetch 200 358 = some (.ireturn, 1, 0) := by decide +kernel
theorem f200_359 : q_fetch 200 359 = some (.aload_n 0, 1, 0) := by decide +kernel
theorem f200_360 : q_fetch 200 360 = some (.iload_n 3, 1, 0) := by decide +kernel
theorem f200_361 : q_fetch 200 361 = some (.iconst 2, 1, 0) := by decide +kernel
theorem f200_362 : q_fetch 200 362 = some (.iconst 0, 1, 0) := by decide +kernel
theorem f200_363 : q_fetch 200 363 = some (.invokevirtual 339, 3, 201) := by decide +kernel
theorem f200_366 : q_fetch 200 366 = some (.aload_n 0, 1, 0) := by decide +kernel
theorem f200_367 : q_fetch 200 367 = some (.getfield 126, 3, 1251) := by decide +kernel
theorem f200_370 : q_fetch 200 370 = some (.iload 5, 2, 0) := by decide +kernel
theorem f200_372 : q_fetch 200 372 = some (.iaload, 1, 0) := by decide +kernel
theorem f200_373 : q_fetch 200 373 = some (.iconst 3, 1, 0) := by decide +kernel
theorem f200_374 : q_fetch 200 374 = some (.if_icmp .ne (18), 3, 392) := by decide +kernel
theorem f200_377 : q_fetch 200 377 = some (.aload_n 0, 1, 0) := by decide +kernel
theorem f200_378 : q_fetch 200 378 = some (.getfield 126, 3, 1251) := by decide +kernel
theorem f200_381 : q_fetch 200 381 = some (.iload 6, 2, 0) := by decide +kernel
theorem f200_383 : q_fetch 200 383 = some (.iaload, 1, 0) := by decide +kernel
theorem f200_384 : q_fetch 200 384 = some (.iconst 3, 1, 0) := by decide +kernel
theorem f200_385 : q_fetch 200 385 = some (.if_icmp .ne (7), 3, 392) := by decide +kernel
theorem f200_388 : q_fetch 200 388 = some (.iconst 1, 1, 0) := by decide +kernel
theorem f200_389 : q_fetch 200 389 = some (.goto 4, 3, 393) := by decide +kernel
theorem f200_392 : q_fetch 200 392 = some (.iconst 0, 1, 0) := by decide +kernel
theorem f200_393 : q_fetch 200 393 = some (.ireturn, 1, 0) := by decide +kernel
theorem f200_394 : q_fetch 200 394 = some (.aload_n 0, 1, 0) := by decide +kernel
theorem f200_395 : q_fetch 200 395 = some (.iload_n 3, 1, 0) := by decide +kernel
theorem f200_396 : q_fetch 200 396 = some (.iconst 2, 1, 0) := by decide +kernel
theorem f200_397 : q_fetch 200 397 = some (.iconst 0, 1, 0) := by decide +kernel
theorem f200_398 : q_fetch 200 398 = some (.invokevirtual 339, 3, 201) := by decide +kernel
theorem f200_401 : q_fetch 200 401 = some (.aload_n 0, 1, 0) := by decide +kernel
theorem f200_402 : q_fetch 200 402 = some (.getfield 126, 3, 1251) := by decide +kernel
theorem f200_405 : q_fetch 200 405 = some (.iload 5, 2, 0) := by decide +kernel
theorem f200_407 : q_fetch 200 407 = some (.iaload, 1, 0) := by decide +kernel
theorem f200_408 : q_fetch 200 408 = some (.iconst 1, 1, 0) := by decide +kernel
theorem f200_409 : q_fetch 200 409 = some (.if_icmp .ne (18), 3, 427) := by decide +kernel
theorem f200_412 : q_fetch 200 412 = some (.aload_n 0, 1, 0) := by decide +kernel
theorem f200_413 : q_fetch 200 413 = some (.getfield 126, 3, 1251) := by decide +kernel
theorem f200_416 : q_fetch 200 416 = some (.iload 6, 2, 0) := by decide +kernel
theorem f200_418 : q_fetch 200 418 = some (.iaload, 1, 0) := by decide +kernel
theorem f200_419 : q_fetch 200 419 = some (.iconst 1, 1, 0) := by decide +kernel
theorem f200_420 : q_fetch 200 420 = some (.if_icmp .ne (7), 3, 427) := by decide +kernel
theorem f200_423 : q_fetch 200 423 = some (.iconst 1, 1, 0) := by decide +kernel
theorem f200_424 : q_fetch 200 424 = some (.goto 4, 3, 428) := by decide +kernel
theorem f200_427 : q_fetch 200 427 = some (.iconst 0, 1, 0) := by decide +kernel
theorem f200_428 : q_fetch 200 428 = some (.ireturn, 1, 0) := by decide +kernel
theorem f200_429 : q_fetch 200 429 = some (.aload_n 0, 1, 0) := by decide +kernel
theorem f200_430 : q_fetch 200 430 = some (.iload_n 3, 1, 0) := by decide +kernel
theorem f200_431 : q_fetch 200 431 = some (.iconst 1, 1, 0) := by decide +kernel
theorem f200_432 : q_fetch 200 432 = some (.iconst 0, 1, 0) := by decide +kernel
theorem f200_433 : q_fetch 200 433 = some (.invokevirtual 339, 3, 201) := by decide +kernel
theorem f200_436 : q_fetch 200 436 = some (.aload_n 0, 1, 0) := by decide +kernel
theorem f200_437 : q_fetch 200 437 = some (.getfield 126, 3, 1251) := by decide +kernel
theorem f200_440 : q_fetch 200 440 = some (.iload 5, 2, 0) := by decide +kernel
theorem f200_442 : q_fetch 200 442 = some (.iaload, 1, 0) := by decide +kernel
theorem f200_443 : q_fetch 200 443 = some (.iconst 1, 1, 0) := by decide +kernel
theorem f200_444 : q_fetch 200 444 = some (.if_icmp .ne (18), 3, 462) := by decide +kernel
theorem f200_447 : q_fetch 200 447 = some (.aload_n 0, 1, 0) := by decide +kernel
theorem f200_448 : q_fetch 200 448 = some (.getfield 126, 3, 1251) := by decide +kernel
theorem f200_451 : q_fetch 200 451 = some (.iload 6, 2, 0) := by decide +kernel
theorem f200_453 : q_fetch 200 453 = some (.iaload, 1, 0) := by decide +kernel
theorem f200_454 : q_fetch 200 454 = some (.iconst 1, 1, 0) := by decide +kernel
theorem f200_455 : q_fetch 200 455 = some (.if_icmp .ne (7), 3, 462) := by decide +kernel
theorem f200_458 : q_fetch 200 458 = some (.iconst 1, 1, 0) := by decide +kernel
theorem f200_459 : q_fetch 200 459 = some (.goto 4, 3, 463) := by decide +kernel
theorem f200_462 : q_fetch 200 462 = some (.iconst 0, 1, 0) := by decide +kernel
theorem f200_463 : q_fetch 200 463 = some (.ireturn, 1, 0) := by decide +kernel
theorem f201_0 : q_fetch 201 0 = some (.aload_n 0, 1, 0) := by decide +kernel
theorem f201_1 : q_fetch 201 1 = some (.getfield 126, 3, 1251) := by decide +kernel
theorem f201_4 : q_fetch 201 4 = some (.iload_n 1, 1, 0) := by decide +kernel
theorem f201_5 : q_fetch 201 5 = some (.iload_n 2, 1, 0) := by decide +kernel
theorem f201_6 : q_fetch 201 6 = some (.iastore, 1, 0) := by decide +kernel
theorem f201_7 : q_fetch 201 7 = some (.aload_n 0, 1, 0) := by decide +kernel
theorem f201_8 : q_fetch 201 8 = some (.getfield 129, 3, 1253) := by decide +kernel
theorem f201_11 : q_fetch 201 11 = some (.iload_n 1, 1, 0) := by decide +kernel
theorem f201_12 : q_fetch 201 12 = some (.iload_n 3, 1, 0) := by decide +kernel
theorem f201_13 : q_fetch 201 13 = some (.iastore, 1, 0) := by decide +kernel
theorem f201_14 : q_fetch 201 14 = some (.return_, 1, 0) := by decide +kernel
theorem f202_0 : q_fetch 202 0 = some (.iload_n 2, 1, 0) := by decide +kernel
theorem f202_1 : q_fetch 202 1 = some (.iconst 2, 1, 0) := by decide +kernel
theorem f202_2 : q_fetch 202 2 = some (.if_icmp .ne (7), 3, 9) := by decide +kernel
theorem f202_5 : q_fetch 202 5 = some (.iconst 1, 1, 0) := by decide +kernel
theorem f202_6 : q_fetch 202 6 = some (.goto 24, 3, 30) := by decide +kernel
theorem f202_9 : q_fetch 202 9 = some (.aload_n 0, 1, 0) := by decide +kernel
theorem f202_10 : q_fetch 202 10 = some (.getfield 54, 3, 1185) := by decide +kernel
theorem f202_13 : q_fetch 202 13 = some (.iconst 2, 1, 0) := by decide +kernel
theorem f202_14 : q_fetch 202 14 = some (.iload_n 1, 1, 0) := by decide +kernel
theorem f202_15 : q_fetch 202 15 = some (.imul, 1, 0) := by decide +kernel
theorem f202_16 : q_fetch 202 16 = some (.iload_n 2, 1, 0) := by decide +kernel
theorem f202_17 : q_fetch 202 17 = some (.sipush 309, 3, 0) := by decide +kernel
theorem f202_20 : q_fetch 202 20 = some (.if_icmp .ne (7), 3, 27) := by decide +kernel
theorem f202_23 : q_fetch 202 23 = some (.iconst 1, 1, 0) := by decide +kernel
theorem f202_24 : q_fetch 202 24 = some (.goto 4, 3, 28) := by decide +kernel
theorem f202_27 : q_fetch 202 27 = some (.iconst 0, 1, 0) := by decide +kernel
theorem f202_28 : q_fetch 202 28 = some (.iadd, 1, 0) := by decide +kernel
theorem f202_29 : q_fetch 202 29 = some (.iaload, 1, 0) := by decide +kernel
theorem f202_30 : q_fetch 202 30 = some (.istore 4, 2, 0) := by decide +kernel
theorem f202_32 : q_fetch 202 32 = some (.iload_n 2, 1, 0) := by decide +kernel
theorem f202_33 : q_fetch 202 33 = some (.iconst 2, 1, 0) := by decide +kernel
theorem f202_34 : q_fetch 202 34 = some (.if_icmp .ne (7), 3, 41) := by decide +kernel
theorem f202_37 : q_fetch 202 37 = some (.iload_n 3, 1, 0) := by decide +kernel
theorem f202_38 : q_fetch 202 38 = some (.goto 24, 3, 62) := by decide +kernel
theorem f202_41 : q_fetch 202 41 = some (.aload_n 0, 1, 0) := by decide +kernel
theorem f202_42 : q_fetch 202 42 = some (.getfield 57, 3, 1187) := by decide +kernel
theorem f202_45 : q_fetch 202 45 = some (.iconst 2, 1, 0) := by decide +kernel
theorem f202_46 : q_fetch 202 46 = some (.iload_n 1, 1, 0) := by decide +kernel
theorem f202_47 : q_fetch 202 47 = some (.imul, 1, 0) := by decide +kernel
theorem f202_48 : q_fetch 202 48 = some (.iload_n 2, 1, 0) := by decide +kernel
theorem f202_49 : q_fetch 202 49 = some (.sipush 309, 3, 0) := by decide +kernel
theorem f202_52 : q_fetch 202 52 = some (.if_icmp .ne (7), 3, 59) := by decide +kernel
theorem f202_55 : q_fetch 202 55 = some (.iconst 1, 1, 0) := by decide +kernel
theorem f202_56 : q_fetch 202 56 = some (.goto 4, 3, 60) := by decide +kernel
theorem f202_59 : q_fetch 202 59 = some (.iconst 0, 1, 0) := by decide +kernel
theorem f202_60 : q_fetch 202 60 = some (.iadd, 1, 0) := by decide +kernel
theorem f202_61 : q_fetch 202 61 = some (.iaload, 1, 0) := by decide +kernel
theorem f202_62 : q_fetch 202 62 = some (.istore 5, 2, 0) := by decide +kernel
theorem f202_64 : q_fetch 202 64 = some (.iload 4, 2, 0) := by decide +kernel
theorem f202_66 : q_fetch 202 66 = some (.iconst 1, 1, 0) := by decide +kernel
theorem f202_67 : q_fetch 202 67 = some (.if_icmp .eq (8), 3, 75) := by decide +kernel
theorem f202_70 : q_fetch 202 70 = some (.bipush 7, 2, 0) := by decide +kernel
theorem f202_72 : q_fetch 202 72 = some (.goto 26, 3, 98) := by decide +kernel
theorem f202_75 : q_fetch 202 75 = some (.aload_n 0, 1, 0) := by decide +kernel
theorem f202_76 : q_fetch 202 76 = some (.getfield 72, 3, 1197) := by decide +kernel
theorem f202_79 : q_fetch 202 79 = some (.iload 5, 2, 0) := by decide +kernel
theorem f202_81 : q_fetch 202 81 = some (.baload, 1, 0) := by decide +kernel
theorem f202_82 : q_fetch 202 82 = some (.ifCond .eq (15), 3, 97) := by decide +kernel
theorem f202_85 : q_fetch 202 85 = some (.iconst 1, 1, 0) := by decide +kernel
theorem f202_86 : q_fetch 202 86 = some (.aload_n 0, 1, 0) := by decide +kernel
theorem f202_87 : q_fetch 202 87 = some (.getfield 75, 3, 1199) := by decide +kernel
theorem f202_90 : q_fetch 202 90 = some (.iload 5, 2, 0) := by decide +kernel
theorem f202_92 : q_fetch 202 92 = some (.iaload, 1, 0) := by decide +kernel
theorem f202_93 : q_fetch 202 93 = some (.ishl, 1, 0) := by decide +kernel
theorem f202_94 : q_fetch 202 94 = some (.goto 4, 3, 98) := by decide +kernel
theorem f202_97 : q_fetch 202 97 = some (.iconst 0, 1, 0) := by decide +kernel
theorem f202_98 : q_fetch 202 98 = some (.ireturn, 1, 0) := by decide +kernel
theorem f203_0 : q_fetch 203 0 = some (.iload_n 1, 1, 0) := by decide +kernel
theorem f203_1 : q_fetch 203 1 = some (.aload_n 0, 1, 0) := by decide +kernel
theorem f203_2 : q_fetch 203 2 = some (.getfield 32, 3, 1171) := by decide +kernel
theorem f203_5 : q_fetch 203 5 = some (.iload_n 2, 1, 0) := by decide +kernel
theorem f203_6 : q_fetch 203 6 = some (.iaload, 1, 0) := by decide +kernel
theorem f203_7 : q_fetch 203 7 = some (.iadd, 1, 0) := by decide +kernel
theorem f203_8 : q_fetch 203 8 = some (.istore_n 3, 1, 0) := by decide +kernel
theorem f203_9 : q_fetch 203 9 = some (.aload_n 0, 1, 0) := by decide +kernel
theorem f203_10 : q_fetch 203 10 = some (.getfield 38, 3, 1175) := by decide +kernel
theorem f203_13 : q_fetch 203 13 = some (.iload_n 2, 1, 0) := by decide +kernel
theorem f203_14 : q_fetch 203 14 = some (.iaload, 1, 0) := by decide +kernel
theorem f203_15 : q_fetch 203 15 = some (.istore 4, 2, 0) := by decide +kernel
theorem f203_17 : q_fetch 203 17 = some (.iconst (-1), 1, 0) := by decide +kernel
theorem f203_18 : q_fetch 203 18 = some (.istore 5, 2, 0) := by decide +kernel
theorem f203_20 : q_fetch 203 20 = some (.iconst 1, 1, 0) := by decide +kernel
theorem f203_21 : q_fetch 203 21 = some (.istore 6, 2, 0) := by decide +kernel
theorem f203_23 : q_fetch 203 23 = some (.aload_n 0, 1, 0) := by decide +kernel
theorem f203_24 : q_fetch 203 24 = some (.getfield 126, 3, 1251) := by decide +kernel
theorem f203_27 : q_fetch 203 27 = some (.iload_n 3, 1, 0) := by decide +kernel
theorem f203_28 : q_fetch 203 28 = some (.iaload, 1, 0) := by decide +kernel
theorem f203_29 : q_fetch 203 29 = some (.iconst 3, 1, 0) := by decide +kernel
theorem f203_30 : q_fetch 203 30 = some (.if_icmp .ne (12), 3, 42) := by decide +kernel
theorem f203_33 : q_fetch 203 33 = some (.aload_n 0, 1, 0) := by decide +kernel
theorem f203_34 : q_fetch 203 34 = some (.getfield 129, 3, 1253) := by decide +kernel
theorem f203_37 : q_fetch 203 37 = some (.iload_n 3, 1, 0) := by decide +kernel
theorem f203_38 : q_fetch 203 38 = some (.iaload, 1, 0) := by decide +kernel
theorem f203_39 : q_fetch 203 39 = some (.ifCond .ne (5), 3, 44) := by decide +kernel
theorem f203_42 : q_fetch 203 42 = some (.iconst 0, 1, 0) := by decide +kernel
theorem f203_43 : q_fetch 203 43 = some (.ireturn, 1, 0) := by decide +kernel
theorem f203_44 : q_fetch 203 44 = some (.iconst 0, 1, 0) := by decide +kernel
theorem f203_45 : q_fetch 203 45 = some (.istore 7, 2, 0) := by decide +kernel
theorem f203_47 : q_fetch 203 47 = some (.iload 7, 2, 0) := by decide +kernel
theorem f203_49 : q_fetch 203 49 = some (.iconst 3, 1, 0) := by decide +kernel
theorem f203_50 : q_fetch 203 50 = some (.if_icmp .ge (115), 3, 165) := by decide +kernel
theorem f203_53 : q_fetch 203 53 = some (.iconst 3, 1, 0) := by decide +kernel
theorem f203_54 : q_fetch 203 54 = some (.iload 7, 2, 0) := by decide +kernel
theorem f203_56 : q_fetch 203 56 = some (.imul, 1, 0) := by decide +kernel
theorem f203_57 : q_fetch 203 57 = some (.iload 4, 2, 0) := by decide +kernel
theorem f203_59 : q_fetch 203 59 = some (.iadd, 1, 0) := by decide +kernel
theorem f203_60 : q_fetch 203 60 = some (.istore 8, 2, 0) := by decide +kernel
theorem f203_62 : q_fetch 203 62 = some (.aload_n 0, 1, 0) := by decide +kernel
theorem f203_63 : q_fetch 203 63 = some (.getfield 129, 3, 1253) := by decide +kernel
theorem f203_66 : q_fetch 203 66 = some (.iload_n 3, 1, 0) := by decide +kernel
theorem f203_67 : q_fetch 203 67 = some (.iaload, 1, 0) := by decide +kernel
theorem f203_68 : q_fetch 203 68 = some (.iload 7, 2, 0) := by decide +kernel
theorem f203_70 : q_fetch 203 70 = some (.ishr, 1, 0) := by decide +kernel
theorem f203_71 : q_fetch 203 71 = some (.iconst 1, 1, 0) := by decide +kernel
theorem f203_72 : q_fetch 203 72 = some (.iand, 1, 0) := by decide +kernel
theorem f203_73 : q_fetch 203 73 = some (.ifCond .ne (6), 3, 79) := by decide +kernel
theorem f203_76 : q_fetch 203 76 = some (.goto 83, 3, 159) := by decide +kernel
theorem f203_79 : q_fetch 203 79 = some (.aload_n 0, 1, 0) := by decide +kernel
theorem f203_80 : q_fetch 203 80 = some (.getfield 87, 3, 1207) := by decide +kernel
theorem f203_83 : q_fetch 203 83 = some (.iload 8, 2, 0) := by decide +kernel
theorem f203_85 : q_fetch 203 85 = some (.iaload, 1, 0) := by decide +kernel
theorem f203_86 : q_fetch 203 86 = some (.ifCond .ne (5), 3, 91) := by decide +kernel
theorem f203_89 : q_fetch 203 89 = some (.iconst 0, 1, 0) := by decide +kernel
theorem f203_90 : q_fetch 203 90 = some (.ireturn, 1, 0) := by decide +kernel
theorem f203_91 : q_fetch 203 91 = some (.iload 5, 2, 0) := by decide +kernel
theorem f203_93 : q_fetch 203 93 = some (.ifCond .ge (7), 3, 100) := by decide +kernel
theorem f203_96 : q_fetch 203 96 = some (.iload 8, 2, 0) := by decide +kernel
theorem f203_98 : q_fetch 203 98 = some (.istore 5, 2, 0) := by decide +kernel
theorem f203_100 : q_fetch 203 100 = some (.aload_n 0, 1, 0) := by decide +kernel
theorem f203_101 : q_fetch 203 101 = some (.getfield 87, 3, 1207) := by decide +kernel
theorem f203_104 : q_fetch 203 104 = some (.iload 8, 2, 0) := by decide +kernel
theorem f203_106 : q_fetch 203 106 = some (.iaload, 1, 0) := by decide +kernel
theorem f203_107 : q_fetch 203 107 = some (.aload_n 0, 1, 0) := by decide +kernel
theorem f203_108 : q_fetch 203 108 = some (.getfield 87, 3, 1207) := by decide +kernel
theorem f203_111 : q_fetch 203 111 = some (.iload 5, 2, 0) := by decide +kernel
theorem f203_113 : q_fetch 203 113 = some (.iaload, 1, 0) := by decide +kernel
theorem f203_114 : q_fetch 203 114 = some (.if_icmp .ne (31), 3, 145) := by decide +kernel
theorem f203_117 : q_fetch 203 117 = some (.aload_n 0, 1, 0) := by decide +kernel
theorem f203_118 : q_fetch 203 118 = some (.getfield 87, 3, 1207) := by decide +kernel
theorem f203_121 : q_fetch 203 121 = some (.iload 8, 2, 0) := by decide +kernel
theorem f203_123 : q_fetch 203 123 = some (.iaload, 1, 0) := by decide +kernel
theorem f203_124 : q_fetch 203 124 = some (.iconst 3, 1, 0) := by decide +kernel
theorem f203_125 : q_fetch 203 125 = some (.if_icmp .ne (22), 3, 147) := by decide +kernel
theorem f203_128 : q_fetch 203 128 = some (.aload_n 0, 1, 0) := by decide +kernel
theorem f203_129 : q_fetch 203 129 = some (.getfield 90, 3, 1209) := by decide +kernel
theorem f203_132 : q_fetch 203 132 = some (.iload 8, 2, 0) := by decide +kernel
theorem f203_134 : q_fetch 203 134 = some (.iaload, 1, 0) := by decide +kernel
theorem f203_135 : q_fetch 203 135 = some (.aload_n 0, 1, 0) := by decide +kernel
theorem f203_136 : q_fetch 203 136 = some (.getfield 90, 3, 1209) := by decide +kernel
theorem f203_139 : q_fetch 203 139 = some (.iload 5, 2, 0) := by decide +kernel
theorem f203_141 : q_fetch 203 141 = some (.iaload, 1, 0) := by decide +kernel
theorem f203_142 : q_fetch 203 142 = some (.if_icmp .eq (5), 3, 147) := by decide +kernel
theorem f203_145 : q_fetch 203 145 = some (.iconst 0, 1, 0) := by decide +kernel
theorem f203_146 : q_fetch 203 146 = some (.ireturn, 1, 0) := by decide +kernel
theorem f203_147 : q_fetch 203 147 = some (.iload 6, 2, 0) := by decide +kernel
theorem f203_149 : q_fetch 203 149 = some (.aload_n 0, 1, 0) := by decide +kernel
theorem f203_150 : q_fetch 203 150 = some (.getfield 93, 3, 1211) := by decide +kernel
theorem f203_153 : q_fetch 203 153 = some (.iload 8, 2, 0) := by decide +kernel
theorem f203_155 : q_fetch 203 155 = some (.baload, 1, 0) := by decide +kernel
theorem f203_156 : q_fetch 203 156 = some (.iand, 1, 0) := by decide +kernel
theorem f203_157 : q_fetch 203 157 = some (.istore 6, 2, 0) := by decide +kernel
theorem f203_159 : q_fetch 203 159 = some (.iinc 7 1, 3, 0) := by decide +kernel
theorem f203_162 : q_fetch 203 162 = some (.goto (-115), 3, 47) := by decide +kernel
theorem f203_165 : q_fetch 203 165 = some (.aload_n 0, 1, 0) := by decide +kernel
theorem f203_166 : q_fetch 203 166 = some (.getfield 29, 3, 1169) := by decide +kernel
theorem f203_169 : q_fetch 203 169 = some (.iload_n 3, 1, 0) := by decide +kernel
theorem f203_170 : q_fetch 203 170 = some (.iaload, 1, 0) := by decide +kernel
theorem f203_171 : q_fetch 203 171 = some (.sipush 308, 3, 0) := by decide +kernel
theorem f203_174 : q_fetch 203 174 = some (.if_icmp .eq (15), 3, 189) := by decide +kernel
theorem f203_177 : q_fetch 203 177 = some (.aload_n 0, 1, 0) := by decide +kernel
theorem f203_178 : q_fetch 203 178 = some (.getfield 29, 3, 1169) := by decide +kernel
theorem f203_181 : q_fetch 203 181 = some (.iload_n 3, 1, 0) := by decide +kernel
theorem f203_182 : q_fetch 203 182 = some (.iaload, 1, 0) := by decide +kernel
theorem f203_183 : q_fetch 203 183 = some (.sipush 309, 3, 0) := by decide +kernel
theorem f203_186 : q_fetch 203 186 = some (.if_icmp .ne (7), 3, 193) := by decide +kernel
theorem f203_189 : q_fetch 203 189 = some (.iconst 1, 1, 0) := by decide +kernel
theorem f203_190 : q_fetch 203 190 = some (.goto 4, 3, 194) := by decide +kernel
theorem f203_193 : q_fetch 203 193 = some (.iconst 0, 1, 0) := by decide +kernel
theorem f203_194 : q_fetch 203 194 = some (.istore 7, 2, 0) := by decide +kernel
theorem f203_196 : q_fetch 203 196 = some (.iload 7, 2, 0) := by decide +kernel
theorem f203_198 : q_fetch 203 198 = some (.ifCond .eq (40), 3, 238) := by decide +kernel
theorem f203_201 : q_fetch 203 201 = some (.aload_n 0, 1, 0) := by decide +kernel
theorem f203_202 : q_fetch 203 202 = some (.getfield 135, 3, 1257) := by decide +kernel
theorem f203_205 : q_fetch 203 205 = some (.iload_n 2, 1, 0) := by decide +kernel
theorem f203_206 : q_fetch 203 206 = some (.iaload, 1, 0) := by decide +kernel
theorem f203_207 : q_fetch 203 207 = some (.iload 4, 2, 0) := by decide +kernel
theorem f203_209 : q_fetch 203 209 = some (.aload_n 0, 1, 0) := by decide +kernel
theorem f203_210 : q_fetch 203 210 = some (.getfield 29, 3, 1169) := by decide +kernel
theorem f203_213 : q_fetch 203 213 = some (.iload_n 3, 1, 0) := by decide +kernel
theorem f203_214 : q_fetch 203 214 = some (.iaload, 1, 0) := by decide +kernel
theorem f203_215 : q_fetch 203 215 = some (.sipush 309, 3, 0) := by decide +kernel
theorem f203_218 : q_fetch 203 218 = some (.if_icmp .ne (7), 3, 225) := by decide +kernel
theorem f203_221 : q_fetch 203 221 = some (.iconst 3, 1, 0) := by decide +kernel
theorem f203_222 : q_fetch 203 222 = some (.goto 4, 3, 226) := by decide +kernel
theorem f203_225 : q_fetch 203 225 = some (.iconst 0, 1, 0) := by decide +kernel
theorem f203_226 : q_fetch 203 226 = some (.iadd, 1, 0) := by decide +kernel
theorem f203_227 : q_fetch 203 227 = some (.ishr, 1, 0) := by decide +kernel
theorem f203_228 : q_fetch 203 228 = some (.iconst 1, 1, 0) := by decide +kernel
theorem f203_229 : q_fetch 203 229 = some (.iand, 1, 0) := by decide +kernel
theorem f203_230 : q_fetch 203 230 = some (.iconst 1, 1, 0) := by decide +kernel
theorem f203_231 : q_fetch 203 231 = some (.if_icmp .ne (7), 3, 238) := by decide +kernel
theorem f203_234 : q_fetch 203 234 = some (.iconst 1, 1, 0) := by decide +kernel
theorem f203_235 : q_fetch 203 235 = some (.goto 4, 3, 239) := by decide +kernel
theorem f203_238 : q_fetch 203 238 = some (.iconst 0, 1, 0) := by decide +kernel
theorem f203_239 : q_fetch 203 239 = some (.istore 8, 2, 0) := by decide +kernel
theorem f203_241 : q_fetch 203 241 = some (.iload 6, 2, 0) := by decide +kernel
theorem f203_243 : q_fetch 203 243 = some (.ifCond .ne (10), 3, 253) := by decide +kernel
theorem f203_246 : q_fetch 203 246 = some (.iload 8, 2, 0) := by decide +kernel
theorem f203_248 : q_fetch 203 248 = some (.ifCond .ne (5), 3, 253) := by decide +kernel
theorem f203_251 : q_fetch 203 251 = some (.iconst 0, 1, 0) := by decide +kernel
theorem f203_252 : q_fetch 203 252 = some (.ireturn, 1, 0) := by decide +kernel
theorem f203_253 : q_fetch 203 253 = some (.aload_n 0, 1, 0) := by decide +kernel
theorem f203_254 : q_fetch 203 254 = some (.iload_n 2, 1, 0) := by decide +kernel
theorem f203_255 : q_fetch 203 255 = some (.aload_n 0, 1, 0) := by decide +kernel
theorem f203_256 : q_fetch 203 256 = some (.getfield 87, 3, 1207) := by decide +kernel
theorem f203_259 : q_fetch 203 259 = some (.iload 5, 2, 0) := by decide +kernel
theorem f203_261 : q_fetch 203 261 = some (.iaload, 1, 0) := by decide +kernel
theorem f203_262 : q_fetch 203 262 = some (.aload_n 0, 1, 0) := by decide +kernel
theorem f203_263 : q_fetch 203 263 = some (.getfield 87, 3, 1207) := by decide +kernel
theorem f203_266 : q_fetch 203 266 = some (.iload 5, 2, 0) := by decide +kernel
theorem f203_268 : q_fetch 203 268 = some (.iaload, 1, 0) := by decide +kernel
theorem f203_269 : q_fetch 203 269 = some (.iconst 3, 1, 0) := by decide +kernel
theorem f203_270 : q_fetch 203 270 = some (.if_icmp .ne (15), 3, 285) := by decide +kernel
theorem f203_273 : q_fetch 203 273 = some (.iconst 1, 1, 0) := by decide +kernel
theorem f203_274 : q_fetch 203 274 = some (.aload_n 0, 1, 0) := by decide +kernel
theorem f203_275 : q_fetch 203 275 = some (.getfield 90, 3, 1209) := by decide +kernel
theorem f203_278 : q_fetch 203 278 = some (.iload 5, 2, 0) := by decide +kernel
theorem f203_280 : q_fetch 203 280 = some (.iaload, 1, 0) := by decide +kernel
theorem f203_281 : q_fetch 203 281 = some (.ishl, 1, 0) := by decide +kernel
theorem f203_282 : q_fetch 203 282 = some (.goto 4, 3, 286) := by decide +kernel
theorem f203_285 : q_fetch 203 285 = some (.iconst 0, 1, 0) := by decide +kernel
theorem f203_286 : q_fetch 203 286 = some (.invokevirtual 339, 3, 201) := by decide +kernel
theorem f203_289 : q_fetch 203 289 = some (.iconst 1, 1, 0) := by decide +kernel
theorem f203_290 : q_fetch 203 290 = some (.ireturn, 1, 0) := by decide +kernel
theorem f204_0 : q_fetch 204 0 = some (.aload_n 0, 1, 0) := by decide +kernel
theorem f204_1 : q_fetch 204 1 = some (.iconst 0, 1, 0) := by decide +kernel
theorem f204_2 : q_fetch 204 2 = some (.putfield 138, 3, 1152) := by decide +kernel
theorem f204_5 : q_fetch 204 5 = some (.iconst 0, 1, 0) := by decide +kernel
theorem f204_6 : q_fetch 204 6 = some (.istore_n 2, 1, 0) := by decide +kernel
theorem f204_7 : q_fetch 204 7 = some (.iload_n 1, 1, 0) := by decide +kernel
theorem f204_8 : q_fetch 204 8 = some (.ifCond .ne (8), 3, 16) := by decide +kernel
theorem f204_11 : q_fetch 204 11 = some (.aload_n 0, 1, 0) := by decide +kernel
theorem f204_12 : q_fetch 204 12 = some (.getfield 149, 3, 1158) := by decide +kernel
theorem f204_15 : q_fetch 204 15 = some (.ireturn, 1, 0) := by decide +kernel
theorem f204_16 : q_fetch 204 16 = some (.iload_n 1, 1, 0) := by decide +kernel
theorem f204_17 : q_fetch 204 17 = some (.iconst 3, 1, 0) := by decide +kernel
theorem f204_18 : q_fetch 204 18 = some (.if_icmp .ne (8), 3, 26) := by decide +kernel
theorem f204_21 : q_fetch 204 21 = some (.aload_n 0, 1, 0) := by decide +kernel
theorem f204_22 : q_fetch 204 22 = some (.getfield 336, 3, 1214) := by decide +kernel
theorem f204_25 : q_fetch 204 25 = some (.ireturn, 1, 0) := by decide +kernel
theorem f204_26 : q_fetch 204 26 = some (.iload_n 1, 1, 0) := by decide +kernel
theorem f204_27 : q_fetch 204 27 = some (.bipush 10, 2, 0) := by decide +kernel
theorem f204_29 : q_fetch 204 29 = some (.bipush 15, 2, 0) := by decide +kernel
theorem f204_31 : q_fetch 204 31 = some (.invokestatic 141, 3, 145) := by decide +kernel
theorem f204_34 : q_fetch 204 34 = some (.ifCond .eq (30), 3, 64) := by decide +kernel
theorem f204_37 : q_fetch 204 37 = some (.aload_n 0, 1, 0) := by decide +kernel
theorem f204_38 : q_fetch 204 38 = some (.getfield 47, 3, 1181) := by decide +kernel
theorem f204_41 : q_fetch 204 41 = some (.iload_n 1, 1, 0) := by decide +kernel
theorem f204_42 : q_fetch 204 42 = some (.bipush 10, 2, 0) := by decide +kernel
theorem f204_44 : q_fetch 204 44 = some (.isub, 1, 0) := by decide +kernel
theorem f204_45 : q_fetch 204 45 = some (.baload, 1, 0) := by decide +kernel
theorem f204_46 : q_fetch 204 46 = some (.ifCond .eq (15), 3, 61) := by decide +kernel
theorem f204_49 : q_fetch 204 49 = some (.aload_n 0, 1, 0) := by decide +kernel
theorem f204_50 : q_fetch 204 50 = some (.getfield 26, 3, 1167) := by decide +kernel
theorem f204_53 : q_fetch 204 53 = some (.iload_n 1, 1, 0) := by decide +kernel
theorem f204_54 : q_fetch 204 54 = some (.bipush 10, 2, 0) := by decide +kernel
theorem f204_56 : q_fetch 204 56 = some (.isub, 1, 0) := by decide +kernel
theorem f204_57 : q_fetch 204 57 = some (.iaload, 1, 0) := by decide +kernel
theorem f204_58 : q_fetch 204 58 = some (.goto 5, 3, 63) := by decide +kernel
theorem f204_61 : q_fetch 204 61 = some (.bipush (-2), 2, 0) := by decide +kernel
theorem f204_63 : q_fetch 204 63 = some (.ireturn, 1, 0) := by decide +kernel
theorem f204_64 : q_fetch 204 64 = some (.iload_n 1, 1, 0) := by decide +kernel
theorem f204_65 : q_fetch 204 65 = some (.iconst 1, 1, 0) := by decide +kernel
theorem f204_66 : q_fetch 204 66 = some (.if_icmp .ne (31), 3, 97) := by decide +kernel
theorem f204_69 : q_fetch 204 69 = some (.iconst 0, 1, 0) := by decide +kernel
theorem f204_70 : q_fetch 204 70 = some (.istore_n 3, 1, 0) := by decide +kernel
theorem f204_71 : q_fetch 204 71 = some (.iload_n 3, 1, 0) := by decide +kernel
theorem f204_72 : q_fetch 204 72 = some (.bipush 6, 2, 0) := by decide +kernel
theorem f204_74 : q_fetch 204 74 = some (.if_icmp .ge (21), 3, 95) := by decide +kernel
theorem f204_77 : q_fetch 204 77 = some (.aload_n 0, 1, 0) := by decide +kernel
theorem f204_78 : q_fetch 204 78 = some (.getfield 47, 3, 1181) := by decide +kernel
theorem f204_81 : q_fetch 204 81 = some (.iload_n 3, 1, 0) := by decide +kernel
theorem f204_82 : q_fetch 204 82 = some (.baload, 1, 0) := by decide +kernel
theorem f204_83 : q_fetch 204 83 = some (.ifCond .eq (6), 3, 89) := by decide +kernel
theorem f204_86 : q_fetch 204 86 = some (.iinc 2 1, 3, 0) := by decide +kernel
theorem f204_89 : q_fetch 204 89 = some (.iinc 3 1, 3, 0) := by decide +kernel
theorem f204_92 : q_fetch 204 92 = some (.goto (-21), 3, 71) := by decide +kernel
theorem f204_95 : q_fetch 204 95 = some (.iload_n 2, 1, 0) := by decide +kernel
theorem f204_96 : q_fetch 204 96 = some (.ireturn, 1, 0) := by decide +kernel
theorem f204_97 : q_fetch 204 97 = some (.iload_n 1, 1, 0) := by decide +kernel
theorem f204_98 : q_fetch 204 98 = some (.iconst 2, 1, 0) := by decide +kernel
theorem f204_99 : q_fetch 204 99 = some (.if_icmp .eq (5), 3, 104) := by decide +kernel
theorem f204_102 : q_fetch 204 102 = some (.iconst (-1), 1, 0) := by decide +kernel
theorem f204_103 : q_fetch 204 103 = some (.ireturn, 1, 0) := by decide +kernel
theorem f204_104 : q_fetch 204 104 = some (.iconst 0, 1, 0) := by decide +kernel
theorem f204_105 : q_fetch 204 105 = some (.istore_n 3, 1, 0) := by decide +kernel
theorem f204_106 : q_fetch 204 106 = some (.iload_n 3, 1, 0) := by decide +kernel
theorem f204_107 : q_fetch 204 107 = some (.bipush 16, 2, 0) := by decide +kernel
theorem f204_109 : q_fetch 204 109 = some (.if_icmp .ge (21), 3, 130) := by decide +kernel
theorem f204_112 : q_fetch 204 112 = some (.aload_n 0, 1, 0) := by decide +kernel
theorem f204_113 : q_fetch 204 113 = some (.getfield 72, 3, 1197) := by decide +kernel
theorem f204_116 : q_fetch 204 116 = some (.iload_n 3, 1, 0) := by decide +kernel
theorem f204_117 : q_fetch 204 117 = some (.baload, 1, 0) := by decide +kernel
theorem f204_118 : q_fetch 204 118 = some (.ifCond .eq (6), 3, 124) := by decide +kernel
theorem f204_121 : q_fetch 204 121 = some (.iinc 2 1, 3, 0) := by decide +kernel
theorem f204_124 : q_fetch 204 124 = some (.iinc 3 1, 3, 0) := by decide +kernel
theorem f204_127 : q_fetch 204 127 = some (.goto (-21), 3, 106) := by decide +kernel
theorem f204_130 : q_fetch 204 130 = some (.iload_n 2, 1, 0) := by decide +kernel
theorem f204_131 : q_fetch 204 131 = some (.ireturn, 1, 0) := by decide +kernel
theorem f205_0 : q_fetch 205 0 = some (.new 8, 3, 0) := by decide +kernel
theorem f205_3 : q_fetch 205 3 = some (.dup, 1, 0) := by decide +kernel
theorem f205_4 : q_fetch 205 4 = some (.invokespecial 63, 3, 0) := by decide +kernel
theorem f205_7 : q_fetch 205 7 = some (.astore_n 1, 1, 0) := by decide +kernel
theorem f205_8 : q_fetch 205 8 = some (.new 64, 3, 9) := by decide +kernel
theorem f205_11 : q_fetch 205 11 = some (.dup, 1, 0) := by decide +kernel
theorem f205_12 : q_fetch 205 12 = some (.invokespecial 66, 3, 142) := by decide +kernel
theorem f205_15 : q_fetch 205 15 = some (.astore_n 2, 1, 0) := by decide +kernel
theorem f205_16 : q_fetch 205 16 = some (.iconst 1, 1, 0) := by decide +kernel
theorem f205_17 : q_fetch 205 17 = some (.newarray .long, 2, 103) := by decide +kernel
theorem f205_19 : q_fetch 205 19 = some (.astore_n 3, 1, 0) := by decide +kernel
theorem f205_20 : q_fetch 205 20 = some (.iconst 0, 1, 0) := by decide +kernel
theorem f205_21 : q_fetch 205 21 = some (.istore 4, 2, 0) := by decide +kernel
theorem f205_23 : q_fetch 205 23 = some (.iload 4, 2, 0) := by decide +kernel
theorem f205_25 : q_fetch 205 25 = some (.aload_n 0, 1, 0) := by decide +kernel
theorem f205_26 : q_fetch 205 26 = some (.arraylength, 1, 0) := by decide +kernel
theorem f205_27 : q_fetch 205 27 = some (.bipush 6, 2, 0) := by decide +kernel
theorem f205_29 : q_fetch 205 29 = some (.isub, 1, 0) := by decide +kernel
theorem f205_30 : q_fetch 205 30 = some (.if_icmp .gt (1084), 3, 1114) := by decide +kernel
theorem f205_33 : q_fetch 205 33 = some (.aload_n 0, 1, 0) := by decide +kernel
theorem f205_34 : q_fetch 205 34 = some (.iload 4, 2, 0) := by decide +kernel
theorem f205_36 : q_fetch 205 36 = some (.iaload, 1, 0) := by decide +kernel
theorem f205_37 : q_fetch 205 37 = some (.bipush 15, 2, 0) := by decide +kernel
theorem f205_39 : q_fetch 205 39 = some (.iand, 1, 0) := by decide +kernel
theorem f205_40 : q_fetch 205 40 = some (.tableswitch (1068) (0) (14) #[76, 164, 220, 233, 296, 371, 446, 538, 638, 701, 757, 856, 943, 968, 1043], 76, 0) := by decide +kernel
theorem f205_116 : q_fetch 205 116 = some (.aload_n 1, 1, 0) := by decide +kernel
theorem f205_117 : q_fetch 205 117 = some (.aload_n 0, 1, 0) := by decide +kernel
theorem f205_118 : q_fetch 205 118 = some (.iload 4, 2, 0) := by decide +kernel
theorem f205_120 : q_fetch 205 120 = some (.iconst 1, 1, 0) := by decide +kernel
theorem f205_121 : q_fetch 205 121 = some (.iadd, 1, 0) := by decide +kernel
theorem f205_122 : q_fetch 205 122 = some (.iaload, 1, 0) := by decide +kernel
theorem f205_123 : q_fetch 205 123 = some (.i2l, 1, 0) := by decide +kernel
theorem f205_124 : q_fetch 205 124 = some (.bipush 32, 2, 0) := by decide +kernel
theorem f205_126 : q_fetch 205 126 = some (.lshl, 1, 0) := by decide +kernel
theorem f205_127 : q_fetch 205 127 = some (.aload_n 0, 1, 0) := by decide +kernel
theorem f205_128 : q_fetch 205 128 = some (.iload 4, 2, 0) := by decide +kernel
theorem f205_130 : q_fetch 205 130 = some (.iconst 2, 1, 0) := by decide +kernel
theorem f205_131 : q_fetch 205 131 = some (.iadd, 1, 0) := by decide +kernel
theorem f205_132 : q_fetch 205 132 = some (.iaload, 1, 0) := by decide +kernel
theorem f205_133 : q_fetch 205 133 = some (.i2l, 1, 0) := by decide +kernel
theorem f205_134 : q_fetch 205 134 = some (.ldc2_w 67, 3, 0) := by decide +kernel
theorem f205_137 : q_fetch 205 137 = some (.land, 1, 0) := by decide +kernel
theorem f205_138 : q_fetch 205 138 = some (.lor, 1, 0) := by decide +kernel
theorem f205_139 : q_fetch 205 139 = some (.aload_n 3, 1, 0) := by decide +kernel
theorem f205_140 : q_fetch 205 140 = some (.invokestatic 69, 3, 18) := by decide +kernel
theorem f205_143 : q_fetch 205 143 = some (.istore 5, 2, 0) := by decide +kernel
theorem f205_145 : q_fetch 205 145 = some (.aload_n 2, 1, 0) := by decide +kernel
theorem f205_146 : q_fetch 205 146 = some (.aload_n 0, 1, 0) := by decide +kernel
theorem f205_147 : q_fetch 205 147 = some (.iload 4, 2, 0) := by decide +kernel
theorem f205_149 : q_fetch 205 149 = some (.iconst 1, 1, 0) := by decide +kernel
theorem f205_150 : q_fetch 205 150 = some (.iadd, 1, 0) := by decide +kernel
theorem f205_151 : q_fetch 205 151 = some (.iaload, 1, 0) := by decide +kernel
theorem f205_152 : q_fetch 205 152 = some (.i2l, 1, 0) := by decide +kernel
theorem f205_153 : q_fetch 205 153 = some (.bipush 32, 2, 0) := by decide +kernel
theorem f205_155 : q_fetch 205 155 = some (.lshl, 1, 0) := by decide +kernel
theorem f205_156 : q_fetch 205 156 = some (.aload_n 0, 1, 0) := by decide +kernel
theorem f205_157 : q_fetch 205 157 = some (.iload 4, 2, 0) := by decide +kernel
theorem f205_159 : q_fetch 205 159 = some (.iconst 2, 1, 0) := by decide +kernel
theorem f205_160 : q_fetch 205 160 = some (.iadd, 1, 0) := by decide +kernel
theorem f205_161 : q_fetch 205 161 = some (.iaload, 1, 0) := by decide +kernel
theorem f205_162 : q_fetch 205 162 = some (.i2l, 1, 0) := by decide +kernel
theorem f205_163 : q_fetch 205 163 = some (.ldc2_w 67, 3, 0) := by decide +kernel
theorem f205_166 : q_fetch 205 166 = some (.land, 1, 0) := by decide +kernel
theorem f205_167 : q_fetch 205 167 = some (.lor, 1, 0) := by decide +kernel
theorem f205_168 : q_fetch 205 168 = some (.invokevirtual 74, 3, 144) := by decide +kernel
theorem f205_171 : q_fetch 205 171 = some (.istore 6, 2, 0) := by decide +kernel
theorem f205_173 : q_fetch 205 173 = some (.aload_n 2, 1, 0) := by decide +kernel
theorem f205_174 : q_fetch 205 174 = some (.invokevirtual 75, 3, 143) := by decide +kernel
theorem f205_177 : q_fetch 205 177 = some (.iload 5, 2, 0) := by decide +kernel
theorem f205_179 : q_fetch 205 179 = some (.if_icmp .eq (5), 3, 184) := by decide +kernel
theorem f205_182 : q_fetch 205 182 = some (.iconst 0, 1, 0) := by decide +kernel
theorem f205_183 : q_fetch 205 183 = some (.ireturn, 1, 0) := by decide +kernel
theorem f205_184 : q_fetch 205 184 = some (.iload 5, 2, 0) := by decide +kernel
theorem f205_186 : q_fetch 205 186 = some (.ifCond .ne (15), 3, 201) := by decide +kernel
theorem f205_189 : q_fetch 205 189 = some (.aload_n 3, 1, 0) := by decide +kernel
theorem f205_190 : q_fetch 205 190 = some (.iconst 0, 1, 0) := by decide +kernel
theorem f205_191 : q_fetch 205 191 = some (.laload, 1, 0) := by decide +kernel
theorem f205_192 : q_fetch 205 192 = some (.iload 6, 2, 0) := by decide +kernel
theorem f205_194 : q_fetch 205 194 = some (.i2l, 1, 0) := by decide +kernel
theorem f205_195 : q_fetch 205 195 = some (.lcmp, 1, 0) := by decide +kernel
theorem f205_196 : q_fetch 205 196 = some (.ifCond .eq (5), 3, 201) := by decide +kernel
theorem f205_199 : q_fetch 205 199 = some (.iconst 0, 1, 0) := by decide +kernel
theorem f205_200 : q_fetch 205 200 = some (.ireturn, 1, 0) := by decide +kernel
theorem f205_201 : q_fetch 205 201 = some (.goto 907, 3, 1108) := by decide +kernel
theorem f205_204 : q_fetch 205 204 = some (.aload_n 1, 1, 0) := by decide +kernel
theorem f205_205 : q_fetch 205 205 = some (.aload_n 0, 1, 0) := by decide +kernel
theorem f205_206 : q_fetch 205 206 = some (.iload 4, 2, 0) := by decide +kernel
theorem f205_208 : q_fetch 205 208 = some (.iconst 1, 1, 0) := by decide +kernel
theorem f205_209 : q_fetch 205 209 = some (.iadd, 1, 0) := by decide +kernel
theorem f205_210 : q_fetch 205 210 = some (.iaload, 1, 0) := by decide +kernel
theorem f205_211 : q_fetch 205 211 = some (.aload_n 3, 1, 0) := by decide +kernel
theorem f205_212 : q_fetch 205 212 = some (.invokestatic 79, 3, 22) := by decide +kernel
theorem f205_215 : q_fetch 205 215 = some (.istore 5, 2, 0) := by decide +kernel
theorem f205_217 : q_fetch 205 217 = some (.aload_n 2, 1, 0) := by decide +kernel
theorem f205_218 : q_fetch 205 218 = some (.aload_n 0, 1, 0) := by decide +kernel
theorem f205_219 : q_fetch 205 219 = some (.iload 4, 2, 0) := by decide +kernel
theorem f205_221 : q_fetch 205 221 = some (.iconst 1, 1, 0) := by decide +kernel
theorem f205_222 : q_fetch 205 222 = some (.iadd, 1, 0) := by decide +kernel
theorem f205_223 : q_fetch 205 223 = some (.iaload, 1, 0) := by decide +kernel
theorem f205_224 : q_fetch 205 224 = some (.invokevirtual 82, 3, 147) := by decide +kernel
theorem f205_227 : q_fetch 205 227 = some (.istore 6, 2, 0) := by decide +kernel
theorem f205_229 : q_fetch 205 229 = some (.aload_n 2, 1, 0) := by decide +kernel
theorem f205_230 : q_fetch 205 230 = some (.invokevirtual 75, 3, 143) := by decide +kernel
theorem f205_233 : q_fetch 205 233 = some (.iload 5, 2, 0) := by decide +kernel
theorem f205_235 : q_fetch 205 235 = some (.if_icmp .eq (5), 3, 240) := by decide +kernel
theorem f205_238 : q_fetch 205 238 = some (.iconst 0, 1, 0) := by decide +kernel
theorem f205_239 : q_fetch 205 239 = some (.ireturn, 1, 0) := by decide +kernel
theorem f205_240 : q_fetch 205 240 = some (.iload 5, 2, 0) := by decide +kernel
theorem f205_242 : q_fetch 205 242 = some (.ifCond .ne (15), 3, 257) := by decide +kernel
theorem f205_245 : q_fetch 205 245 = some (.aload_n 3, 1, 0) := by decide +kernel
theorem f205_246 : q_fetch 205 246 = some (.iconst 0, 1, 0) := by decide +kernel
theorem f205_247 : q_fetch 205 247 = some (.laload, 1, 0) := by decide +kernel
theorem f205_248 : q_fetch 205 248 = some (.iload 6, 2, 0) := by decide +kernel
theorem f205_250 : q_fetch 205 250 = some (.i2l, 1, 0) := by decide +kernel
theorem f205_251 : q_fetch 205 251 = some (.lcmp, 1, 0) := by decide +kernel
theorem f205_252 : q_fetch 205 252 = some (.ifCond .eq (5), 3, 257) := by decide +kernel
theorem f205_255 : q_fetch 205 255 = some (.iconst 0, 1, 0) := by decide +kernel
theorem f205_256 : q_fetch 205 256 = some (.ireturn, 1, 0) := by decide +kernel
theorem f205_257 : q_fetch 205 257 = some (.goto 851, 3, 1108) := by decide +kernel
theorem f205_260 : q_fetch 205 260 = some (.aload_n 1, 1, 0) := by decide +kernel
theorem f205_261 : q_fetch 205 261 = some (.invokevirtual 83, 3, 9) := by decide +kernel
theorem f205_264 : q_fetch 205 264 = some (.aload_n 2, 1, 0) := by decide +kernel
theorem f205_265 : q_fetch 205 265 = some (.invokevirtual 86, 3, 174) := by decide +kernel
theorem f205_268 : q_fetch 205 268 = some (.if_icmp .eq (840), 3, 1108) := by decide +kernel
theorem f205_271 : q_fetch 205 271 = some (.iconst 0, 1, 0) := by decide +kernel
theorem f205_272 : q_fetch 205 272 = some (.ireturn, 1, 0) := by decide +kernel
theorem f205_273 : q_fetch 205 273 = some (.aload_n 1, 1, 0) := by decide +kernel
theorem f205_274 : q_fetch 205 274 = some (.aload_n 0, 1, 0) := by decide +kernel
theorem f205_275 : q_fetch 205 275 = some (.iload 4, 2, 0) := by decide +kernel
theorem f205_277 : q_fetch 205 277 = some (.iconst 1, 1, 0) := by decide +kernel
theorem f205_278 : q_fetch 205 278 = some (.iadd, 1, 0) := by decide +kernel
theorem f205_279 : q_fetch 205 279 = some (.iaload, 1, 0) := by decide +kernel
theorem f205_280 : q_fetch 205 280 = some (.aload_n 3, 1, 0) := by decide +kernel
theorem f205_281 : q_fetch 205 281 = some (.invokestatic 87, 3, 73) := by decide +kernel
theorem f205_284 : q_fetch 205 284 = some (.istore 5, 2, 0) := by decide +kernel
theorem f205_286 : q_fetch 205 286 = some (.aload_n 2, 1, 0) := by decide +kernel
theorem f205_287 : q_fetch 205 287 = some (.aload_n 0, 1, 0) := by decide +kernel
theorem f205_288 : q_fetch 205 288 = some (.iload 4, 2, 0) := by decide +kernel
theorem f205_290 : q_fetch 205 290 = some (.iconst 1, 1, 0) := by decide +kernel
theorem f205_291 : q_fetch 205 291 = some (.iadd, 1, 0) := by decide +kernel
theorem f205_292 : q_fetch 205 292 = some (.iaload, 1, 0) := by decide +kernel
theorem f205_293 : q_fetch 205 293 = some (.invokevirtual 89, 3, 175) := by decide +kernel
theorem f205_296 : q_fetch 205 296 = some (.istore 6, 2, 0) := by decide +kernel
theorem f205_298 : q_fetch 205 298 = some (.aload_n 2, 1, 0) := by decide +kernel
theorem f205_299 : q_fetch 205 299 = some (.invokevirtual 75, 3, 143) := by decide +kernel
theorem f205_302 : q_fetch 205 302 = some (.iload 5, 2, 0) := by decide +kernel
theorem f205_304 : q_fetch 205 304 = some (.if_icmp .eq (5), 3, 309) := by decide +kernel
theorem f205_307 : q_fetch 205 307 = some (.iconst 0, 1, 0) := by decide +kernel
theorem f205_308 : q_fetch 205 308 = some (.ireturn, 1, 0) := by decide +kernel
theorem f205_309 : q_fetch 205 309 = some (.iload 5, 2, 0) := by decide +kernel
theorem f205_311 : q_fetch 205 311 = some (.ifCond .ne (22), 3, 333) := by decide +kernel
theorem f205_314 : q_fetch 205 314 = some (.aload_n 3, 1, 0) := by decide +kernel
theorem f205_315 : q_fetch 205 315 = some (.iconst 0, 1, 0) := by decide +kernel
theorem f205_316 : q_fetch 205 316 = some (.laload, 1, 0) := by decide +kernel
theorem f205_317 : q_fetch 205 317 = some (.iload 6, 2, 0) := by decide +kernel
theorem f205_319 : q_fetch 205 319 = some (.ifCond .eq (7), 3, 326) := by decide +kernel
theorem f205_322 : q_fetch 205 322 = some (.lconst 1, 1, 0) := by decide +kernel
theorem f205_323 : q_fetch 205 323 = some (.goto 4, 3, 327) := by decide +kernel
theorem f205_326 : q_fetch 205 326 = some (.lconst 0, 1, 0) := by decide +kernel
theorem f205_327 : q_fetch 205 327 = some (.lcmp, 1, 0) := by decide +kernel
theorem f205_328 : q_fetch 205 328 = some (.ifCond .eq (5), 3, 333) := by decide +kernel
theorem f205_331 : q_fetch 205 331 = some (.iconst 0, 1, 0) := by decide +kernel
theorem f205_332 : q_fetch 205 332 = some (.ireturn, 1, 0) := by decide +kernel
theorem f205_333 : q_fetch 205 333 = some (.goto 775, 3, 1108) := by decide +kernel
theorem f205_336 : q_fetch 205 336 = some (.aload_n 1, 1, 0) := by decide +kernel
theorem f205_337 : q_fetch 205 337 = some (.aload_n 0, 1, 0) := by decide +kernel
theorem f205_338 : q_fetch 205 338 = some (.iload 4, 2, 0) := by decide +kernel
theorem f205_340 : q_fetch 205 340 = some (.iconst 1, 1, 0) := by decide +kernel
theorem f205_341 : q_fetch 205 341 = some (.iadd, 1, 0) := by decide +kernel
theorem f205_342 : q_fetch 205 342 = some (.iaload, 1, 0) := by decide +kernel
theorem f205_343 : q_fetch 205 343 = some (.aload_n 0, 1, 0) := by decide +kernel
theorem f205_344 : q_fetch 205 344 = some (.iload 4, 2, 0) := by decide +kernel
theorem f205_346 : q_fetch 205 346 = some (.iconst 2, 1, 0) := by decide +kernel
theorem f205_347 : q_fetch 205 347 = some (.iadd, 1, 0) := by decide +kernel
theorem f205_348 : q_fetch 205 348 = some (.iaload, 1, 0) := by decide +kernel
theorem f205_349 : q_fetch 205 349 = some (.aload_n 3, 1, 0) := by decide +kernel
theorem f205_350 : q_fetch 205 350 = some (.invokestatic 90, 3, 75) := by decide +kernel
theorem f205_353 : q_fetch 205 353 = some (.istore 5, 2, 0) := by decide +kernel
theorem f205_355 : q_fetch 205 355 = some (.aload_n 2, 1, 0) := by decide +kernel
theorem f205_356 : q_fetch 205 356 = some (.aload_n 0, 1, 0) := by decide +kernel
theorem f205_357 : q_fetch 205 357 = some (.iload 4, 2, 0) := by decide +kernel
theorem f205_359 : q_fetch 205 359 = some (.iconst 1, 1, 0) := by decide +kernel
theorem f205_360 : q_fetch 205 360 = some (.iadd, 1, 0) := by decide +kernel
theorem f205_361 : q_fetch 205 361 = some (.iaload, 1, 0) := by decide +kernel
theorem f205_362 : q_fetch 205 362 = some (.aload_n 0, 1, 0) := by decide +kernel
theorem f205_363 : q_fetch 205 363 = some (.iload 4, 2, 0) := by decide +kernel
theorem f205_365 : q_fetch 205 365 = some (.iconst 2, 1, 0) := by decide +kernel
theorem f205_366 : q_fetch 205 366 = some (.iadd, 1, 0) := by decide +kernel
theorem f205_367 : q_fetch 205 367 = some (.iaload, 1, 0) := by decide +kernel
theorem f205_368 : q_fetch 205 368 = some (.invokevirtual 93, 3, 176) := by decide +kernel
theorem f205_371 : q_fetch 205 371 = some (.istore 6, 2, 0) := by decide +kernel
theorem f205_373 : q_fetch 205 373 = some (.aload_n 2, 1, 0) := by decide +kernel
theorem f205_374 : q_fetch 205 374 = some (.invokevirtual 75, 3, 143) := by decide +kernel
theorem f205_377 : q_fetch 205 377 = some (.iload 5, 2, 0) := by decide +kernel
theorem f205_379 : q_fetch 205 379 = some (.if_icmp .eq (5), 3, 384) := by decide +kernel
theorem f205_382 : q_fetch 205 382 = some (.iconst 0, 1, 0) := by decide +kernel
theorem f205_383 : q_fetch 205 383 = some (.ireturn, 1, 0) := by decide +kernel
theorem f205_384 : q_fetch 205 384 = some (.iload 5, 2, 0) := by decide +kernel
theorem f205_386 : q_fetch 205 386 = some (.ifCond .ne (22), 3, 408) := by decide +kernel
theorem f205_389 : q_fetch 205 389 = some (.aload_n 3, 1, 0) := by decide +kernel
theorem f205_390 : q_fetch 205 390 = some (.iconst 0, 1, 0) := by decide +kernel
theorem f205_391 : q_fetch 205 391 = some (.laload, 1, 0) := by decide +kernel
theorem f205_392 : q_fetch 205 392 = some (.iload 6, 2, 0) := by decide +kernel
theorem f205_394 : q_fetch 205 394 = some (.ifCond .eq (7), 3, 401) := by decide +kernel
theorem f205_397 : q_fetch 205 397 = some (.lconst 1, 1, 0) := by decide +kernel
theorem f205_398 : q_fetch 205 398 = some (.goto 4, 3, 402) := by decide +kernel
theorem f205_401 : q_fetch 205 401 = some (.lconst 0, 1, 0) := by decide +kernel
theorem f205_402 : q_fetch 205 402 = some (.lcmp, 1, 0) := by decide +kernel
theorem f205_403 : q_fetch 205 403 = some (.ifCond .eq (5), 3, 408) := by decide +kernel
theorem f205_406 : q_fetch 205 406 = some (.iconst 0, 1, 0) := by decide +kernel
theorem f205_407 : q_fetch 205 407 = some (.ireturn, 1, 0) := by decide +kernel
theorem f205_408 : q_fetch 205 408 = some (.goto 700, 3, 1108) := by decide +kernel
theorem f205_411 : q_fetch 205 411 = some (.aload_n 1, 1, 0) := by decide +kernel
theorem f205_412 : q_fetch 205 412 = some (.aload_n 0, 1, 0) := by decide +kernel
theorem f205_413 : q_fetch 205 413 = some (.iload 4, 2, 0) := by decide +kernel
theorem f205_415 : q_fetch 205 415 = some (.iconst 1, 1, 0) := by decide +kernel
theorem f205_416 : q_fetch 205 416 = some (.iadd, 1, 0) := by decide +kernel
theorem f205_417 : q_fetch 205 417 = some (.iaload, 1, 0) := by decide +kernel
theorem f205_418 : q_fetch 205 418 = some (.aload_n 0, 1, 0) := by decide +kernel
theorem f205_419 : q_fetch 205 419 = some (.iload 4, 2, 0) := by decide +kernel
theorem f205_421 : q_fetch 205 421 = some (.iconst 2, 1, 0) := by decide +kernel
theorem f205_422 : q_fetch 205 422 = some (.iadd, 1, 0) := by decide +kernel
theorem f205_423 : q_fetch 205 423 = some (.iaload, 1, 0) := by decide +kernel
theorem f205_424 : q_fetch 205 424 = some (.aload_n 3, 1, 0) := by decide +kernel
theorem f205_425 : q_fetch 205 425 = some (.invokestatic 94, 3, 79) := by decide +kernel
theorem f205_428 : q_fetch 205 428 = some (.istore 5, 2, 0) := by decide +kernel
theorem f205_430 : q_fetch 205 430 = some (.aload_n 2, 1, 0) := by decide +kernel
theorem f205_431 : q_fetch 205 431 = some (.aload_n 0, 1, 0) := by decide +kernel
theorem f205_432 : q_fetch 205 432 = some (.iload 4, 2, 0) := by decide +kernel
theorem f205_434 : q_fetch 205 434 = some (.iconst 1, 1, 0) := by decide +kernel
theorem f205_435 : q_fetch 205 435 = some (.iadd, 1, 0) := by decide +kernel
theorem f205_436 : q_fetch 205 436 = some (.iaload, 1, 0) := by decide +kernel
theorem f205_437 : q_fetch 205 437 = some (.aload_n 0, 1, 0) := by decide +kernel
theorem f205_438 : q_fetch 205 438 = some (.iload 4, 2, 0) := by decide +kernel
theorem f205_440 : q_fetch 205 440 = some (.iconst 2, 1, 0) := by decide +kernel
theorem f205_441 : q_fetch 205 441 = some (.iadd, 1, 0) := by decide +kernel
theorem f205_442 : q_fetch 205 442 = some (.iaload, 1, 0) := by decide +kernel
theorem f205_443 : q_fetch 205 443 = some (.invokevirtual 96, 3, 177) := by decide +kernel
theorem f205_446 : q_fetch 205 446 = some (.istore 6, 2, 0) := by decide +kernel
theorem f205_448 : q_fetch 205 448 = some (.aload_n 2, 1, 0) := by decide +kernel
theorem f205_449 : q_fetch 205 449 = some (.invokevirtual 75, 3, 143) := by decide +kernel
theorem f205_452 : q_fetch 205 452 = some (.iload 5, 2, 0) := by decide +kernel
theorem f205_454 : q_fetch 205 454 = some (.if_icmp .eq (5), 3, 459) := by decide +kernel
theorem f205_457 : q_fetch 205 457 = some (.iconst 0, 1, 0) := by decide +kernel
theorem f205_458 : q_fetch 205 458 = some (.ireturn, 1, 0) := by decide +kernel
theorem f205_459 : q_fetch 205 459 = some (.iload 5, 2, 0) := by decide +kernel
theorem f205_461 : q_fetch 205 461 = some (.ifCond .ne (22), 3, 483) := by decide +kernel
theorem f205_464 : q_fetch 205 464 = some (.aload_n 3, 1, 0) := by decide +kernel
theorem f205_465 : q_fetch 205 465 = some (.iconst 0, 1, 0) := by decide +kernel
theorem f205_466 : q_fetch 205 466 = some (.laload, 1, 0) := by decide +kernel
theorem f205_467 : q_fetch 205 467 = some (.iload 6, 2, 0) := by decide +kernel
theorem f205_469 : q_fetch 205 469 = some (.ifCond .eq (7), 3, 476) := by decide +kernel
theorem f205_472 : q_fetch 205 472 = some (.lconst 1, 1, 0) := by decide +kernel
theorem f205_473 : q_fetch 205 473 = some (.goto 4, 3, 477) := by decide +kernel
theorem f205_476 : q_fetch 205 476 = some (.lconst 0, 1, 0) := by decide +kernel
theorem f205_477 : q_fetch 205 477 = some (.lcmp, 1, 0) := by decide +kernel
theorem f205_478 : q_fetch 205 478 = some (.ifCond .eq (5), 3, 483) := by decide +kernel
theorem f205_481 : q_fetch 205 481 = some (.iconst 0, 1, 0) := by decide +kernel
theorem f205_482 : q_fetch 205 482 = some (.ireturn, 1, 0) := by decide +kernel
theorem f205_483 : q_fetch 205 483 = some (.goto 625, 3, 1108) := by decide +kernel
theorem f205_486 : q_fetch 205 486 = some (.aload_n 1, 1, 0) := by decide +kernel
theorem f205_487 : q_fetch 205 487 = some (.aload_n 0, 1, 0) := by decide +kernel
theorem f205_488 : q_fetch 205 488 = some (.iload 4, 2, 0) := by decide +kernel
theorem f205_490 : q_fetch 205 490 = some (.iconst 1, 1, 0) := by decide +kernel
theorem f205_491 : q_fetch 205 491 = some (.iadd, 1, 0) := by decide +kernel
theorem f205_492 : q_fetch 205 492 = some (.iaload, 1, 0) := by decide +kernel
theorem f205_493 : q_fetch 205 493 = some (.aload_n 0, 1, 0) := by decide +kernel
theorem f205_494 : q_fetch 205 494 = some (.iload 4, 2, 0) := by decide +kernel
theorem f205_496 : q_fetch 205 496 = some (.iconst 2, 1, 0) := by decide +kernel
theorem f205_497 : q_fetch 205 497 = some (.iadd, 1, 0) := by decide +kernel
theorem f205_498 : q_fetch 205 498 = some (.iaload, 1, 0) := by decide +kernel
theorem f205_499 : q_fetch 205 499 = some (.aload_n 0, 1, 0) := by decide +kernel
theorem f205_500 : q_fetch 205 500 = some (.iload 4, 2, 0) := by decide +kernel
theorem f205_502 : q_fetch 205 502 = some (.iconst 3, 1, 0) := by decide +kernel
theorem f205_503 : q_fetch 205 503 = some (.iadd, 1, 0) := by decide +kernel
theorem f205_504 : q_fetch 205 504 = some (.iaload, 1, 0) := by decide +kernel
theorem f205_505 : q_fetch 205 505 = some (.aload_n 0, 1, 0) := by decide +kernel
theorem f205_506 : q_fetch 205 506 = some (.iload 4, 2, 0) := by decide +kernel
theorem f205_508 : q_fetch 205 508 = some (.iconst 4, 1, 0) := by decide +kernel
theorem f205_509 : q_fetch 205 509 = some (.iadd, 1, 0) := by decide +kernel
theorem f205_510 : q_fetch 205 510 = some (.iaload, 1, 0) := by decide +kernel
theorem f205_511 : q_fetch 205 511 = some (.aload_n 3, 1, 0) := by decide +kernel
theorem f205_512 : q_fetch 205 512 = some (.invokestatic 97, 3, 85) := by decide +kernel
theorem f205_515 : q_fetch 205 515 = some (.istore 5, 2, 0) := by decide +kernel
theorem f205_517 : q_fetch 205 517 = some (.aload_n 2, 1, 0) := by decide +kernel
theorem f205_518 : q_fetch 205 518 = some (.aload_n 0, 1, 0) := by decide +kernel
theorem f205_519 : q_fetch 205 519 = some (.iload 4, 2, 0) := by decide +kernel
theorem f205_521 : q_fetch 205 521 = some (.iconst 1, 1, 0) := by decide +kernel
theorem f205_522 : q_fetch 205 522 = some (.iadd, 1, 0) := by decide +kernel
theorem f205_523 : q_fetch 205 523 = some (.iaload, 1, 0) := by decide +kernel
theorem f205_524 : q_fetch 205 524 = some (.aload_n 0, 1, 0) := by decide +kernel
theorem f205_525 : q_fetch 205 525 = some (.iload 4, 2, 0) := by decide +kernel
theorem f205_527 : q_fetch 205 527 = some (.iconst 2, 1, 0) := by decide +kernel
theorem f205_528 : q_fetch 205 528 = some (.iadd, 1, 0) := by decide +kernel
theorem f205_529 : q_fetch 205 529 = some (.iaload, 1, 0) := by decide +kernel
theorem f205_530 : q_fetch 205 530 = some (.aload_n 0, 1, 0) := by decide +kernel
theorem f205_531 : q_fetch 205 531 = some (.iload 4, 2, 0) := by decide +kernel
theorem f205_533 : q_fetch 205 533 = some (.iconst 3, 1, 0) := by decide +kernel
theorem f205_534 : q_fetch 205 534 = some (.iadd, 1, 0) := by decide +kernel
theorem f205_535 : q_fetch 205 535 = some (.iaload, 1, 0) := by decide +kernel
theorem f205_536 : q_fetch 205 536 = some (.aload_n 0, 1, 0) := by decide +kernel
theorem f205_537 : q_fetch 205 537 = some (.iload 4, 2, 0) := by decide +kernel
theorem f205_539 : q_fetch 205 539 = some (.iconst 4, 1, 0) := by decide +kernel
theorem f205_540 : q_fetch 205 540 = some (.iadd, 1, 0) := by decide +kernel
theorem f205_541 : q_fetch 205 541 = some (.iaload, 1, 0) := by decide +kernel
theorem f205_542 : q_fetch 205 542 = some (.invokevirtual 100, 3, 179) := by decide +kernel
theorem f205_545 : q_fetch 205 545 = some (.istore 6, 2, 0) := by decide +kernel
theorem f205_547 : q_fetch 205 547 = some (.aload_n 2, 1, 0) := by decide +kernel
theorem f205_548 : q_fetch 205 548 = some (.invokevirtual 75, 3, 143) := by decide +kernel
theorem f205_551 : q_fetch 205 551 = some (.iload 5, 2, 0) := by decide +kernel
theorem f205_553 : q_fetch 205 553 = some (.if_icmp .eq (5), 3, 558) := by decide +kernel
theorem f205_556 : q_fetch 205 556 = some (.iconst 0, 1, 0) := by decide +kernel
theorem f205_557 : q_fetch 205 557 = some (.ireturn, 1, 0) := by decide +kernel
theorem f205_558 : q_fetch 205 558 = some (.iload 5, 2, 0) := by decide +kernel
theorem f205_560 : q_fetch 205 560 = some (.ifCond .ne (15), 3, 575) := by decide +kernel
theorem f205_563 : q_fetch 205 563 = some (.aload_n 3, 1, 0) := by decide +kernel
theorem f205_564 : q_fetch 205 564 = some (.iconst 0, 1, 0) := by decide +kernel
theorem f205_565 : q_fetch 205 565 = some (.laload, 1, 0) := by decide +kernel
theorem f205_566 : q_fetch 205 566 = some (.iload 6, 2, 0) := by decide +kernel
theorem f205_568 : q_fetch 205 568 = some (.i2l, 1, 0) := by decide +kernel
theorem f205_569 : q_fetch 205 569 = some (.lcmp, 1, 0) := by decide +kernel
theorem f205_570 : q_fetch 205 570 = some (.ifCond .eq (5), 3, 575) := by decide +kernel
theorem f205_573 : q_fetch 205 573 = some (.iconst 0, 1, 0) := by decide +kernel
theorem f205_574 : q_fetch 205 574 = some (.ireturn, 1, 0) := by decide +kernel
theorem f205_575 : q_fetch 205 575 = some (.goto 533, 3, 1108) := by decide +kernel
theorem f205_578 : q_fetch 205 578 = some (.aload_n 1, 1, 0) := by decide +kernel
theorem f205_579 : q_fetch 205 579 = some (.aload_n 0, 1, 0) := by decide +kernel
theorem f205_580 : q_fetch 205 580 = some (.iload 4, 2, 0) := by decide +kernel
theorem f205_582 : q_fetch 205 582 = some (.iconst 1, 1, 0) := by decide +kernel
theorem f205_583 : q_fetch 205 583 = some (.iadd, 1, 0) := by decide +kernel
theorem f205_584 : q_fetch 205 584 = some (.iaload, 1, 0) := by decide +kernel
theorem f205_585 : q_fetch 205 585 = some (.aload_n 0, 1, 0) := by decide +kernel
theorem f205_586 : q_fetch 205 586 = some (.iload 4, 2, 0) := by decide +kernel
theorem f205_588 : q_fetch 205 588 = some (.iconst 2, 1, 0) := by decide +kernel
theorem f205_589 : q_fetch 205 589 = some (.iadd, 1, 0) := by decide +kernel
theorem f205_590 : q_fetch 205 590 = some (.iaload, 1, 0) := by decide +kernel
theorem f205_591 : q_fetch 205 591 = some (.aload_n 0, 1, 0) := by decide +kernel
theorem f205_592 : q_fetch 205 592 = some (.iload 4, 2, 0) := by decide +kernel
theorem f205_594 : q_fetch 205 594 = some (.iconst 3, 1, 0) := by decide +kernel
theorem f205_595 : q_fetch 205 595 = some (.iadd, 1, 0) := by decide +kernel
theorem f205_596 : q_fetch 205 596 = some (.iaload, 1, 0) := by decide +kernel
theorem f205_597 : q_fetch 205 597 = some (.aload_n 0, 1, 0) := by decide +kernel
theorem f205_598 : q_fetch 205 598 = some (.iload 4, 2, 0) := by decide +kernel
theorem f205_600 : q_fetch 205 600 = some (.iconst 4, 1, 0) := by decide +kernel
theorem f205_601 : q_fetch 205 601 = some (.iadd, 1, 0) := by decide +kernel
theorem f205_602 : q_fetch 205 602 = some (.iaload, 1, 0) := by decide +kernel
theorem f205_603 : q_fetch 205 603 = some (.aload_n 0, 1, 0) := by decide +kernel
theorem f205_604 : q_fetch 205 604 = some (.iload 4, 2, 0) := by decide +kernel
theorem f205_606 : q_fetch 205 606 = some (.iconst 5, 1, 0) := by decide +kernel
theorem f205_607 : q_fetch 205 607 = some (.iadd, 1, 0) := by decide +kernel
theorem f205_608 : q_fetch 205 608 = some (.iaload, 1, 0) := by decide +kernel
theorem f205_609 : q_fetch 205 609 = some (.ifCond .eq (7), 3, 616) := by decide +kernel
theorem f205_612 : q_fetch 205 612 = some (.iconst 1, 1, 0) := by decide +kernel
theorem f205_613 : q_fetch 205 613 = some (.goto 4, 3, 617) := by decide +kernel
theorem f205_616 : q_fetch 205 616 = some (.iconst 0, 1, 0) := by decide +kernel
theorem f205_617 : q_fetch 205 617 = some (.invokestatic 101, 3, 88) := by decide +kernel
theorem f205_620 : q_fetch 205 620 = some (.istore 5, 2, 0) := by decide +kernel
theorem f205_622 : q_fetch 205 622 = some (.aload_n 2, 1, 0) := by decide +kernel
theorem f205_623 : q_fetch 205 623 = some (.aload_n 0, 1, 0) := by decide +kernel
theorem f205_624 : q_fetch 205 624 = some (.iload 4, 2, 0) := by decide +kernel
theorem f205_626 : q_fetch 205 626 = some (.iconst 1, 1, 0) := by decide +kernel
theorem f205_627 : q_fetch 205 627 = some (.iadd, 1, 0) := by decide +kernel
theorem f205_628 : q_fetch 205 628 = some (.iaload, 1, 0) := by decide +kernel
theorem f205_629 : q_fetch 205 629 = some (.aload_n 0, 1, 0) := by decide +kernel
theorem f205_630 : q_fetch 205 630 = some (.iload 4, 2, 0) := by decide +kernel
theorem f205_632 : q_fetch 205 632 = some (.iconst 2, 1, 0) := by decide +kernel
theorem f205_633 : q_fetch 205 633 = some (.iadd, 1, 0) := by decide +kernel
theorem f205_634 : q_fetch 205 634 = some (.iaload, 1, 0) := by decide +kernel
theorem f205_635 : q_fetch 205 635 = some (.aload_n 0, 1, 0) := by decide +kernel
theorem f205_636 : q_fetch 205 636 = some (.iload 4, 2, 0) := by decide +kernel
theorem f205_638 : q_fetch 205 638 = some (.iconst 3, 1, 0) := by decide +kernel
theorem f205_639 : q_fetch 205 639 = some (.iadd, 1, 0) := by decide +kernel
theorem f205_640 : q_fetch 205 640 = some (.iaload, 1, 0) := by decide +kernel
theorem f205_641 : q_fetch 205 641 = some (.aload_n 0, 1, 0) := by decide +kernel
theorem f205_642 : q_fetch 205 642 = some (.iload 4, 2, 0) := by decide +kernel
theorem f205_644 : q_fetch 205 644 = some (.iconst 4, 1, 0) := by decide +kernel
theorem f205_645 : q_fetch 205 645 = some (.iadd, 1, 0) := by decide +kernel
theorem f205_646 : q_fetch 205 646 = some (.iaload, 1, 0) := by decide +kernel
theorem f205_647 : q_fetch 205 647 = some (.aload_n 0, 1, 0) := by decide +kernel
theorem f205_648 : q_fetch 205 648 = some (.iload 4, 2, 0) := by decide +kernel
theorem f205_650 : q_fetch 205 650 = some (.iconst 5, 1, 0) := by decide +kernel
theorem f205_651 : q_fetch 205 651 = some (.iadd, 1, 0) := by decide +kernel
theorem f205_652 : q_fetch 205 652 = some (.iaload, 1, 0) := by decide +kernel
theorem f205_653 : q_fetch 205 653 = some (.ifCond .eq (7), 3, 660) := by decide +kernel
theorem f205_656 : q_fetch 205 656 = some (.iconst 1, 1, 0) := by decide +kernel
theorem f205_657 : q_fetch 205 657 = some (.goto 4, 3, 661) := by decide +kernel
theorem f205_660 : q_fetch 205 660 = some (.iconst 0, 1, 0) := by decide +kernel
theorem f205_661 : q_fetch 205 661 = some (.invokevirtual 104, 3, 180) := by decide +kernel
theorem f205_664 : q_fetch 205 664 = some (.aload_n 2, 1, 0) := by decide +kernel
theorem f205_665 : q_fetch 205 665 = some (.invokevirtual 75, 3, 143) := by decide +kernel
theorem f205_668 : q_fetch 205 668 = some (.iload 5, 2, 0) := by decide +kernel
theorem f205_670 : q_fetch 205 670 = some (.if_icmp .eq (5), 3, 675) := by decide +kernel
theorem f205_673 : q_fetch 205 673 = some (.iconst 0, 1, 0) := by decide +kernel
theorem f205_674 : q_fetch 205 674 = some (.ireturn, 1, 0) := by decide +kernel
theorem f205_675 : q_fetch 205 675 = some (.goto 433, 3, 1108) := by decide +kernel
theorem f205_678 : q_fetch 205 678 = some (.aload_n 1, 1, 0) := by decide +kernel
theorem f205_679 : q_fetch 205 679 = some (.aload_n 0, 1, 0) := by decide +kernel
theorem f205_680 : q_fetch 205 680 = some (.iload 4, 2, 0) := by decide +kernel
theorem f205_682 : q_fetch 205 682 = some (.iconst 1, 1, 0) := by decide +kernel
theorem f205_683 : q_fetch 205 683 = some (.iadd, 1, 0) := by decide +kernel
theorem f205_684 : q_fetch 205 684 = some (.iaload, 1, 0) := by decide +kernel
theorem f205_685 : q_fetch 205 685 = some (.aload_n 3, 1, 0) := by decide +kernel
theorem f205_686 : q_fetch 205 686 = some (.invokestatic 105, 3, 93) := by decide +kernel
theorem f205_689 : q_fetch 205 689 = some (.istore 5, 2, 0) := by decide +kernel
theorem f205_691 : q_fetch 205 691 = some (.aload_n 2, 1, 0) := by decide +kernel
theorem f205_692 : q_fetch 205 692 = some (.aload_n 0, 1, 0) := by decide +kernel
theorem f205_693 : q_fetch 205 693 = some (.iload 4, 2, 0) := by decide +kernel
theorem f205_695 : q_fetch 205 695 = some (.iconst 1, 1, 0) := by decide +kernel
theorem f205_696 : q_fetch 205 696 = some (.iadd, 1, 0) := by decide +kernel
theorem f205_697 : q_fetch 205 697 = some (.iaload, 1, 0) := by decide +kernel
theorem f205_698 : q_fetch 205 698 = some (.invokevirtual 107, 3, 181) := by decide +kernel
theorem f205_701 : q_fetch 205 701 = some (.istore 6, 2, 0) := by decide +kernel
theorem f205_703 : q_fetch 205 703 = some (.aload_n 2, 1, 0) := by decide +kernel
theorem f205_704 : q_fetch 205 704 = some (.invokevirtual 75, 3, 143) := by decide +kernel
theorem f205_707 : q_fetch 205 707 = some (.iload 5, 2, 0) := by decide +kernel
theorem f205_709 : q_fetch 205 709 = some (.if_icmp .eq (5), 3, 714) := by decide +kernel
theorem f205_712 : q_fetch 205 712 = some (.iconst 0, 1, 0) := by decide +kernel
theorem f205_713 : q_fetch 205 713 = some (.ireturn, 1, 0) := by decide +kernel
theorem f205_714 : q_fetch 205 714 = some (.iload 5, 2, 0) := by decide +kernel
theorem f205_716 : q_fetch 205 716 = some (.ifCond .ne (22), 3, 738) := by decide +kernel
theorem f205_719 : q_fetch 205 719 = some (.aload_n 3, 1, 0) := by decide +kernel
theorem f205_720 : q_fetch 205 720 = some (.iconst 0, 1, 0) := by decide +kernel
theorem f205_721 : q_fetch 205 721 = some (.laload, 1, 0) := by decide +kernel
theorem f205_722 : q_fetch 205 722 = some (.iload 6, 2, 0) := by decide +kernel
theorem f205_724 : q_fetch 205 724 = some (.ifCond .eq (7), 3, 731) := by decide +kernel
theorem f205_727 : q_fetch 205 727 = some (.lconst 1, 1, 0) := by decide +kernel
theorem f205_728 : q_fetch 205 728 = some (.goto 4, 3, 732) := by decide +kernel
theorem f205_731 : q_fetch 205 731 = some (.lconst 0, 1, 0) := by decide +kernel
theorem f205_732 : q_fetch 205 732 = some (.lcmp, 1, 0) := by decide +kernel
theorem f205_733 : q_fetch 205 733 = some (.ifCond .eq (5), 3, 738) := by decide +kernel
theorem f205_736 : q_fetch 205 736 = some (.iconst 0, 1, 0) := by decide +kernel
theorem f205_737 : q_fetch 205 737 = some (.ireturn, 1, 0) := by decide +kernel
theorem f205_738 : q_fetch 205 738 = some (.goto 370, 3, 1108) := by decide +kernel
theorem f205_741 : q_fetch 205 741 = some (.aload_n 1, 1, 0) := by decide +kernel
theorem f205_742 : q_fetch 205 742 = some (.aload_n 0, 1, 0) := by decide +kernel
theorem f205_743 : q_fetch 205 743 = some (.iload 4, 2, 0) := by decide +kernel
theorem f205_745 : q_fetch 205 745 = some (.iconst 1, 1, 0) := by decide +kernel
theorem f205_746 : q_fetch 205 746 = some (.iadd, 1, 0) := by decide +kernel
theorem f205_747 : q_fetch 205 747 = some (.iaload, 1, 0) := by decide +kernel
theorem f205_748 : q_fetch 205 748 = some (.aload_n 3, 1, 0) := by decide +kernel
theorem f205_749 : q_fetch 205 749 = some (.invokestatic 108, 3, 101) := by decide +kernel
theorem f205_752 : q_fetch 205 752 = some (.istore 5, 2, 0) := by decide +kernel
theorem f205_754 : q_fetch 205 754 = some (.aload_n 2, 1, 0) := by decide +kernel
theorem f205_755 : q_fetch 205 755 = some (.aload_n 0, 1, 0) := by decide +kernel
theorem f205_756 : q_fetch 205 756 = some (.iload 4, 2, 0) := by decide +kernel
theorem f205_758 : q_fetch 205 758 = some (.iconst 1, 1, 0) := by decide +kernel
theorem f205_759 : q_fetch 205 759 = some (.iadd, 1, 0) := by decide +kernel
theorem f205_760 : q_fetch 205 760 = some (.iaload, 1, 0) := by decide +kernel
theorem f205_761 : q_fetch 205 761 = some (.invokevirtual 110, 3, 198) := by decide +kernel
theorem f205_764 : q_fetch 205 764 = some (.istore 6, 2, 0) := by decide +kernel
theorem f205_766 : q_fetch 205 766 = some (.aload_n 2, 1, 0) := by decide +kernel
theorem f205_767 : q_fetch 205 767 = some (.invokevirtual 75, 3, 143) := by decide +kernel
theorem f205_770 : q_fetch 205 770 = some (.iload 5, 2, 0) := by decide +kernel
theorem f205_772 : q_fetch 205 772 = some (.if_icmp .eq (5), 3, 777) := by decide +kernel
theorem f205_775 : q_fetch 205 775 = some (.iconst 0, 1, 0) := by decide +kernel
theorem f205_776 : q_fetch 205 776 = some (.ireturn, 1, 0) := by decide +kernel
theorem f205_777 : q_fetch 205 777 = some (.iload 5, 2, 0) := by decide +kernel
theorem f205_779 : q_fetch 205 779 = some (.ifCond .ne (15), 3, 794) := by decide +kernel
theorem f205_782 : q_fetch 205 782 = some (.aload_n 3, 1, 0) := by decide +kernel
theorem f205_783 : q_fetch 205 783 = some (.iconst 0, 1, 0) := by decide +kernel
theorem f205_784 : q_fetch 205 784 = some (.laload, 1, 0) := by decide +kernel
theorem f205_785 : q_fetch 205 785 = some (.iload 6, 2, 0) := by decide +kernel
theorem f205_787 : q_fetch 205 787 = some (.i2l, 1, 0) := by decide +kernel
theorem f205_788 : q_fetch 205 788 = some (.lcmp, 1, 0) := by decide +kernel
theorem f205_789 : q_fetch 205 789 = some (.ifCond .eq (5), 3, 794) := by decide +kernel
theorem f205_792 : q_fetch 205 792 = some (.iconst 0, 1, 0) := by decide +kernel
theorem f205_793 : q_fetch 205 793 = some (.ireturn, 1, 0) := by decide +kernel
theorem f205_794 : q_fetch 205 794 = some (.goto 314, 3, 1108) := by decide +kernel
theorem f205_797 : q_fetch 205 797 = some (.aload_n 1, 1, 0) := by decide +kernel
theorem f205_798 : q_fetch 205 798 = some (.aload_n 0, 1, 0) := by decide +kernel
theorem f205_799 : q_fetch 205 799 = some (.iload 4, 2, 0) := by decide +kernel
theorem f205_801 : q_fetch 205 801 = some (.iconst 1, 1, 0) := by decide +kernel
theorem f205_802 : q_fetch 205 802 = some (.iadd, 1, 0) := by decide +kernel
theorem f205_803 : q_fetch 205 803 = some (.iaload, 1, 0) := by decide +kernel
theorem f205_804 : q_fetch 205 804 = some (.aload_n 0, 1, 0) := by decide +kernel
theorem f205_805 : q_fetch 205 805 = some (.iload 4, 2, 0) := by decide +kernel
theorem f205_807 : q_fetch 205 807 = some (.iconst 2, 1, 0) := by decide +kernel
theorem f205_808 : q_fetch 205 808 = some (.iadd, 1, 0) := by decide +kernel
theorem f205_809 : q_fetch 205 809 = some (.iaload, 1, 0) := by decide +kernel
theorem f205_810 : q_fetch 205 810 = some (.aload_n 0, 1, 0) := by decide +kernel
theorem f205_811 : q_fetch 205 811 = some (.iload 4, 2, 0) := by decide +kernel
theorem f205_813 : q_fetch 205 813 = some (.iconst 3, 1, 0) := by decide +kernel
theorem f205_814 : q_fetch 205 814 = some (.iadd, 1, 0) := by decide +kernel
theorem f205_815 : q_fetch 205 815 = some (.iaload, 1, 0) := by decide +kernel
theorem f205_816 : q_fetch 205 816 = some (.aload_n 0, 1, 0) := by decide +kernel
theorem f205_817 : q_fetch 205 817 = some (.iload 4, 2, 0) := by decide +kernel
theorem f205_819 : q_fetch 205 819 = some (.iconst 4, 1, 0) := by decide +kernel
theorem f205_820 : q_fetch 205 820 = some (.iadd, 1, 0) := by decide +kernel
theorem f205_821 : q_fetch 205 821 = some (.iaload, 1, 0) := by decide +kernel
theorem f205_822 : q_fetch 205 822 = some (.aload_n 3, 1, 0) := by decide +kernel
theorem f205_823 : q_fetch 205 823 = some (.invokestatic 111, 3, 117) := by decide +kernel
theorem f205_826 : q_fetch 205 826 = some (.istore 5, 2, 0) := by decide +kernel
theorem f205_828 : q_fetch 205 828 = some (.aload_n 2, 1, 0) := by decide +kernel
theorem f205_829 : q_fetch 205 829 = some (.aload_n 0, 1, 0) := by decide +kernel
theorem f205_830 : q_fetch 205 830 = some (.iload 4, 2, 0) := by decide +kernel
theorem f205_832 : q_fetch 205 832 = some (.iconst 1, 1, 0) := by decide +kernel
theorem f205_833 : q_fetch 205 833 = some (.iadd, 1, 0) := by decide +kernel
theorem f205_834 : q_fetch 205 834 = some (.iaload, 1, 0) := by decide +kernel
theorem f205_835 : q_fetch 205 835 = some (.aload_n 0, 1, 0) := by decide +kernel
theorem f205_836 : q_fetch 205 836 = some (.iload 4, 2, 0) := by decide +kernel
theorem f205_838 : q_fetch 205 838 = some (.iconst 2, 1, 0) := by decide +kernel
theorem f205_839 : q_fetch 205 839 = some (.iadd, 1, 0) := by decide +kernel
theorem f205_840 : q_fetch 205 840 = some (.iaload, 1, 0) := by decide +kernel
theorem f205_841 : q_fetch 205 841 = some (.aload_n 0, 1, 0) := by decide +kernel
theorem f205_842 : q_fetch 205 842 = some (.iload 4, 2, 0) := by decide +kernel
theorem f205_844 : q_fetch 205 844 = some (.iconst 3, 1, 0) := by decide +kernel
theorem f205_845 : q_fetch 205 845 = some (.iadd, 1, 0) := by decide +kernel
theorem f205_846 : q_fetch 205 846 = some (.iaload, 1, 0) := by decide +kernel
theorem f205_847 : q_fetch 205 847 = some (.aload_n 0, 1, 0) := by decide +kernel
theorem f205_848 : q_fetch 205 848 = some (.iload 4, 2, 0) := by decide +kernel
theorem f205_850 : q_fetch 205 850 = some (.iconst 4, 1, 0) := by decide +kernel
theorem f205_851 : q_fetch 205 851 = some (.iadd, 1, 0) := by decide +kernel
theorem f205_852 : q_fetch 205 852 = some (.iaload, 1, 0) := by decide +kernel
theorem f205_853 : q_fetch 205 853 = some (.invokevirtual 113, 3, 183) := by decide +kernel
theorem f205_856 : q_fetch 205 856 = some (.istore 6, 2, 0) := by decide +kernel
theorem f205_858 : q_fetch 205 858 = some (.aload_n 2, 1, 0) := by decide +kernel
theorem f205_859 : q_fetch 205 859 = some (.invokevirtual 75, 3, 143) := by decide +kernel
theorem f205_862 : q_fetch 205 862 = some (.iload 5, 2, 0) := by decide +kernel
theorem f205_864 : q_fetch 205 864 = some (.if_icmp .eq (5), 3, 869) := by decide +kernel
theorem f205_867 : q_fetch 205 867 = some (.iconst 0, 1, 0) := by decide +kernel
theorem f205_868 : q_fetch 205 868 = some (.ireturn, 1, 0) := by decide +kernel
theorem f205_869 : q_fetch 205 869 = some (.iload 5, 2, 0) := by decide +kernel
theorem f205_871 : q_fetch 205 871 = some (.ifCond .ne (22), 3, 893) := by decide +kernel
theorem f205_874 : q_fetch 205 874 = some (.aload_n 3, 1, 0) := by decide +kernel
theorem f205_875 : q_fetch 205 875 = some (.iconst 0, 1, 0) := by decide +kernel
theorem f205_876 : q_fetch 205 876 = some (.laload, 1, 0) := by decide +kernel
theorem f205_877 : q_fetch 205 877 = some (.iload 6, 2, 0) := by decide +kernel
theorem f205_879 : q_fetch 205 879 = some (.ifCond .eq (7), 3, 886) := by decide +kernel
theorem f205_882 : q_fetch 205 882 = some (.lconst 1, 1, 0) := by decide +kernel
theorem f205_883 : q_fetch 205 883 = some (.goto 4, 3, 887) := by decide +kernel
theorem f205_886 : q_fetch 205 886 = some (.lconst 0, 1, 0) := by decide +kernel
theorem f205_887 : q_fetch 205 887 = some (.lcmp, 1, 0) := by decide +kernel
theorem f205_888 : q_fetch 205 888 = some (.ifCond .eq (5), 3, 893) := by decide +kernel
theorem f205_891 : q_fetch 205 891 = some (.iconst 0, 1, 0) := by decide +kernel
theorem f205_892 : q_fetch 205 892 = some (.ireturn, 1, 0) := by decide +kernel
theorem f205_893 : q_fetch 205 893 = some (.goto 215, 3, 1108) := by decide +kernel
theorem f205_896 : q_fetch 205 896 = some (.aload_n 1, 1, 0) := by decide +kernel
theorem f205_897 : q_fetch 205 897 = some (.aload_n 0, 1, 0) := by decide +kernel
theorem f205_898 : q_fetch 205 898 = some (.iload 4, 2, 0) := by decide +kernel
theorem f205_900 : q_fetch 205 900 = some (.iconst 1, 1, 0) := by decide +kernel
theorem f205_901 : q_fetch 205 901 = some (.iadd, 1, 0) := by decide +kernel
theorem f205_902 : q_fetch 205 902 = some (.iaload, 1, 0) := by decide +kernel
theorem f205_903 : q_fetch 205 903 = some (.aload_n 0, 1, 0) := by decide +kernel
theorem f205_904 : q_fetch 205 904 = some (.iload 4, 2, 0) := by decide +kernel
theorem f205_906 : q_fetch 205 906 = some (.iconst 2, 1, 0) := by decide +kernel
theorem f205_907 : q_fetch 205 907 = some (.iadd, 1, 0) := by decide +kernel
theorem f205_908 : q_fetch 205 908 = some (.iaload, 1, 0) := by decide +kernel
theorem f205_909 : q_fetch 205 909 = some (.aload_n 0, 1, 0) := by decide +kernel
theorem f205_910 : q_fetch 205 910 = some (.iload 4, 2, 0) := by decide +kernel
theorem f205_912 : q_fetch 205 912 = some (.iconst 3, 1, 0) := by decide +kernel
theorem f205_913 : q_fetch 205 913 = some (.iadd, 1, 0) := by decide +kernel
theorem f205_914 : q_fetch 205 914 = some (.iaload, 1, 0) := by decide +kernel
theorem f205_915 : q_fetch 205 915 = some (.aload_n 3, 1, 0) := by decide +kernel
theorem f205_916 : q_fetch 205 916 = some (.invokestatic 114, 3, 138) := by decide +kernel
theorem f205_919 : q_fetch 205 919 = some (.istore 5, 2, 0) := by decide +kernel
theorem f205_921 : q_fetch 205 921 = some (.aload_n 2, 1, 0) := by decide +kernel
theorem f205_922 : q_fetch 205 922 = some (.aload_n 0, 1, 0) := by decide +kernel
theorem f205_923 : q_fetch 205 923 = some (.iload 4, 2, 0) := by decide +kernel
theorem f205_925 : q_fetch 205 925 = some (.iconst 1, 1, 0) := by decide +kernel
theorem f205_926 : q_fetch 205 926 = some (.iadd, 1, 0) := by decide +kernel
theorem f205_927 : q_fetch 205 927 = some (.iaload, 1, 0) := by decide +kernel
theorem f205_928 : q_fetch 205 928 = some (.aload_n 0, 1, 0) := by decide +kernel
theorem f205_929 : q_fetch 205 929 = some (.iload 4, 2, 0) := by decide +kernel
theorem f205_931 : q_fetch 205 931 = some (.iconst 2, 1, 0) := by decide +kernel
theorem f205_932 : q_fetch 205 932 = some (.iadd, 1, 0) := by decide +kernel
theorem f205_933 : q_fetch 205 933 = some (.iaload, 1, 0) := by decide +kernel
theorem f205_934 : q_fetch 205 934 = some (.aload_n 0, 1, 0) := by decide +kernel
theorem f205_935 : q_fetch 205 935 = some (.iload 4, 2, 0) := by decide +kernel
theorem f205_937 : q_fetch 205 937 = some (.iconst 3, 1, 0) := by decide +kernel
theorem f205_938 : q_fetch 205 938 = some (.iadd, 1, 0) := by decide +kernel
theorem f205_939 : q_fetch 205 939 = some (.iaload, 1, 0) := by decide +kernel
theorem f205_940 : q_fetch 205 940 = some (.invokevirtual 117, 3, 196) := by decide +kernel
theorem f205_943 : q_fetch 205 943 = some (.istore 6, 2, 0) := by decide +kernel
theorem f205_945 : q_fetch 205 945 = some (.aload_n 2, 1, 0) := by decide +kernel
theorem f205_946 : q_fetch 205 946 = some (.invokevirtual 75, 3, 143) := by decide +kernel
theorem f205_949 : q_fetch 205 949 = some (.iload 5, 2, 0) := by decide +kernel
theorem f205_951 : q_fetch 205 951 = some (.if_icmp .eq (5), 3, 956) := by decide +kernel
theorem f205_954 : q_fetch 205 954 = some (.iconst 0, 1, 0) := by decide +kernel
theorem f205_955 : q_fetch 205 955 = some (.ireturn, 1, 0) := by decide +kernel
theorem f205_956 : q_fetch 205 956 = some (.iload 5, 2, 0) := by decide +kernel
theorem f205_958 : q_fetch 205 958 = some (.ifCond .ne (22), 3, 980) := by decide +kernel
theorem f205_961 : q_fetch 205 961 = some (.aload_n 3, 1, 0) := by decide +kernel
theorem f205_962 : q_fetch 205 962 = some (.iconst 0, 1, 0) := by decide +kernel
theorem f205_963 : q_fetch 205 963 = some (.laload, 1, 0) := by decide +kernel
theorem f205_964 : q_fetch 205 964 = some (.iload 6, 2, 0) := by decide +kernel
theorem f205_966 : q_fetch 205 966 = some (.ifCond .eq (7), 3, 973) := by decide +kernel
theorem f205_969 : q_fetch 205 969 = some (.lconst 1, 1, 0) := by decide +kernel
theorem f205_970 : q_fetch 205 970 = some (.goto 4, 3, 974) := by decide +kernel
theorem f205_973 : q_fetch 205 973 = some (.lconst 0, 1, 0) := by decide +kernel
theorem f205_974 : q_fetch 205 974 = some (.lcmp, 1, 0) := by decide +kernel
theorem f205_975 : q_fetch 205 975 = some (.ifCond .eq (5), 3, 980) := by decide +kernel
theorem f205_978 : q_fetch 205 978 = some (.iconst 0, 1, 0) := by decide +kernel
theorem f205_979 : q_fetch 205 979 = some (.ireturn, 1, 0) := by decide +kernel
theorem f205_980 : q_fetch 205 980 = some (.goto 128, 3, 1108) := by decide +kernel
theorem f205_983 : q_fetch 205 983 = some (.aload_n 1, 1, 0) := by decide +kernel
theorem f205_984 : q_fetch 205 984 = some (.aload_n 0, 1, 0) := by decide +kernel
theorem f205_985 : q_fetch 205 985 = some (.iload 4, 2, 0) := by decide +kernel
theorem f205_987 : q_fetch 205 987 = some (.iconst 1, 1, 0) := by decide +kernel
theorem f205_988 : q_fetch 205 988 = some (.iadd, 1, 0) := by decide +kernel
theorem f205_989 : q_fetch 205 989 = some (.iaload, 1, 0) := by decide +kernel
theorem f205_990 : q_fetch 205 990 = some (.invokevirtual 118, 3, 10) := by decide +kernel
theorem f205_993 : q_fetch 205 993 = some (.aload_n 2, 1, 0) := by decide +kernel
theorem f205_994 : q_fetch 205 994 = some (.aload_n 0, 1, 0) := by decide +kernel
theorem f205_995 : q_fetch 205 995 = some (.iload 4, 2, 0) := by decide +kernel
theorem f205_997 : q_fetch 205 997 = some (.iconst 1, 1, 0) := by decide +kernel
theorem f205_998 : q_fetch 205 998 = some (.iadd, 1, 0) := by decide +kernel
theorem f205_999 : q_fetch 205 999 = some (.iaload, 1, 0) := by decide +kernel
theorem f205_1000 : q_fetch 205 1000 = some (.invokevirtual 121, 3, 197) := by decide +kernel
theorem f205_1003 : q_fetch 205 1003 = some (.if_icmp .eq (105), 3, 1108) := by decide +kernel
theorem f205_1006 : q_fetch 205 1006 = some (.iconst 0, 1, 0) := by decide +kernel
theorem f205_1007 : q_fetch 205 1007 = some (.ireturn, 1, 0) := by decide +kernel
theorem f205_1008 : q_fetch 205 1008 = some (.aload_n 1, 1, 0) := by decide +kernel
theorem f205_1009 : q_fetch 205 1009 = some (.aload_n 0, 1, 0) := by decide +kernel
theorem f205_1010 : q_fetch 205 1010 = some (.iload 4, 2, 0) := by decide +kernel
theorem f205_1012 : q_fetch 205 1012 = some (.iconst 1, 1, 0) := by decide +kernel
theorem f205_1013 : q_fetch 205 1013 = some (.iadd, 1, 0) := by decide +kernel
theorem f205_1014 : q_fetch 205 1014 = some (.iaload, 1, 0) := by decide +kernel
theorem f205_1015 : q_fetch 205 1015 = some (.aload_n 0, 1, 0) := by decide +kernel
theorem f205_1016 : q_fetch 205 1016 = some (.iload 4, 2, 0) := by decide +kernel
theorem f205_1018 : q_fetch 205 1018 = some (.iconst 2, 1, 0) := by decide +kernel
theorem f205_1019 : q_fetch 205 1019 = some (.iadd, 1, 0) := by decide +kernel
theorem f205_1020 : q_fetch 205 1020 = some (.iaload, 1, 0) := by decide +kernel
theorem f205_1021 : q_fetch 205 1021 = some (.aload_n 3, 1, 0) := by decide +kernel
theorem f205_1022 : q_fetch 205 1022 = some (.invokestatic 122, 3, 140) := by decide +kernel
theorem f205_1025 : q_fetch 205 1025 = some (.istore 5, 2, 0) := by decide +kernel
theorem f205_1027 : q_fetch 205 1027 = some (.aload_n 2, 1, 0) := by decide +kernel
theorem f205_1028 : q_fetch 205 1028 = some (.aload_n 0, 1, 0) := by decide +kernel
theorem f205_1029 : q_fetch 205 1029 = some (.iload 4, 2, 0) := by decide +kernel
theorem f205_1031 : q_fetch 205 1031 = some (.iconst 1, 1, 0) := by decide +kernel
theorem f205_1032 : q_fetch 205 1032 = some (.iadd, 1, 0) := by decide +kernel
theorem f205_1033 : q_fetch 205 1033 = some (.iaload, 1, 0) := by decide +kernel
theorem f205_1034 : q_fetch 205 1034 = some (.aload_n 0, 1, 0) := by decide +kernel
theorem f205_1035 : q_fetch 205 1035 = some (.iload 4, 2, 0) := by decide +kernel
theorem f205_1037 : q_fetch 205 1037 = some (.iconst 2, 1, 0) := by decide +kernel
theorem f205_1038 : q_fetch 205 1038 = some (.iadd, 1, 0) := by decide +kernel
theorem f205_1039 : q_fetch 205 1039 = some (.iaload, 1, 0) := by decide +kernel
theorem f205_1040 : q_fetch 205 1040 = some (.invokevirtual 124, 3, 182) := by decide +kernel
theorem f205_1043 : q_fetch 205 1043 = some (.istore 6, 2, 0) := by decide +kernel
theorem f205_1045 : q_fetch 205 1045 = some (.aload_n 2, 1, 0) := by decide +kernel
theorem f205_1046 : q_fetch 205 1046 = some (.invokevirtual 75, 3, 143) := by decide +kernel
theorem f205_1049 : q_fetch 205 1049 = some (.iload 5, 2, 0) := by decide +kernel
theorem f205_1051 : q_fetch 205 1051 = some (.if_icmp .eq (5), 3, 1056) := by decide +kernel
theorem f205_1054 : q_fetch 205 1054 = some (.iconst 0, 1, 0) := by decide +kernel
theorem f205_1055 : q_fetch 205 1055 = some (.ireturn, 1, 0) := by decide +kernel
theorem f205_1056 : q_fetch 205 1056 = some (.iload 5, 2, 0) := by decide +kernel
theorem f205_1058 : q_fetch 205 1058 = some (.ifCond .ne (22), 3, 1080) := by decide +kernel
theorem f205_1061 : q_fetch 205 1061 = some (.aload_n 3, 1, 0) := by decide +kernel
theorem f205_1062 : q_fetch 205 1062 = some (.iconst 0, 1, 0) := by decide +kernel
theorem f205_1063 : q_fetch 205 1063 = some (.laload, 1, 0) := by decide +kernel
theorem f205_1064 : q_fetch 205 1064 = some (.iload 6, 2, 0) := by decide +kernel
theorem f205_1066 : q_fetch 205 1066 = some (.ifCond .eq (7), 3, 1073) := by decide +kernel
theorem f205_1069 : q_fetch 205 1069 = some (.lconst 1, 1, 0) := by decide +kernel
theorem f205_1070 : q_fetch 205 1070 = some (.goto 4, 3, 1074) := by decide +kernel
theorem f205_1073 : q_fetch 205 1073 = some (.lconst 0, 1, 0) := by decide +kernel
theorem f205_1074 : q_fetch 205 1074 = some (.lcmp, 1, 0) := by decide +kernel
theorem f205_1075 : q_fetch 205 1075 = some (.ifCond .eq (5), 3, 1080) := by decide +kernel
theorem f205_1078 : q_fetch 205 1078 = some (.iconst 0, 1, 0) := by decide +kernel
theorem f205_1079 : q_fetch 205 1079 = some (.ireturn, 1, 0) := by decide +kernel
theorem f205_1080 : q_fetch 205 1080 = some (.goto 28, 3, 1108) := by decide +kernel
theorem f205_1083 : q_fetch 205 1083 = some (.aload_n 1, 1, 0) := by decide +kernel
theorem f205_1084 : q_fetch 205 1084 = some (.aload_n 0, 1, 0) := by decide +kernel
theorem f205_1085 : q_fetch 205 1085 = some (.iload 4, 2, 0) := by decide +kernel
theorem f205_1087 : q_fetch 205 1087 = some (.iconst 1, 1, 0) := by decide +kernel
theorem f205_1088 : q_fetch 205 1088 = some (.iadd, 1, 0) := by decide +kernel
theorem f205_1089 : q_fetch 205 1089 = some (.iaload, 1, 0) := by decide +kernel
theorem f205_1090 : q_fetch 205 1090 = some (.invokevirtual 125, 3, 12) := by decide +kernel
theorem f205_1093 : q_fetch 205 1093 = some (.aload_n 2, 1, 0) := by decide +kernel
theorem f205_1094 : q_fetch 205 1094 = some (.aload_n 0, 1, 0) := by decide +kernel
theorem f205_1095 : q_fetch 205 1095 = some (.iload 4, 2, 0) := by decide +kernel
theorem f205_1097 : q_fetch 205 1097 = some (.iconst 1, 1, 0) := by decide +kernel
theorem f205_1098 : q_fetch 205 1098 = some (.iadd, 1, 0) := by decide +kernel
theorem f205_1099 : q_fetch 205 1099 = some (.iaload, 1, 0) := by decide +kernel
theorem f205_1100 : q_fetch 205 1100 = some (.invokevirtual 128, 3, 204) := by decide +kernel
theorem f205_1103 : q_fetch 205 1103 = some (.if_icmp .eq (5), 3, 1108) := by decide +kernel
theorem f205_1106 : q_fetch 205 1106 = some (.iconst 0, 1, 0) := by decide +kernel
theorem f205_1107 : q_fetch 205 1107 = some (.ireturn, 1, 0) := by decide +kernel
theorem f205_1108 : q_fetch 205 1108 = some (.iinc 4 6, 3, 0) := by decide +kernel
theorem f205_1111 : q_fetch 205 1111 = some (.goto (-1088), 3, 23) := by decide +kernel
theorem f205_1114 : q_fetch 205 1114 = some (.iconst 1, 1, 0) := by decide +kernel
theorem f205_1115 : q_fetch 205 1115 = some (.ireturn, 1, 0) := by decide +kernel
