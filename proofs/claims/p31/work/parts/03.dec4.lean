theorem dL_areDoors_170 : decode cL_areDoors 170 = .ok (.iconst 1, 1) := by decide +kernel
theorem dL_areDoors_171 : decode cL_areDoors 171 = .ok (.invokevirtual 78, 3) := by decide +kernel
theorem dL_areDoors_174 : decode cL_areDoors 174 = .ok (.aload_n 1, 1) := by decide +kernel
theorem dL_areDoors_175 : decode cL_areDoors 175 = .ok (.iload 9, 2) := by decide +kernel
theorem dL_areDoors_177 : decode cL_areDoors 177 = .ok (.invokestatic 43, 3) := by decide +kernel
theorem dL_areDoors_180 : decode cL_areDoors 180 = .ok (.if_icmp .ne 55, 3) := by decide +kernel
theorem dL_areDoors_183 : decode cL_areDoors 183 = .ok (.aload_n 0, 1) := by decide +kernel
theorem dL_areDoors_184 : decode cL_areDoors 184 = .ok (.iload 9, 2) := by decide +kernel
theorem dL_areDoors_186 : decode cL_areDoors 186 = .ok (.iconst 2, 1) := by decide +kernel
theorem dL_areDoors_187 : decode cL_areDoors 187 = .ok (.invokevirtual 78, 3) := by decide +kernel
theorem dL_areDoors_190 : decode cL_areDoors 190 = .ok (.iload 10, 2) := by decide +kernel
theorem dL_areDoors_192 : decode cL_areDoors 192 = .ok (.iconst 2, 1) := by decide +kernel
theorem dL_areDoors_193 : decode cL_areDoors 193 = .ok (.idiv, 1) := by decide +kernel
theorem dL_areDoors_194 : decode cL_areDoors 194 = .ok (.if_icmp .ne 41, 3) := by decide +kernel
theorem dL_areDoors_197 : decode cL_areDoors 197 = .ok (.aload_n 0, 1) := by decide +kernel
theorem dL_areDoors_198 : decode cL_areDoors 198 = .ok (.iload 9, 2) := by decide +kernel
theorem dL_areDoors_200 : decode cL_areDoors 200 = .ok (.iconst 3, 1) := by decide +kernel
theorem dL_areDoors_201 : decode cL_areDoors 201 = .ok (.invokevirtual 78, 3) := by decide +kernel
theorem dL_areDoors_204 : decode cL_areDoors 204 = .ok (.aload_n 3, 1) := by decide +kernel
theorem dL_areDoors_205 : decode cL_areDoors 205 = .ok (.bipush 6, 2) := by decide +kernel
theorem dL_areDoors_207 : decode cL_areDoors 207 = .ok (.iload 9, 2) := by decide +kernel
theorem dL_areDoors_209 : decode cL_areDoors 209 = .ok (.iadd, 1) := by decide +kernel
theorem dL_areDoors_210 : decode cL_areDoors 210 = .ok (.iaload, 1) := by decide +kernel
theorem dL_areDoors_211 : decode cL_areDoors 211 = .ok (.if_icmp .ne 24, 3) := by decide +kernel
theorem dL_areDoors_214 : decode cL_areDoors 214 = .ok (.aload_n 0, 1) := by decide +kernel
theorem dL_areDoors_215 : decode cL_areDoors 215 = .ok (.iload 9, 2) := by decide +kernel
theorem dL_areDoors_217 : decode cL_areDoors 217 = .ok (.iconst 4, 1) := by decide +kernel
theorem dL_areDoors_218 : decode cL_areDoors 218 = .ok (.invokevirtual 78, 3) := by decide +kernel
theorem dL_areDoors_221 : decode cL_areDoors 221 = .ok (.aload_n 3, 1) := by decide +kernel
theorem dL_areDoors_222 : decode cL_areDoors 222 = .ok (.bipush 10, 2) := by decide +kernel
theorem dL_areDoors_224 : decode cL_areDoors 224 = .ok (.iload 9, 2) := by decide +kernel
theorem dL_areDoors_226 : decode cL_areDoors 226 = .ok (.iadd, 1) := by decide +kernel
theorem dL_areDoors_227 : decode cL_areDoors 227 = .ok (.iaload, 1) := by decide +kernel
theorem dL_areDoors_228 : decode cL_areDoors 228 = .ok (.if_icmp .ne 7, 3) := by decide +kernel
theorem dL_areDoors_231 : decode cL_areDoors 231 = .ok (.iconst 1, 1) := by decide +kernel
theorem dL_areDoors_232 : decode cL_areDoors 232 = .ok (.goto 4, 3) := by decide +kernel
theorem dL_areDoors_235 : decode cL_areDoors 235 = .ok (.iconst 0, 1) := by decide +kernel
theorem dL_areDoors_236 : decode cL_areDoors 236 = .ok (.istore 8, 2) := by decide +kernel
theorem dL_areDoors_238 : decode cL_areDoors 238 = .ok (.iinc 9 1, 3) := by decide +kernel
theorem dL_areDoors_241 : decode cL_areDoors 241 = .ok (.goto (-175), 3) := by decide +kernel
theorem dL_areDoors_244 : decode cL_areDoors 244 = .ok (.iload 8, 2) := by decide +kernel
theorem dL_areDoors_246 : decode cL_areDoors 246 = .ok (.ifCond .eq 98, 3) := by decide +kernel
theorem dL_areDoors_249 : decode cL_areDoors 249 = .ok (.aload_n 0, 1) := by decide +kernel
theorem dL_areDoors_250 : decode cL_areDoors 250 = .ok (.iconst 0, 1) := by decide +kernel
theorem dL_areDoors_251 : decode cL_areDoors 251 = .ok (.invokevirtual 81, 3) := by decide +kernel
theorem dL_areDoors_254 : decode cL_areDoors 254 = .ok (.bipush 40, 2) := by decide +kernel
theorem dL_areDoors_256 : decode cL_areDoors 256 = .ok (.iload 5, 2) := by decide +kernel
theorem dL_areDoors_258 : decode cL_areDoors 258 = .ok (.isub, 1) := by decide +kernel
theorem dL_areDoors_259 : decode cL_areDoors 259 = .ok (.if_icmp .ne 85, 3) := by decide +kernel
theorem dL_areDoors_262 : decode cL_areDoors 262 = .ok (.aload_n 0, 1) := by decide +kernel
theorem dL_areDoors_263 : decode cL_areDoors 263 = .ok (.iconst 1, 1) := by decide +kernel
theorem dL_areDoors_264 : decode cL_areDoors 264 = .ok (.invokevirtual 81, 3) := by decide +kernel
theorem dL_areDoors_267 : decode cL_areDoors 267 = .ok (.bipush 40, 2) := by decide +kernel
theorem dL_areDoors_269 : decode cL_areDoors 269 = .ok (.iload 5, 2) := by decide +kernel
theorem dL_areDoors_271 : decode cL_areDoors 271 = .ok (.isub, 1) := by decide +kernel
theorem dL_areDoors_272 : decode cL_areDoors 272 = .ok (.if_icmp .ne 72, 3) := by decide +kernel
theorem dL_areDoors_275 : decode cL_areDoors 275 = .ok (.aload_n 0, 1) := by decide +kernel
theorem dL_areDoors_276 : decode cL_areDoors 276 = .ok (.iconst 2, 1) := by decide +kernel
theorem dL_areDoors_277 : decode cL_areDoors 277 = .ok (.invokevirtual 81, 3) := by decide +kernel
theorem dL_areDoors_280 : decode cL_areDoors 280 = .ok (.aload_n 3, 1) := by decide +kernel
theorem dL_areDoors_281 : decode cL_areDoors 281 = .ok (.iconst 3, 1) := by decide +kernel
theorem dL_areDoors_282 : decode cL_areDoors 282 = .ok (.iaload, 1) := by decide +kernel
theorem dL_areDoors_283 : decode cL_areDoors 283 = .ok (.if_icmp .ne 61, 3) := by decide +kernel
theorem dL_areDoors_286 : decode cL_areDoors 286 = .ok (.aload_n 0, 1) := by decide +kernel
theorem dL_areDoors_287 : decode cL_areDoors 287 = .ok (.iconst 3, 1) := by decide +kernel
theorem dL_areDoors_288 : decode cL_areDoors 288 = .ok (.invokevirtual 81, 3) := by decide +kernel
theorem dL_areDoors_291 : decode cL_areDoors 291 = .ok (.iload 6, 2) := by decide +kernel
theorem dL_areDoors_293 : decode cL_areDoors 293 = .ok (.if_icmp .ne 51, 3) := by decide +kernel
theorem dL_areDoors_296 : decode cL_areDoors 296 = .ok (.aload_n 0, 1) := by decide +kernel
theorem dL_areDoors_297 : decode cL_areDoors 297 = .ok (.iconst 4, 1) := by decide +kernel
theorem dL_areDoors_298 : decode cL_areDoors 298 = .ok (.invokevirtual 81, 3) := by decide +kernel
theorem dL_areDoors_301 : decode cL_areDoors 301 = .ok (.aload_n 3, 1) := by decide +kernel
theorem dL_areDoors_302 : decode cL_areDoors 302 = .ok (.iconst 4, 1) := by decide +kernel
theorem dL_areDoors_303 : decode cL_areDoors 303 = .ok (.iaload, 1) := by decide +kernel
theorem dL_areDoors_304 : decode cL_areDoors 304 = .ok (.if_icmp .ne 40, 3) := by decide +kernel
theorem dL_areDoors_307 : decode cL_areDoors 307 = .ok (.aload_n 0, 1) := by decide +kernel
theorem dL_areDoors_308 : decode cL_areDoors 308 = .ok (.iconst 5, 1) := by decide +kernel
theorem dL_areDoors_309 : decode cL_areDoors 309 = .ok (.invokevirtual 81, 3) := by decide +kernel
theorem dL_areDoors_312 : decode cL_areDoors 312 = .ok (.aload_n 3, 1) := by decide +kernel
theorem dL_areDoors_313 : decode cL_areDoors 313 = .ok (.iconst 5, 1) := by decide +kernel
theorem dL_areDoors_314 : decode cL_areDoors 314 = .ok (.iaload, 1) := by decide +kernel
theorem dL_areDoors_315 : decode cL_areDoors 315 = .ok (.if_icmp .ne 29, 3) := by decide +kernel
theorem dL_areDoors_318 : decode cL_areDoors 318 = .ok (.aload_n 0, 1) := by decide +kernel
theorem dL_areDoors_319 : decode cL_areDoors 319 = .ok (.bipush 6, 2) := by decide +kernel
theorem dL_areDoors_321 : decode cL_areDoors 321 = .ok (.invokevirtual 81, 3) := by decide +kernel
theorem dL_areDoors_324 : decode cL_areDoors 324 = .ok (.iload 7, 2) := by decide +kernel
theorem dL_areDoors_326 : decode cL_areDoors 326 = .ok (.if_icmp .ne 18, 3) := by decide +kernel
theorem dL_areDoors_329 : decode cL_areDoors 329 = .ok (.aload_n 0, 1) := by decide +kernel
theorem dL_areDoors_330 : decode cL_areDoors 330 = .ok (.bipush 7, 2) := by decide +kernel
theorem dL_areDoors_332 : decode cL_areDoors 332 = .ok (.invokevirtual 81, 3) := by decide +kernel
theorem dL_areDoors_335 : decode cL_areDoors 335 = .ok (.iload 4, 2) := by decide +kernel
theorem dL_areDoors_337 : decode cL_areDoors 337 = .ok (.if_icmp .ne 7, 3) := by decide +kernel
theorem dL_areDoors_340 : decode cL_areDoors 340 = .ok (.iconst 1, 1) := by decide +kernel
theorem dL_areDoors_341 : decode cL_areDoors 341 = .ok (.goto 4, 3) := by decide +kernel
theorem dL_areDoors_344 : decode cL_areDoors 344 = .ok (.iconst 0, 1) := by decide +kernel
theorem dL_areDoors_345 : decode cL_areDoors 345 = .ok (.istore 8, 2) := by decide +kernel
theorem dL_areDoors_347 : decode cL_areDoors 347 = .ok (.iload 8, 2) := by decide +kernel
theorem dL_areDoors_349 : decode cL_areDoors 349 = .ok (.ifCond .eq 55, 3) := by decide +kernel
theorem dL_areDoors_352 : decode cL_areDoors 352 = .ok (.aload_n 0, 1) := by decide +kernel
theorem dL_areDoors_353 : decode cL_areDoors 353 = .ok (.iconst 0, 1) := by decide +kernel
theorem dL_areDoors_354 : decode cL_areDoors 354 = .ok (.invokevirtual 84, 3) := by decide +kernel
theorem dL_areDoors_357 : decode cL_areDoors 357 = .ok (.aload_n 3, 1) := by decide +kernel
theorem dL_areDoors_358 : decode cL_areDoors 358 = .ok (.iconst 0, 1) := by decide +kernel
theorem dL_areDoors_359 : decode cL_areDoors 359 = .ok (.iaload, 1) := by decide +kernel
theorem dL_areDoors_360 : decode cL_areDoors 360 = .ok (.if_icmp .ne 44, 3) := by decide +kernel
theorem dL_areDoors_363 : decode cL_areDoors 363 = .ok (.aload_n 0, 1) := by decide +kernel
theorem dL_areDoors_364 : decode cL_areDoors 364 = .ok (.iconst 1, 1) := by decide +kernel
theorem dL_areDoors_365 : decode cL_areDoors 365 = .ok (.invokevirtual 84, 3) := by decide +kernel
theorem dL_areDoors_368 : decode cL_areDoors 368 = .ok (.aload_n 3, 1) := by decide +kernel
theorem dL_areDoors_369 : decode cL_areDoors 369 = .ok (.iconst 1, 1) := by decide +kernel
theorem dL_areDoors_370 : decode cL_areDoors 370 = .ok (.iaload, 1) := by decide +kernel
theorem dL_areDoors_371 : decode cL_areDoors 371 = .ok (.if_icmp .ne 33, 3) := by decide +kernel
theorem dL_areDoors_374 : decode cL_areDoors 374 = .ok (.aload_n 0, 1) := by decide +kernel
theorem dL_areDoors_375 : decode cL_areDoors 375 = .ok (.iconst 2, 1) := by decide +kernel
theorem dL_areDoors_376 : decode cL_areDoors 376 = .ok (.invokevirtual 84, 3) := by decide +kernel
theorem dL_areDoors_379 : decode cL_areDoors 379 = .ok (.aload_n 3, 1) := by decide +kernel
theorem dL_areDoors_380 : decode cL_areDoors 380 = .ok (.iconst 2, 1) := by decide +kernel
theorem dL_areDoors_381 : decode cL_areDoors 381 = .ok (.iaload, 1) := by decide +kernel
theorem dL_areDoors_382 : decode cL_areDoors 382 = .ok (.if_icmp .ne 22, 3) := by decide +kernel
theorem dL_areDoors_385 : decode cL_areDoors 385 = .ok (.aload_n 0, 1) := by decide +kernel
theorem dL_areDoors_386 : decode cL_areDoors 386 = .ok (.invokevirtual 87, 3) := by decide +kernel
theorem dL_areDoors_389 : decode cL_areDoors 389 = .ok (.iload 5, 2) := by decide +kernel
theorem dL_areDoors_391 : decode cL_areDoors 391 = .ok (.i2d, 1) := by decide +kernel
theorem dL_areDoors_392 : decode cL_areDoors 392 = .ok (.ldc2_w 91, 3) := by decide +kernel
theorem dL_areDoors_395 : decode cL_areDoors 395 = .ok (.ddiv, 1) := by decide +kernel
theorem dL_areDoors_396 : decode cL_areDoors 396 = .ok (.dcmp .l, 1) := by decide +kernel
theorem dL_areDoors_397 : decode cL_areDoors 397 = .ok (.ifCond .ne 7, 3) := by decide +kernel
theorem dL_areDoors_400 : decode cL_areDoors 400 = .ok (.iconst 1, 1) := by decide +kernel
theorem dL_areDoors_401 : decode cL_areDoors 401 = .ok (.goto 4, 3) := by decide +kernel
theorem dL_areDoors_404 : decode cL_areDoors 404 = .ok (.iconst 0, 1) := by decide +kernel
theorem dL_areDoors_405 : decode cL_areDoors 405 = .ok (.ireturn, 1) := by decide +kernel
theorem dL_bestWord_0 : decode cL_bestWord 0 = .ok (.bipush 40, 2) := by decide +kernel
theorem dL_bestWord_2 : decode cL_bestWord 2 = .ok (.newarray .int, 2) := by decide +kernel
theorem dL_bestWord_4 : decode cL_bestWord 4 = .ok (.astore 4, 2) := by decide +kernel
theorem dL_bestWord_6 : decode cL_bestWord 6 = .ok (.bipush 16, 2) := by decide +kernel
theorem dL_bestWord_8 : decode cL_bestWord 8 = .ok (.newarray .int, 2) := by decide +kernel
theorem dL_bestWord_10 : decode cL_bestWord 10 = .ok (.astore 5, 2) := by decide +kernel
theorem dL_bestWord_12 : decode cL_bestWord 12 = .ok (.iconst (-1), 1) := by decide +kernel
theorem dL_bestWord_13 : decode cL_bestWord 13 = .ok (.istore 6, 2) := by decide +kernel
theorem dL_bestWord_15 : decode cL_bestWord 15 = .ok (.iconst (-1), 1) := by decide +kernel
theorem dL_bestWord_16 : decode cL_bestWord 16 = .ok (.istore 7, 2) := by decide +kernel
theorem dL_bestWord_18 : decode cL_bestWord 18 = .ok (.aload_n 0, 1) := by decide +kernel
theorem dL_bestWord_19 : decode cL_bestWord 19 = .ok (.iload_n 3, 1) := by decide +kernel
theorem dL_bestWord_20 : decode cL_bestWord 20 = .ok (.invokestatic 15, 3) := by decide +kernel
theorem dL_bestWord_23 : decode cL_bestWord 23 = .ok (.istore 8, 2) := by decide +kernel
theorem dL_bestWord_25 : decode cL_bestWord 25 = .ok (.bipush 39, 2) := by decide +kernel
theorem dL_bestWord_27 : decode cL_bestWord 27 = .ok (.istore 9, 2) := by decide +kernel
theorem dL_bestWord_29 : decode cL_bestWord 29 = .ok (.iload 9, 2) := by decide +kernel
theorem dL_bestWord_31 : decode cL_bestWord 31 = .ok (.ifCond .lt 97, 3) := by decide +kernel
theorem dL_bestWord_34 : decode cL_bestWord 34 = .ok (.aload_n 0, 1) := by decide +kernel
theorem dL_bestWord_35 : decode cL_bestWord 35 = .ok (.iload 9, 2) := by decide +kernel
theorem dL_bestWord_37 : decode cL_bestWord 37 = .ok (.iaload, 1) := by decide +kernel
theorem dL_bestWord_38 : decode cL_bestWord 38 = .ok (.ifCond .ge 84, 3) := by decide +kernel
theorem dL_bestWord_41 : decode cL_bestWord 41 = .ok (.aload_n 0, 1) := by decide +kernel
theorem dL_bestWord_42 : decode cL_bestWord 42 = .ok (.aload_n 2, 1) := by decide +kernel
theorem dL_bestWord_43 : decode cL_bestWord 43 = .ok (.iload 9, 2) := by decide +kernel
theorem dL_bestWord_45 : decode cL_bestWord 45 = .ok (.iload_n 3, 1) := by decide +kernel
theorem dL_bestWord_46 : decode cL_bestWord 46 = .ok (.iload 8, 2) := by decide +kernel
theorem dL_bestWord_48 : decode cL_bestWord 48 = .ok (.invokestatic 93, 3) := by decide +kernel
theorem dL_bestWord_51 : decode cL_bestWord 51 = .ok (.ifCond .ne 71, 3) := by decide +kernel
theorem dL_bestWord_54 : decode cL_bestWord 54 = .ok (.aload_n 0, 1) := by decide +kernel
theorem dL_bestWord_55 : decode cL_bestWord 55 = .ok (.aload 4, 2) := by decide +kernel
theorem dL_bestWord_57 : decode cL_bestWord 57 = .ok (.invokestatic 97, 3) := by decide +kernel
theorem dL_bestWord_60 : decode cL_bestWord 60 = .ok (.aload_n 1, 1) := by decide +kernel
theorem dL_bestWord_61 : decode cL_bestWord 61 = .ok (.aload 5, 2) := by decide +kernel
theorem dL_bestWord_63 : decode cL_bestWord 63 = .ok (.invokestatic 97, 3) := by decide +kernel
theorem dL_bestWord_66 : decode cL_bestWord 66 = .ok (.aload 4, 2) := by decide +kernel
theorem dL_bestWord_68 : decode cL_bestWord 68 = .ok (.aload 5, 2) := by decide +kernel
theorem dL_bestWord_70 : decode cL_bestWord 70 = .ok (.iload 9, 2) := by decide +kernel
theorem dL_bestWord_72 : decode cL_bestWord 72 = .ok (.iload_n 3, 1) := by decide +kernel
theorem dL_bestWord_73 : decode cL_bestWord 73 = .ok (.iload 8, 2) := by decide +kernel
theorem dL_bestWord_75 : decode cL_bestWord 75 = .ok (.invokestatic 101, 3) := by decide +kernel
theorem dL_bestWord_78 : decode cL_bestWord 78 = .ok (.aload 4, 2) := by decide +kernel
theorem dL_bestWord_80 : decode cL_bestWord 80 = .ok (.aload 5, 2) := by decide +kernel
theorem dL_bestWord_82 : decode cL_bestWord 82 = .ok (.iload_n 3, 1) := by decide +kernel
theorem dL_bestWord_83 : decode cL_bestWord 83 = .ok (.iconst 4, 1) := by decide +kernel
theorem dL_bestWord_84 : decode cL_bestWord 84 = .ok (.idiv, 1) := by decide +kernel
theorem dL_bestWord_85 : decode cL_bestWord 85 = .ok (.invokestatic 46, 3) := by decide +kernel
theorem dL_bestWord_88 : decode cL_bestWord 88 = .ok (.istore 10, 2) := by decide +kernel
theorem dL_bestWord_90 : decode cL_bestWord 90 = .ok (.iload 10, 2) := by decide +kernel
theorem dL_bestWord_92 : decode cL_bestWord 92 = .ok (.iload 7, 2) := by decide +kernel
theorem dL_bestWord_94 : decode cL_bestWord 94 = .ok (.if_icmp .lt 8, 3) := by decide +kernel
theorem dL_bestWord_97 : decode cL_bestWord 97 = .ok (.iload 9, 2) := by decide +kernel
theorem dL_bestWord_99 : decode cL_bestWord 99 = .ok (.goto 5, 3) := by decide +kernel
theorem dL_bestWord_102 : decode cL_bestWord 102 = .ok (.iload 6, 2) := by decide +kernel
theorem dL_bestWord_104 : decode cL_bestWord 104 = .ok (.istore 6, 2) := by decide +kernel
theorem dL_bestWord_106 : decode cL_bestWord 106 = .ok (.iload 10, 2) := by decide +kernel
theorem dL_bestWord_108 : decode cL_bestWord 108 = .ok (.iload 7, 2) := by decide +kernel
theorem dL_bestWord_110 : decode cL_bestWord 110 = .ok (.if_icmp .lt 8, 3) := by decide +kernel
theorem dL_bestWord_113 : decode cL_bestWord 113 = .ok (.iload 10, 2) := by decide +kernel
theorem dL_bestWord_115 : decode cL_bestWord 115 = .ok (.goto 5, 3) := by decide +kernel
theorem dL_bestWord_118 : decode cL_bestWord 118 = .ok (.iload 7, 2) := by decide +kernel
theorem dL_bestWord_120 : decode cL_bestWord 120 = .ok (.istore 7, 2) := by decide +kernel
theorem dL_bestWord_122 : decode cL_bestWord 122 = .ok (.iinc 9 (-1), 3) := by decide +kernel
theorem dL_bestWord_125 : decode cL_bestWord 125 = .ok (.goto (-96), 3) := by decide +kernel
theorem dL_bestWord_128 : decode cL_bestWord 128 = .ok (.iload 6, 2) := by decide +kernel
theorem dL_bestWord_130 : decode cL_bestWord 130 = .ok (.ireturn, 1) := by decide +kernel
theorem dL_would_0 : decode cL_would 0 = .ok (.iload 5, 2) := by decide +kernel
theorem dL_would_2 : decode cL_would 2 = .ok (.bipush 16, 2) := by decide +kernel
theorem dL_would_4 : decode cL_would 4 = .ok (.invokestatic 105, 3) := by decide +kernel
theorem dL_would_7 : decode cL_would 7 = .ok (.istore 6, 2) := by decide +kernel
theorem dL_would_9 : decode cL_would 9 = .ok (.iload 5, 2) := by decide +kernel
theorem dL_would_11 : decode cL_would 11 = .ok (.iconst 4, 1) := by decide +kernel
theorem dL_would_12 : decode cL_would 12 = .ok (.ishr, 1) := by decide +kernel
theorem dL_would_13 : decode cL_would 13 = .ok (.bipush 40, 2) := by decide +kernel
theorem dL_would_15 : decode cL_would 15 = .ok (.invokestatic 105, 3) := by decide +kernel
theorem dL_would_18 : decode cL_would 18 = .ok (.istore 7, 2) := by decide +kernel
theorem dL_would_20 : decode cL_would 20 = .ok (.iload 5, 2) := by decide +kernel
theorem dL_would_22 : decode cL_would 22 = .ok (.bipush 9, 2) := by decide +kernel
theorem dL_would_24 : decode cL_would 24 = .ok (.ishr, 1) := by decide +kernel
theorem dL_would_25 : decode cL_would 25 = .ok (.aload_n 1, 1) := by decide +kernel
theorem dL_would_26 : decode cL_would 26 = .ok (.iload 6, 2) := by decide +kernel
theorem dL_would_28 : decode cL_would 28 = .ok (.invokestatic 15, 3) := by decide +kernel
theorem dL_would_31 : decode cL_would 31 = .ok (.iconst 1, 1) := by decide +kernel
theorem dL_would_32 : decode cL_would 32 = .ok (.iadd, 1) := by decide +kernel
theorem dL_would_33 : decode cL_would 33 = .ok (.invokestatic 105, 3) := by decide +kernel
theorem dL_would_36 : decode cL_would 36 = .ok (.istore 8, 2) := by decide +kernel
theorem dL_would_38 : decode cL_would 38 = .ok (.aload_n 1, 1) := by decide +kernel
theorem dL_would_39 : decode cL_would 39 = .ok (.iload 7, 2) := by decide +kernel
theorem dL_would_41 : decode cL_would 41 = .ok (.iload 6, 2) := by decide +kernel
theorem dL_would_43 : decode cL_would 43 = .ok (.invokestatic 9, 3) := by decide +kernel
theorem dL_would_46 : decode cL_would 46 = .ok (.ifCond .eq 7, 3) := by decide +kernel
theorem dL_would_49 : decode cL_would 49 = .ok (.iconst (-1), 1) := by decide +kernel
theorem dL_would_50 : decode cL_would 50 = .ok (.goto 14, 3) := by decide +kernel
theorem dL_would_53 : decode cL_would 53 = .ok (.aload_n 1, 1) := by decide +kernel
theorem dL_would_54 : decode cL_would 54 = .ok (.aload_n 3, 1) := by decide +kernel
theorem dL_would_55 : decode cL_would 55 = .ok (.iload 7, 2) := by decide +kernel
theorem dL_would_57 : decode cL_would 57 = .ok (.iload 6, 2) := by decide +kernel
theorem dL_would_59 : decode cL_would 59 = .ok (.iload 8, 2) := by decide +kernel
theorem dL_would_61 : decode cL_would 61 = .ok (.invokestatic 93, 3) := by decide +kernel
theorem dL_would_64 : decode cL_would 64 = .ok (.istore 9, 2) := by decide +kernel
theorem dL_would_66 : decode cL_would 66 = .ok (.aload_n 0, 1) := by decide +kernel
theorem dL_would_67 : decode cL_would 67 = .ok (.iload 7, 2) := by decide +kernel
theorem dL_would_69 : decode cL_would 69 = .ok (.iload 6, 2) := by decide +kernel
theorem dL_would_71 : decode cL_would 71 = .ok (.iconst 4, 1) := by decide +kernel
theorem dL_would_72 : decode cL_would 72 = .ok (.idiv, 1) := by decide +kernel
theorem dL_would_73 : decode cL_would 73 = .ok (.iload 6, 2) := by decide +kernel
theorem dL_would_75 : decode cL_would 75 = .ok (.iconst 4, 1) := by decide +kernel
theorem dL_would_76 : decode cL_would 76 = .ok (.irem, 1) := by decide +kernel
theorem dL_would_77 : decode cL_would 77 = .ok (.iload 8, 2) := by decide +kernel
theorem dL_would_79 : decode cL_would 79 = .ok (.invokevirtual 108, 3) := by decide +kernel
theorem dL_would_82 : decode cL_would 82 = .ok (.iload 9, 2) := by decide +kernel
theorem dL_would_84 : decode cL_would 84 = .ok (.if_icmp .ne 39, 3) := by decide +kernel
theorem dL_would_87 : decode cL_would 87 = .ok (.aload_n 0, 1) := by decide +kernel
theorem dL_would_88 : decode cL_would 88 = .ok (.invokevirtual 112, 3) := by decide +kernel
theorem dL_would_91 : decode cL_would 91 = .ok (.aload_n 1, 1) := by decide +kernel
theorem dL_would_92 : decode cL_would 92 = .ok (.aload_n 2, 1) := by decide +kernel
theorem dL_would_93 : decode cL_would 93 = .ok (.aload_n 3, 1) := by decide +kernel
theorem dL_would_94 : decode cL_would 94 = .ok (.invokestatic 49, 3) := by decide +kernel
theorem dL_would_97 : decode cL_would 97 = .ok (.if_icmp .ne 26, 3) := by decide +kernel
theorem dL_would_100 : decode cL_would 100 = .ok (.aload_n 0, 1) := by decide +kernel
theorem dL_would_101 : decode cL_would 101 = .ok (.iload 6, 2) := by decide +kernel
theorem dL_would_103 : decode cL_would 103 = .ok (.iconst 4, 1) := by decide +kernel
theorem dL_would_104 : decode cL_would 104 = .ok (.idiv, 1) := by decide +kernel
theorem dL_would_105 : decode cL_would 105 = .ok (.iload 6, 2) := by decide +kernel
theorem dL_would_107 : decode cL_would 107 = .ok (.iconst 4, 1) := by decide +kernel
theorem dL_would_108 : decode cL_would 108 = .ok (.irem, 1) := by decide +kernel
theorem dL_would_109 : decode cL_would 109 = .ok (.invokevirtual 115, 3) := by decide +kernel
theorem dL_would_112 : decode cL_would 112 = .ok (.aload_n 1, 1) := by decide +kernel
theorem dL_would_113 : decode cL_would 113 = .ok (.aload_n 2, 1) := by decide +kernel
theorem dL_would_114 : decode cL_would 114 = .ok (.aload_n 3, 1) := by decide +kernel
theorem dL_would_115 : decode cL_would 115 = .ok (.iload 6, 2) := by decide +kernel
theorem dL_would_117 : decode cL_would 117 = .ok (.invokestatic 118, 3) := by decide +kernel
theorem dL_would_120 : decode cL_would 120 = .ok (.if_icmp .eq 5, 3) := by decide +kernel
theorem dL_would_123 : decode cL_would 123 = .ok (.iconst 0, 1) := by decide +kernel
theorem dL_would_124 : decode cL_would 124 = .ok (.ireturn, 1) := by decide +kernel
theorem dL_would_125 : decode cL_would 125 = .ok (.bipush 40, 2) := by decide +kernel
theorem dL_would_127 : decode cL_would 127 = .ok (.newarray .int, 2) := by decide +kernel
theorem dL_would_129 : decode cL_would 129 = .ok (.astore 10, 2) := by decide +kernel
theorem dL_would_131 : decode cL_would 131 = .ok (.bipush 16, 2) := by decide +kernel
theorem dL_would_133 : decode cL_would 133 = .ok (.newarray .int, 2) := by decide +kernel
theorem dL_would_135 : decode cL_would 135 = .ok (.astore 11, 2) := by decide +kernel
theorem dL_would_137 : decode cL_would 137 = .ok (.bipush 14, 2) := by decide +kernel
theorem dL_would_139 : decode cL_would 139 = .ok (.newarray .int, 2) := by decide +kernel
theorem dL_would_141 : decode cL_would 141 = .ok (.astore 12, 2) := by decide +kernel
theorem dL_would_143 : decode cL_would 143 = .ok (.bipush 40, 2) := by decide +kernel
theorem dL_would_145 : decode cL_would 145 = .ok (.newarray .int, 2) := by decide +kernel
theorem dL_would_147 : decode cL_would 147 = .ok (.astore 13, 2) := by decide +kernel
theorem dL_would_149 : decode cL_would 149 = .ok (.aload_n 1, 1) := by decide +kernel
theorem dL_would_150 : decode cL_would 150 = .ok (.aload 10, 2) := by decide +kernel
theorem dL_would_152 : decode cL_would 152 = .ok (.invokestatic 97, 3) := by decide +kernel
theorem dL_would_155 : decode cL_would 155 = .ok (.aload_n 2, 1) := by decide +kernel
theorem dL_would_156 : decode cL_would 156 = .ok (.aload 11, 2) := by decide +kernel
theorem dL_would_158 : decode cL_would 158 = .ok (.invokestatic 97, 3) := by decide +kernel
theorem dL_would_161 : decode cL_would 161 = .ok (.aload_n 3, 1) := by decide +kernel
theorem dL_would_162 : decode cL_would 162 = .ok (.aload 12, 2) := by decide +kernel
theorem dL_would_164 : decode cL_would 164 = .ok (.invokestatic 97, 3) := by decide +kernel
theorem dL_would_167 : decode cL_would 167 = .ok (.aload 4, 2) := by decide +kernel
theorem dL_would_169 : decode cL_would 169 = .ok (.aload 13, 2) := by decide +kernel
theorem dL_would_171 : decode cL_would 171 = .ok (.invokestatic 97, 3) := by decide +kernel
theorem dL_would_174 : decode cL_would 174 = .ok (.iconst 1, 1) := by decide +kernel
theorem dL_would_175 : decode cL_would 175 = .ok (.iload 5, 2) := by decide +kernel
theorem dL_would_177 : decode cL_would 177 = .ok (.bipush 7, 2) := by decide +kernel
theorem dL_would_179 : decode cL_would 179 = .ok (.ishr, 1) := by decide +kernel
theorem dL_would_180 : decode cL_would 180 = .ok (.iload 5, 2) := by decide +kernel
theorem dL_would_182 : decode cL_would 182 = .ok (.bipush 12, 2) := by decide +kernel
theorem dL_would_184 : decode cL_would 184 = .ok (.ishr, 1) := by decide +kernel
theorem dL_would_185 : decode cL_would 185 = .ok (.iconst 4, 1) := by decide +kernel
theorem dL_would_186 : decode cL_would 186 = .ok (.invokestatic 105, 3) := by decide +kernel
theorem dL_would_189 : decode cL_would 189 = .ok (.ifCond .ne 8, 3) := by decide +kernel
theorem dL_would_192 : decode cL_would 192 = .ok (.bipush 20, 2) := by decide +kernel
theorem dL_would_194 : decode cL_would 194 = .ok (.goto 4, 3) := by decide +kernel
theorem dL_would_197 : decode cL_would 197 = .ok (.iconst 4, 1) := by decide +kernel
theorem dL_would_198 : decode cL_would 198 = .ok (.invokestatic 105, 3) := by decide +kernel
theorem dL_would_201 : decode cL_would 201 = .ok (.iadd, 1) := by decide +kernel
theorem dL_would_202 : decode cL_would 202 = .ok (.istore 14, 2) := by decide +kernel
theorem dL_would_204 : decode cL_would 204 = .ok (.iconst 0, 1) := by decide +kernel
theorem dL_would_205 : decode cL_would 205 = .ok (.istore 15, 2) := by decide +kernel
theorem dL_would_207 : decode cL_would 207 = .ok (.iload 15, 2) := by decide +kernel
theorem dL_would_209 : decode cL_would 209 = .ok (.iload 14, 2) := by decide +kernel
theorem dL_would_211 : decode cL_would 211 = .ok (.if_icmp .ge 22, 3) := by decide +kernel
theorem dL_would_214 : decode cL_would 214 = .ok (.aload 10, 2) := by decide +kernel
theorem dL_would_216 : decode cL_would 216 = .ok (.aload 11, 2) := by decide +kernel
theorem dL_would_218 : decode cL_would 218 = .ok (.aload 12, 2) := by decide +kernel
theorem dL_would_220 : decode cL_would 220 = .ok (.aload 13, 2) := by decide +kernel
theorem dL_would_222 : decode cL_would 222 = .ok (.invokestatic 121, 3) := by decide +kernel
theorem dL_would_225 : decode cL_would 225 = .ok (.istore 16, 2) := by decide +kernel
theorem dL_would_227 : decode cL_would 227 = .ok (.iinc 15 1, 3) := by decide +kernel
theorem dL_would_230 : decode cL_would 230 = .ok (.goto (-23), 3) := by decide +kernel
theorem dL_would_233 : decode cL_would 233 = .ok (.iload 5, 2) := by decide +kernel
theorem dL_would_235 : decode cL_would 235 = .ok (.bipush 15, 2) := by decide +kernel
theorem dL_would_237 : decode cL_would 237 = .ok (.ishr, 1) := by decide +kernel
theorem dL_would_238 : decode cL_would 238 = .ok (.iconst 4, 1) := by decide +kernel
theorem dL_would_239 : decode cL_would 239 = .ok (.invokestatic 105, 3) := by decide +kernel
theorem dL_would_242 : decode cL_would 242 = .ok (.istore 15, 2) := by decide +kernel
theorem dL_would_244 : decode cL_would 244 = .ok (.aload_n 0, 1) := by decide +kernel
theorem dL_would_245 : decode cL_would 245 = .ok (.iload 14, 2) := by decide +kernel
theorem dL_would_247 : decode cL_would 247 = .ok (.iload 15, 2) := by decide +kernel
theorem dL_would_249 : decode cL_would 249 = .ok (.invokevirtual 125, 3) := by decide +kernel
theorem dL_would_252 : decode cL_would 252 = .ok (.aload 10, 2) := by decide +kernel
theorem dL_would_254 : decode cL_would 254 = .ok (.aload 11, 2) := by decide +kernel
theorem dL_would_256 : decode cL_would 256 = .ok (.iload 15, 2) := by decide +kernel
theorem dL_would_258 : decode cL_would 258 = .ok (.invokestatic 46, 3) := by decide +kernel
theorem dL_would_261 : decode cL_would 261 = .ok (.if_icmp .ne 7, 3) := by decide +kernel
theorem dL_would_264 : decode cL_would 264 = .ok (.iconst 1, 1) := by decide +kernel
theorem dL_would_265 : decode cL_would 265 = .ok (.goto 4, 3) := by decide +kernel
theorem dL_would_268 : decode cL_would 268 = .ok (.iconst 0, 1) := by decide +kernel
theorem dL_would_269 : decode cL_would 269 = .ok (.ireturn, 1) := by decide +kernel
theorem dL_some_0 : decode cL_some 0 = .ok (.iconst (-1), 1) := by decide +kernel
theorem dL_some_1 : decode cL_some 1 = .ok (.istore_n 3, 1) := by decide +kernel
theorem dL_some_2 : decode cL_some 2 = .ok (.iconst 0, 1) := by decide +kernel
theorem dL_some_3 : decode cL_some 3 = .ok (.istore 4, 2) := by decide +kernel
theorem dL_some_5 : decode cL_some 5 = .ok (.iload 4, 2) := by decide +kernel
theorem dL_some_7 : decode cL_some 7 = .ok (.bipush 40, 2) := by decide +kernel
theorem dL_some_9 : decode cL_some 9 = .ok (.if_icmp .ge 45, 3) := by decide +kernel
theorem dL_some_12 : decode cL_some 12 = .ok (.iload_n 3, 1) := by decide +kernel
theorem dL_some_13 : decode cL_some 13 = .ok (.ifCond .ge 41, 3) := by decide +kernel
theorem dL_some_16 : decode cL_some 16 = .ok (.iload_n 1, 1) := by decide +kernel
theorem dL_some_17 : decode cL_some 17 = .ok (.iload 4, 2) := by decide +kernel
theorem dL_some_19 : decode cL_some 19 = .ok (.iadd, 1) := by decide +kernel
theorem dL_some_20 : decode cL_some 20 = .ok (.bipush 40, 2) := by decide +kernel
theorem dL_some_22 : decode cL_some 22 = .ok (.irem, 1) := by decide +kernel
theorem dL_some_23 : decode cL_some 23 = .ok (.istore 5, 2) := by decide +kernel
theorem dL_some_25 : decode cL_some 25 = .ok (.aload_n 0, 1) := by decide +kernel
theorem dL_some_26 : decode cL_some 26 = .ok (.iload 5, 2) := by decide +kernel
theorem dL_some_28 : decode cL_some 28 = .ok (.iaload, 1) := by decide +kernel
theorem dL_some_29 : decode cL_some 29 = .ok (.ifCond .ge 7, 3) := by decide +kernel
theorem dL_some_32 : decode cL_some 32 = .ok (.iconst 1, 1) := by decide +kernel
theorem dL_some_33 : decode cL_some 33 = .ok (.goto 4, 3) := by decide +kernel
theorem dL_some_36 : decode cL_some 36 = .ok (.iconst 0, 1) := by decide +kernel
theorem dL_some_37 : decode cL_some 37 = .ok (.iload_n 2, 1) := by decide +kernel
theorem dL_some_38 : decode cL_some 38 = .ok (.if_icmp .ne 8, 3) := by decide +kernel
theorem dL_some_41 : decode cL_some 41 = .ok (.iload 5, 2) := by decide +kernel
theorem dL_some_43 : decode cL_some 43 = .ok (.goto 4, 3) := by decide +kernel
theorem dL_some_46 : decode cL_some 46 = .ok (.iload_n 3, 1) := by decide +kernel
theorem dL_some_47 : decode cL_some 47 = .ok (.istore_n 3, 1) := by decide +kernel
theorem dL_some_48 : decode cL_some 48 = .ok (.iinc 4 1, 3) := by decide +kernel
theorem dL_some_51 : decode cL_some 51 = .ok (.goto (-46), 3) := by decide +kernel
theorem dL_some_54 : decode cL_some 54 = .ok (.iload_n 3, 1) := by decide +kernel
theorem dL_some_55 : decode cL_some 55 = .ok (.ireturn, 1) := by decide +kernel
theorem dL_puts_0 : decode cL_puts 0 = .ok (.aload_n 1, 1) := by decide +kernel
theorem dL_puts_1 : decode cL_puts 1 = .ok (.iload 4, 2) := by decide +kernel
theorem dL_puts_3 : decode cL_puts 3 = .ok (.bipush 40, 2) := by decide +kernel
theorem dL_puts_5 : decode cL_puts 5 = .ok (.invokestatic 105, 3) := by decide +kernel
theorem dL_puts_8 : decode cL_puts 8 = .ok (.iconst 1, 1) := by decide +kernel
theorem dL_puts_9 : decode cL_puts 9 = .ok (.invokestatic 128, 3) := by decide +kernel
theorem dL_puts_12 : decode cL_puts 12 = .ok (.istore 6, 2) := by decide +kernel
theorem dL_puts_14 : decode cL_puts 14 = .ok (.iload 4, 2) := by decide +kernel
theorem dL_puts_16 : decode cL_puts 16 = .ok (.bipush 6, 2) := by decide +kernel
theorem dL_puts_18 : decode cL_puts 18 = .ok (.ishr, 1) := by decide +kernel
theorem dL_puts_19 : decode cL_puts 19 = .ok (.iload 4, 2) := by decide +kernel
theorem dL_puts_21 : decode cL_puts 21 = .ok (.bipush 12, 2) := by decide +kernel
theorem dL_puts_23 : decode cL_puts 23 = .ok (.ishr, 1) := by decide +kernel
theorem dL_puts_24 : decode cL_puts 24 = .ok (.iconst 3, 1) := by decide +kernel
theorem dL_puts_25 : decode cL_puts 25 = .ok (.invokestatic 105, 3) := by decide +kernel
theorem dL_puts_28 : decode cL_puts 28 = .ok (.ifCond .ne 8, 3) := by decide +kernel
theorem dL_puts_31 : decode cL_puts 31 = .ok (.bipush 16, 2) := by decide +kernel
theorem dL_puts_33 : decode cL_puts 33 = .ok (.goto 4, 3) := by decide +kernel
theorem dL_puts_36 : decode cL_puts 36 = .ok (.iconst 5, 1) := by decide +kernel
theorem dL_puts_37 : decode cL_puts 37 = .ok (.invokestatic 105, 3) := by decide +kernel
theorem dL_puts_40 : decode cL_puts 40 = .ok (.istore 7, 2) := by decide +kernel
theorem dL_puts_42 : decode cL_puts 42 = .ok (.aload_n 1, 1) := by decide +kernel
theorem dL_puts_43 : decode cL_puts 43 = .ok (.iload 7, 2) := by decide +kernel
theorem dL_puts_45 : decode cL_puts 45 = .ok (.invokestatic 15, 3) := by decide +kernel
theorem dL_puts_48 : decode cL_puts 48 = .ok (.istore 8, 2) := by decide +kernel
theorem dL_puts_50 : decode cL_puts 50 = .ok (.iload 5, 2) := by decide +kernel
theorem dL_puts_52 : decode cL_puts 52 = .ok (.iconst 3, 1) := by decide +kernel
theorem dL_puts_53 : decode cL_puts 53 = .ok (.invokestatic 105, 3) := by decide +kernel
theorem dL_puts_56 : decode cL_puts 56 = .ok (.ifCond .ne 17, 3) := by decide +kernel
theorem dL_puts_59 : decode cL_puts 59 = .ok (.iload 5, 2) := by decide +kernel
theorem dL_puts_61 : decode cL_puts 61 = .ok (.iconst 2, 1) := by decide +kernel
theorem dL_puts_62 : decode cL_puts 62 = .ok (.ishr, 1) := by decide +kernel
theorem dL_puts_63 : decode cL_puts 63 = .ok (.iload 8, 2) := by decide +kernel
theorem dL_puts_65 : decode cL_puts 65 = .ok (.iconst 1, 1) := by decide +kernel
theorem dL_puts_66 : decode cL_puts 66 = .ok (.iadd, 1) := by decide +kernel
theorem dL_puts_67 : decode cL_puts 67 = .ok (.invokestatic 105, 3) := by decide +kernel
theorem dL_puts_70 : decode cL_puts 70 = .ok (.goto 5, 3) := by decide +kernel
theorem dL_puts_73 : decode cL_puts 73 = .ok (.iload 8, 2) := by decide +kernel
theorem dL_puts_75 : decode cL_puts 75 = .ok (.istore 9, 2) := by decide +kernel
theorem dL_puts_77 : decode cL_puts 77 = .ok (.iload 6, 2) := by decide +kernel
theorem dL_puts_79 : decode cL_puts 79 = .ok (.ifCond .ge 17, 3) := by decide +kernel
theorem dL_puts_82 : decode cL_puts 82 = .ok (.aload_n 0, 1) := by decide +kernel
theorem dL_puts_83 : decode cL_puts 83 = .ok (.iconst 0, 1) := by decide +kernel
theorem dL_puts_84 : decode cL_puts 84 = .ok (.invokevirtual 81, 3) := by decide +kernel
theorem dL_puts_87 : decode cL_puts 87 = .ok (.ifCond .ne 7, 3) := by decide +kernel
theorem dL_puts_90 : decode cL_puts 90 = .ok (.iconst 1, 1) := by decide +kernel
theorem dL_puts_91 : decode cL_puts 91 = .ok (.goto 4, 3) := by decide +kernel
theorem dL_puts_94 : decode cL_puts 94 = .ok (.iconst 0, 1) := by decide +kernel
theorem dL_puts_95 : decode cL_puts 95 = .ok (.ireturn, 1) := by decide +kernel
theorem dL_puts_96 : decode cL_puts 96 = .ok (.aload_n 1, 1) := by decide +kernel
theorem dL_puts_97 : decode cL_puts 97 = .ok (.aload_n 3, 1) := by decide +kernel
theorem dL_puts_98 : decode cL_puts 98 = .ok (.iload 6, 2) := by decide +kernel
theorem dL_puts_100 : decode cL_puts 100 = .ok (.iload 7, 2) := by decide +kernel
theorem dL_puts_102 : decode cL_puts 102 = .ok (.iload 9, 2) := by decide +kernel
theorem dL_puts_104 : decode cL_puts 104 = .ok (.invokestatic 93, 3) := by decide +kernel
theorem dL_puts_107 : decode cL_puts 107 = .ok (.istore 10, 2) := by decide +kernel
theorem dL_puts_109 : decode cL_puts 109 = .ok (.iload 10, 2) := by decide +kernel
theorem dL_puts_111 : decode cL_puts 111 = .ok (.ifCond .ne 14, 3) := by decide +kernel
theorem dL_puts_114 : decode cL_puts 114 = .ok (.aload_n 1, 1) := by decide +kernel
theorem dL_puts_115 : decode cL_puts 115 = .ok (.aload_n 2, 1) := by decide +kernel
theorem dL_puts_116 : decode cL_puts 116 = .ok (.iload 6, 2) := by decide +kernel
theorem dL_puts_118 : decode cL_puts 118 = .ok (.iload 7, 2) := by decide +kernel
theorem dL_puts_120 : decode cL_puts 120 = .ok (.iload 9, 2) := by decide +kernel
theorem dL_puts_122 : decode cL_puts 122 = .ok (.invokestatic 101, 3) := by decide +kernel
theorem dL_puts_125 : decode cL_puts 125 = .ok (.aload_n 3, 1) := by decide +kernel
theorem dL_puts_126 : decode cL_puts 126 = .ok (.iload 10, 2) := by decide +kernel
theorem dL_puts_128 : decode cL_puts 128 = .ok (.ifCond .ne 7, 3) := by decide +kernel
theorem dL_puts_131 : decode cL_puts 131 = .ok (.iconst 4, 1) := by decide +kernel
theorem dL_puts_132 : decode cL_puts 132 = .ok (.goto 4, 3) := by decide +kernel
theorem dL_puts_135 : decode cL_puts 135 = .ok (.iconst 5, 1) := by decide +kernel
theorem dL_puts_136 : decode cL_puts 136 = .ok (.dup2, 1) := by decide +kernel
theorem dL_puts_137 : decode cL_puts 137 = .ok (.iaload, 1) := by decide +kernel
theorem dL_puts_138 : decode cL_puts 138 = .ok (.iconst 1, 1) := by decide +kernel
theorem dL_puts_139 : decode cL_puts 139 = .ok (.iadd, 1) := by decide +kernel
theorem dL_puts_140 : decode cL_puts 140 = .ok (.iastore, 1) := by decide +kernel
theorem dL_puts_141 : decode cL_puts 141 = .ok (.aload_n 0, 1) := by decide +kernel
theorem dL_puts_142 : decode cL_puts 142 = .ok (.iload 6, 2) := by decide +kernel
theorem dL_puts_144 : decode cL_puts 144 = .ok (.iload 7, 2) := by decide +kernel
theorem dL_puts_146 : decode cL_puts 146 = .ok (.iconst 4, 1) := by decide +kernel
theorem dL_puts_147 : decode cL_puts 147 = .ok (.idiv, 1) := by decide +kernel
theorem dL_puts_148 : decode cL_puts 148 = .ok (.iload 7, 2) := by decide +kernel
theorem dL_puts_150 : decode cL_puts 150 = .ok (.iconst 4, 1) := by decide +kernel
theorem dL_puts_151 : decode cL_puts 151 = .ok (.irem, 1) := by decide +kernel
theorem dL_puts_152 : decode cL_puts 152 = .ok (.iload 9, 2) := by decide +kernel
theorem dL_puts_154 : decode cL_puts 154 = .ok (.invokevirtual 132, 3) := by decide +kernel
theorem dL_puts_157 : decode cL_puts 157 = .ok (.iload 10, 2) := by decide +kernel
theorem dL_puts_159 : decode cL_puts 159 = .ok (.if_icmp .ne 7, 3) := by decide +kernel
theorem dL_puts_162 : decode cL_puts 162 = .ok (.iconst 1, 1) := by decide +kernel
theorem dL_puts_163 : decode cL_puts 163 = .ok (.goto 4, 3) := by decide +kernel
theorem dL_puts_166 : decode cL_puts 166 = .ok (.iconst 0, 1) := by decide +kernel
theorem dL_puts_167 : decode cL_puts 167 = .ok (.ireturn, 1) := by decide +kernel
theorem dL_moves_0 : decode cL_moves 0 = .ok (.aload_n 1, 1) := by decide +kernel
theorem dL_moves_1 : decode cL_moves 1 = .ok (.iload 4, 2) := by decide +kernel
theorem dL_moves_3 : decode cL_moves 3 = .ok (.bipush 40, 2) := by decide +kernel
theorem dL_moves_5 : decode cL_moves 5 = .ok (.invokestatic 105, 3) := by decide +kernel
theorem dL_moves_8 : decode cL_moves 8 = .ok (.iconst 0, 1) := by decide +kernel
theorem dL_moves_9 : decode cL_moves 9 = .ok (.invokestatic 128, 3) := by decide +kernel
theorem dL_moves_12 : decode cL_moves 12 = .ok (.istore 5, 2) := by decide +kernel
theorem dL_moves_14 : decode cL_moves 14 = .ok (.iload 4, 2) := by decide +kernel
theorem dL_moves_16 : decode cL_moves 16 = .ok (.bipush 6, 2) := by decide +kernel
theorem dL_moves_18 : decode cL_moves 18 = .ok (.ishr, 1) := by decide +kernel
theorem dL_moves_19 : decode cL_moves 19 = .ok (.bipush 16, 2) := by decide +kernel
theorem dL_moves_21 : decode cL_moves 21 = .ok (.invokestatic 105, 3) := by decide +kernel
theorem dL_moves_24 : decode cL_moves 24 = .ok (.istore 6, 2) := by decide +kernel
theorem dL_moves_26 : decode cL_moves 26 = .ok (.iload 5, 2) := by decide +kernel
theorem dL_moves_28 : decode cL_moves 28 = .ok (.ifCond .lt 14, 3) := by decide +kernel
theorem dL_moves_31 : decode cL_moves 31 = .ok (.aload_n 1, 1) := by decide +kernel
theorem dL_moves_32 : decode cL_moves 32 = .ok (.iload 5, 2) := by decide +kernel
theorem dL_moves_34 : decode cL_moves 34 = .ok (.iload 6, 2) := by decide +kernel
theorem dL_moves_36 : decode cL_moves 36 = .ok (.invokestatic 9, 3) := by decide +kernel
theorem dL_moves_39 : decode cL_moves 39 = .ok (.ifCond .eq 5, 3) := by decide +kernel
theorem dL_moves_42 : decode cL_moves 42 = .ok (.iconst 1, 1) := by decide +kernel
theorem dL_moves_43 : decode cL_moves 43 = .ok (.ireturn, 1) := by decide +kernel
theorem dL_moves_44 : decode cL_moves 44 = .ok (.aload_n 1, 1) := by decide +kernel
theorem dL_moves_45 : decode cL_moves 45 = .ok (.aload_n 3, 1) := by decide +kernel
theorem dL_moves_46 : decode cL_moves 46 = .ok (.iload 5, 2) := by decide +kernel
theorem dL_moves_48 : decode cL_moves 48 = .ok (.iload 6, 2) := by decide +kernel
theorem dL_moves_50 : decode cL_moves 50 = .ok (.aload_n 1, 1) := by decide +kernel
theorem dL_moves_51 : decode cL_moves 51 = .ok (.iload 6, 2) := by decide +kernel
theorem dL_moves_53 : decode cL_moves 53 = .ok (.invokestatic 15, 3) := by decide +kernel
theorem dL_moves_56 : decode cL_moves 56 = .ok (.invokestatic 93, 3) := by decide +kernel
theorem dL_moves_59 : decode cL_moves 59 = .ok (.istore 7, 2) := by decide +kernel
theorem dL_moves_61 : decode cL_moves 61 = .ok (.iload 7, 2) := by decide +kernel
theorem dL_moves_63 : decode cL_moves 63 = .ok (.ifCond .ne 25, 3) := by decide +kernel
theorem dL_moves_66 : decode cL_moves 66 = .ok (.aload_n 1, 1) := by decide +kernel
theorem dL_moves_67 : decode cL_moves 67 = .ok (.aload_n 2, 1) := by decide +kernel
theorem dL_moves_68 : decode cL_moves 68 = .ok (.iload 5, 2) := by decide +kernel
theorem dL_moves_70 : decode cL_moves 70 = .ok (.invokestatic 53, 3) := by decide +kernel
theorem dL_moves_73 : decode cL_moves 73 = .ok (.aload_n 1, 1) := by decide +kernel
theorem dL_moves_74 : decode cL_moves 74 = .ok (.aload_n 2, 1) := by decide +kernel
theorem dL_moves_75 : decode cL_moves 75 = .ok (.iload 5, 2) := by decide +kernel
theorem dL_moves_77 : decode cL_moves 77 = .ok (.iload 6, 2) := by decide +kernel
theorem dL_moves_79 : decode cL_moves 79 = .ok (.aload_n 1, 1) := by decide +kernel
theorem dL_moves_80 : decode cL_moves 80 = .ok (.iload 6, 2) := by decide +kernel
theorem dL_moves_82 : decode cL_moves 82 = .ok (.invokestatic 15, 3) := by decide +kernel
theorem dL_moves_85 : decode cL_moves 85 = .ok (.invokestatic 101, 3) := by decide +kernel
theorem dL_moves_88 : decode cL_moves 88 = .ok (.aload_n 3, 1) := by decide +kernel
theorem dL_moves_89 : decode cL_moves 89 = .ok (.iload 7, 2) := by decide +kernel
theorem dL_moves_91 : decode cL_moves 91 = .ok (.ifCond .ne 7, 3) := by decide +kernel
theorem dL_moves_94 : decode cL_moves 94 = .ok (.iconst 4, 1) := by decide +kernel
theorem dL_moves_95 : decode cL_moves 95 = .ok (.goto 4, 3) := by decide +kernel
theorem dL_moves_98 : decode cL_moves 98 = .ok (.iconst 5, 1) := by decide +kernel
theorem dL_moves_99 : decode cL_moves 99 = .ok (.dup2, 1) := by decide +kernel
theorem dL_moves_100 : decode cL_moves 100 = .ok (.iaload, 1) := by decide +kernel
theorem dL_moves_101 : decode cL_moves 101 = .ok (.iconst 1, 1) := by decide +kernel
theorem dL_moves_102 : decode cL_moves 102 = .ok (.iadd, 1) := by decide +kernel
theorem dL_moves_103 : decode cL_moves 103 = .ok (.iastore, 1) := by decide +kernel
theorem dL_moves_104 : decode cL_moves 104 = .ok (.aload_n 0, 1) := by decide +kernel
theorem dL_moves_105 : decode cL_moves 105 = .ok (.iload 5, 2) := by decide +kernel
theorem dL_moves_107 : decode cL_moves 107 = .ok (.iload 6, 2) := by decide +kernel
theorem dL_moves_109 : decode cL_moves 109 = .ok (.iconst 4, 1) := by decide +kernel
theorem dL_moves_110 : decode cL_moves 110 = .ok (.idiv, 1) := by decide +kernel
theorem dL_moves_111 : decode cL_moves 111 = .ok (.iload 6, 2) := by decide +kernel
theorem dL_moves_113 : decode cL_moves 113 = .ok (.iconst 4, 1) := by decide +kernel
theorem dL_moves_114 : decode cL_moves 114 = .ok (.irem, 1) := by decide +kernel
theorem dL_moves_115 : decode cL_moves 115 = .ok (.invokevirtual 135, 3) := by decide +kernel
theorem dL_moves_118 : decode cL_moves 118 = .ok (.iload 7, 2) := by decide +kernel
theorem dL_moves_120 : decode cL_moves 120 = .ok (.if_icmp .ne 7, 3) := by decide +kernel
theorem dL_moves_123 : decode cL_moves 123 = .ok (.iconst 1, 1) := by decide +kernel
theorem dL_moves_124 : decode cL_moves 124 = .ok (.goto 4, 3) := by decide +kernel
theorem dL_moves_127 : decode cL_moves 127 = .ok (.iconst 0, 1) := by decide +kernel
theorem dL_moves_128 : decode cL_moves 128 = .ok (.ireturn, 1) := by decide +kernel
theorem dL_takesOff_0 : decode cL_takesOff 0 = .ok (.aload_n 1, 1) := by decide +kernel
theorem dL_takesOff_1 : decode cL_takesOff 1 = .ok (.iload_n 3, 1) := by decide +kernel
theorem dL_takesOff_2 : decode cL_takesOff 2 = .ok (.bipush 40, 2) := by decide +kernel
theorem dL_takesOff_4 : decode cL_takesOff 4 = .ok (.invokestatic 105, 3) := by decide +kernel
theorem dL_takesOff_7 : decode cL_takesOff 7 = .ok (.iconst 0, 1) := by decide +kernel
theorem dL_takesOff_8 : decode cL_takesOff 8 = .ok (.invokestatic 128, 3) := by decide +kernel
theorem dL_takesOff_11 : decode cL_takesOff 11 = .ok (.istore 4, 2) := by decide +kernel
theorem dL_takesOff_13 : decode cL_takesOff 13 = .ok (.iload 4, 2) := by decide +kernel
theorem dL_takesOff_15 : decode cL_takesOff 15 = .ok (.ifCond .ge 19, 3) := by decide +kernel
theorem dL_takesOff_18 : decode cL_takesOff 18 = .ok (.aload_n 0, 1) := by decide +kernel
theorem dL_takesOff_19 : decode cL_takesOff 19 = .ok (.iconst 0, 1) := by decide +kernel
theorem dL_takesOff_20 : decode cL_takesOff 20 = .ok (.invokevirtual 81, 3) := by decide +kernel
theorem dL_takesOff_23 : decode cL_takesOff 23 = .ok (.bipush 40, 2) := by decide +kernel
theorem dL_takesOff_25 : decode cL_takesOff 25 = .ok (.if_icmp .ne 7, 3) := by decide +kernel
theorem dL_takesOff_28 : decode cL_takesOff 28 = .ok (.iconst 1, 1) := by decide +kernel
theorem dL_takesOff_29 : decode cL_takesOff 29 = .ok (.goto 4, 3) := by decide +kernel
theorem dL_takesOff_32 : decode cL_takesOff 32 = .ok (.iconst 0, 1) := by decide +kernel
theorem dL_takesOff_33 : decode cL_takesOff 33 = .ok (.ireturn, 1) := by decide +kernel
theorem dL_takesOff_34 : decode cL_takesOff 34 = .ok (.aload_n 1, 1) := by decide +kernel
theorem dL_takesOff_35 : decode cL_takesOff 35 = .ok (.iload 4, 2) := by decide +kernel
theorem dL_takesOff_37 : decode cL_takesOff 37 = .ok (.iaload, 1) := by decide +kernel
theorem dL_takesOff_38 : decode cL_takesOff 38 = .ok (.bipush 8, 2) := by decide +kernel
theorem dL_takesOff_40 : decode cL_takesOff 40 = .ok (.idiv, 1) := by decide +kernel
theorem dL_takesOff_41 : decode cL_takesOff 41 = .ok (.istore 5, 2) := by decide +kernel
theorem dL_takesOff_43 : decode cL_takesOff 43 = .ok (.aload_n 1, 1) := by decide +kernel
theorem dL_takesOff_44 : decode cL_takesOff 44 = .ok (.aload_n 2, 1) := by decide +kernel
theorem dL_takesOff_45 : decode cL_takesOff 45 = .ok (.iload 4, 2) := by decide +kernel
theorem dL_takesOff_47 : decode cL_takesOff 47 = .ok (.invokestatic 53, 3) := by decide +kernel
theorem dL_takesOff_50 : decode cL_takesOff 50 = .ok (.aload_n 0, 1) := by decide +kernel
theorem dL_takesOff_51 : decode cL_takesOff 51 = .ok (.iload 4, 2) := by decide +kernel
theorem dL_takesOff_53 : decode cL_takesOff 53 = .ok (.invokevirtual 138, 3) := by decide +kernel
theorem dL_takesOff_56 : decode cL_takesOff 56 = .ok (.iload 5, 2) := by decide +kernel
theorem dL_takesOff_58 : decode cL_takesOff 58 = .ok (.invokestatic 70, 3) := by decide +kernel
theorem dL_takesOff_61 : decode cL_takesOff 61 = .ok (.if_icmp .ne 7, 3) := by decide +kernel
theorem dL_takesOff_64 : decode cL_takesOff 64 = .ok (.iconst 1, 1) := by decide +kernel
theorem dL_takesOff_65 : decode cL_takesOff 65 = .ok (.goto 4, 3) := by decide +kernel
theorem dL_takesOff_68 : decode cL_takesOff 68 = .ok (.iconst 0, 1) := by decide +kernel
theorem dL_takesOff_69 : decode cL_takesOff 69 = .ok (.ireturn, 1) := by decide +kernel
theorem dL_clears_0 : decode cL_clears 0 = .ok (.iconst 0, 1) := by decide +kernel
theorem dL_clears_1 : decode cL_clears 1 = .ok (.istore 4, 2) := by decide +kernel
theorem dL_clears_3 : decode cL_clears 3 = .ok (.iconst 0, 1) := by decide +kernel
theorem dL_clears_4 : decode cL_clears 4 = .ok (.istore 5, 2) := by decide +kernel
theorem dL_clears_6 : decode cL_clears 6 = .ok (.iload 5, 2) := by decide +kernel
theorem dL_clears_8 : decode cL_clears 8 = .ok (.bipush 40, 2) := by decide +kernel
theorem dL_clears_10 : decode cL_clears 10 = .ok (.if_icmp .ge 37, 3) := by decide +kernel
theorem dL_clears_13 : decode cL_clears 13 = .ok (.aload_n 1, 1) := by decide +kernel
theorem dL_clears_14 : decode cL_clears 14 = .ok (.iload 5, 2) := by decide +kernel
theorem dL_clears_16 : decode cL_clears 16 = .ok (.iaload, 1) := by decide +kernel
theorem dL_clears_17 : decode cL_clears 17 = .ok (.ifCond .lt 24, 3) := by decide +kernel
theorem dL_clears_20 : decode cL_clears 20 = .ok (.aload_n 1, 1) := by decide +kernel
theorem dL_clears_21 : decode cL_clears 21 = .ok (.iload 5, 2) := by decide +kernel
theorem dL_clears_23 : decode cL_clears 23 = .ok (.iaload, 1) := by decide +kernel
theorem dL_clears_24 : decode cL_clears 24 = .ok (.bipush 32, 2) := by decide +kernel
theorem dL_clears_26 : decode cL_clears 26 = .ok (.idiv, 1) := by decide +kernel
theorem dL_clears_27 : decode cL_clears 27 = .ok (.iload_n 3, 1) := by decide +kernel
theorem dL_clears_28 : decode cL_clears 28 = .ok (.if_icmp .ne 13, 3) := by decide +kernel
theorem dL_clears_31 : decode cL_clears 31 = .ok (.aload_n 1, 1) := by decide +kernel
theorem dL_clears_32 : decode cL_clears 32 = .ok (.aload_n 2, 1) := by decide +kernel
theorem dL_clears_33 : decode cL_clears 33 = .ok (.iload 5, 2) := by decide +kernel
theorem dL_clears_35 : decode cL_clears 35 = .ok (.invokestatic 53, 3) := by decide +kernel
theorem dL_clears_38 : decode cL_clears 38 = .ok (.iinc 4 1, 3) := by decide +kernel
theorem dL_clears_41 : decode cL_clears 41 = .ok (.iinc 5 1, 3) := by decide +kernel
theorem dL_clears_44 : decode cL_clears 44 = .ok (.goto (-38), 3) := by decide +kernel
theorem dL_clears_47 : decode cL_clears 47 = .ok (.aload_n 0, 1) := by decide +kernel
theorem dL_clears_48 : decode cL_clears 48 = .ok (.iload_n 3, 1) := by decide +kernel
theorem dL_clears_49 : decode cL_clears 49 = .ok (.invokevirtual 141, 3) := by decide +kernel
theorem dL_clears_52 : decode cL_clears 52 = .ok (.iload 4, 2) := by decide +kernel
theorem dL_clears_54 : decode cL_clears 54 = .ok (.if_icmp .ne 7, 3) := by decide +kernel
theorem dL_clears_57 : decode cL_clears 57 = .ok (.iconst 1, 1) := by decide +kernel
theorem dL_clears_58 : decode cL_clears 58 = .ok (.goto 4, 3) := by decide +kernel
theorem dL_clears_61 : decode cL_clears 61 = .ok (.iconst 0, 1) := by decide +kernel
theorem dL_clears_62 : decode cL_clears 62 = .ok (.ireturn, 1) := by decide +kernel
theorem dL_isFree_0 : decode cL_isFree 0 = .ok (.aload_n 0, 1) := by decide +kernel
theorem dL_isFree_1 : decode cL_isFree 1 = .ok (.iload_n 2, 1) := by decide +kernel
theorem dL_isFree_2 : decode cL_isFree 2 = .ok (.invokestatic 15, 3) := by decide +kernel
theorem dL_isFree_5 : decode cL_isFree 5 = .ok (.ifCond .le 13, 3) := by decide +kernel
theorem dL_isFree_8 : decode cL_isFree 8 = .ok (.aload_n 1, 1) := by decide +kernel
theorem dL_isFree_9 : decode cL_isFree 9 = .ok (.iload_n 2, 1) := by decide +kernel
theorem dL_isFree_10 : decode cL_isFree 10 = .ok (.iaload, 1) := by decide +kernel
theorem dL_isFree_11 : decode cL_isFree 11 = .ok (.ifCond .ge 7, 3) := by decide +kernel
theorem dL_isFree_14 : decode cL_isFree 14 = .ok (.iconst 1, 1) := by decide +kernel
theorem dL_isFree_15 : decode cL_isFree 15 = .ok (.goto 4, 3) := by decide +kernel
theorem dL_isFree_18 : decode cL_isFree 18 = .ok (.iconst 0, 1) := by decide +kernel
theorem dL_isFree_19 : decode cL_isFree 19 = .ok (.istore_n 3, 1) := by decide +kernel
theorem dL_isFree_20 : decode cL_isFree 20 = .ok (.iconst 0, 1) := by decide +kernel
theorem dL_isFree_21 : decode cL_isFree 21 = .ok (.istore 4, 2) := by decide +kernel
theorem dL_isFree_23 : decode cL_isFree 23 = .ok (.iload 4, 2) := by decide +kernel
theorem dL_isFree_25 : decode cL_isFree 25 = .ok (.bipush 16, 2) := by decide +kernel
theorem dL_isFree_27 : decode cL_isFree 27 = .ok (.if_icmp .ge 27, 3) := by decide +kernel
theorem dL_isFree_30 : decode cL_isFree 30 = .ok (.iload_n 3, 1) := by decide +kernel
theorem dL_isFree_31 : decode cL_isFree 31 = .ok (.ifCond .eq 15, 3) := by decide +kernel
theorem dL_isFree_34 : decode cL_isFree 34 = .ok (.aload_n 1, 1) := by decide +kernel
theorem dL_isFree_35 : decode cL_isFree 35 = .ok (.iload 4, 2) := by decide +kernel
theorem dL_isFree_37 : decode cL_isFree 37 = .ok (.iaload, 1) := by decide +kernel
theorem dL_isFree_38 : decode cL_isFree 38 = .ok (.iload_n 2, 1) := by decide +kernel
theorem dL_isFree_39 : decode cL_isFree 39 = .ok (.if_icmp .eq 7, 3) := by decide +kernel
theorem dL_isFree_42 : decode cL_isFree 42 = .ok (.iconst 1, 1) := by decide +kernel
theorem dL_isFree_43 : decode cL_isFree 43 = .ok (.goto 4, 3) := by decide +kernel
theorem dL_isFree_46 : decode cL_isFree 46 = .ok (.iconst 0, 1) := by decide +kernel
theorem dL_isFree_47 : decode cL_isFree 47 = .ok (.istore_n 3, 1) := by decide +kernel
theorem dL_isFree_48 : decode cL_isFree 48 = .ok (.iinc 4 1, 3) := by decide +kernel
theorem dL_isFree_51 : decode cL_isFree 51 = .ok (.goto (-28), 3) := by decide +kernel
theorem dL_isFree_54 : decode cL_isFree 54 = .ok (.iload_n 3, 1) := by decide +kernel
theorem dL_isFree_55 : decode cL_isFree 55 = .ok (.ireturn, 1) := by decide +kernel
theorem dL_freeLine_0 : decode cL_freeLine 0 = .ok (.iconst (-1), 1) := by decide +kernel
theorem dL_freeLine_1 : decode cL_freeLine 1 = .ok (.istore 5, 2) := by decide +kernel
theorem dL_freeLine_3 : decode cL_freeLine 3 = .ok (.iconst 0, 1) := by decide +kernel
theorem dL_freeLine_4 : decode cL_freeLine 4 = .ok (.istore 6, 2) := by decide +kernel
theorem dL_freeLine_6 : decode cL_freeLine 6 = .ok (.iload 6, 2) := by decide +kernel
theorem dL_freeLine_8 : decode cL_freeLine 8 = .ok (.bipush 16, 2) := by decide +kernel
theorem dL_freeLine_10 : decode cL_freeLine 10 = .ok (.if_icmp .ge 60, 3) := by decide +kernel
theorem dL_freeLine_13 : decode cL_freeLine 13 = .ok (.iload 5, 2) := by decide +kernel
theorem dL_freeLine_15 : decode cL_freeLine 15 = .ok (.ifCond .ge 55, 3) := by decide +kernel
theorem dL_freeLine_18 : decode cL_freeLine 18 = .ok (.iload_n 2, 1) := by decide +kernel
theorem dL_freeLine_19 : decode cL_freeLine 19 = .ok (.iload 6, 2) := by decide +kernel
theorem dL_freeLine_21 : decode cL_freeLine 21 = .ok (.iadd, 1) := by decide +kernel
theorem dL_freeLine_22 : decode cL_freeLine 22 = .ok (.bipush 16, 2) := by decide +kernel
theorem dL_freeLine_24 : decode cL_freeLine 24 = .ok (.irem, 1) := by decide +kernel
theorem dL_freeLine_25 : decode cL_freeLine 25 = .ok (.istore 7, 2) := by decide +kernel
theorem dL_freeLine_27 : decode cL_freeLine 27 = .ok (.iload 7, 2) := by decide +kernel
theorem dL_freeLine_29 : decode cL_freeLine 29 = .ok (.iconst 4, 1) := by decide +kernel
theorem dL_freeLine_30 : decode cL_freeLine 30 = .ok (.idiv, 1) := by decide +kernel
theorem dL_freeLine_31 : decode cL_freeLine 31 = .ok (.iload_n 3, 1) := by decide +kernel
theorem dL_freeLine_32 : decode cL_freeLine 32 = .ok (.if_icmp .ne 7, 3) := by decide +kernel
theorem dL_freeLine_35 : decode cL_freeLine 35 = .ok (.iconst 1, 1) := by decide +kernel
theorem dL_freeLine_36 : decode cL_freeLine 36 = .ok (.goto 4, 3) := by decide +kernel
theorem dL_freeLine_39 : decode cL_freeLine 39 = .ok (.iconst 0, 1) := by decide +kernel
theorem dL_freeLine_40 : decode cL_freeLine 40 = .ok (.iload 4, 2) := by decide +kernel
theorem dL_freeLine_42 : decode cL_freeLine 42 = .ok (.if_icmp .ne 18, 3) := by decide +kernel
theorem dL_freeLine_45 : decode cL_freeLine 45 = .ok (.aload_n 0, 1) := by decide +kernel
theorem dL_freeLine_46 : decode cL_freeLine 46 = .ok (.aload_n 1, 1) := by decide +kernel
theorem dL_freeLine_47 : decode cL_freeLine 47 = .ok (.iload 7, 2) := by decide +kernel
theorem dL_freeLine_49 : decode cL_freeLine 49 = .ok (.invokestatic 144, 3) := by decide +kernel
theorem dL_freeLine_52 : decode cL_freeLine 52 = .ok (.ifCond .eq 8, 3) := by decide +kernel
theorem dL_freeLine_55 : decode cL_freeLine 55 = .ok (.iload 7, 2) := by decide +kernel
theorem dL_freeLine_57 : decode cL_freeLine 57 = .ok (.goto 5, 3) := by decide +kernel
theorem dL_freeLine_60 : decode cL_freeLine 60 = .ok (.iload 5, 2) := by decide +kernel
theorem dL_freeLine_62 : decode cL_freeLine 62 = .ok (.istore 5, 2) := by decide +kernel
theorem dL_freeLine_64 : decode cL_freeLine 64 = .ok (.iinc 6 1, 3) := by decide +kernel
theorem dL_freeLine_67 : decode cL_freeLine 67 = .ok (.goto (-61), 3) := by decide +kernel
theorem dL_freeLine_70 : decode cL_freeLine 70 = .ok (.iload 5, 2) := by decide +kernel
theorem dL_freeLine_72 : decode cL_freeLine 72 = .ok (.ireturn, 1) := by decide +kernel
theorem dL_lends_0 : decode cL_lends 0 = .ok (.aload_n 1, 1) := by decide +kernel
theorem dL_lends_1 : decode cL_lends 1 = .ok (.aload_n 2, 1) := by decide +kernel
theorem dL_lends_2 : decode cL_lends 2 = .ok (.iload_n 3, 1) := by decide +kernel
theorem dL_lends_3 : decode cL_lends 3 = .ok (.bipush 16, 2) := by decide +kernel
theorem dL_lends_5 : decode cL_lends 5 = .ok (.invokestatic 105, 3) := by decide +kernel
theorem dL_lends_8 : decode cL_lends 8 = .ok (.iload_n 3, 1) := by decide +kernel
theorem dL_lends_9 : decode cL_lends 9 = .ok (.iconst 4, 1) := by decide +kernel
theorem dL_lends_10 : decode cL_lends 10 = .ok (.invokestatic 105, 3) := by decide +kernel
theorem dL_lends_13 : decode cL_lends 13 = .ok (.iconst 1, 1) := by decide +kernel
theorem dL_lends_14 : decode cL_lends 14 = .ok (.invokestatic 148, 3) := by decide +kernel
theorem dL_lends_17 : decode cL_lends 17 = .ok (.istore 4, 2) := by decide +kernel
theorem dL_lends_19 : decode cL_lends 19 = .ok (.aload_n 1, 1) := by decide +kernel
theorem dL_lends_20 : decode cL_lends 20 = .ok (.aload_n 2, 1) := by decide +kernel
theorem dL_lends_21 : decode cL_lends 21 = .ok (.iload_n 3, 1) := by decide +kernel
theorem dL_lends_22 : decode cL_lends 22 = .ok (.iconst 4, 1) := by decide +kernel
theorem dL_lends_23 : decode cL_lends 23 = .ok (.ishr, 1) := by decide +kernel
theorem dL_lends_24 : decode cL_lends 24 = .ok (.bipush 16, 2) := by decide +kernel
theorem dL_lends_26 : decode cL_lends 26 = .ok (.invokestatic 105, 3) := by decide +kernel
theorem dL_lends_29 : decode cL_lends 29 = .ok (.iload_n 3, 1) := by decide +kernel
theorem dL_lends_30 : decode cL_lends 30 = .ok (.iconst 4, 1) := by decide +kernel
theorem dL_lends_31 : decode cL_lends 31 = .ok (.invokestatic 105, 3) := by decide +kernel
theorem dL_lends_34 : decode cL_lends 34 = .ok (.iconst 0, 1) := by decide +kernel
theorem dL_lends_35 : decode cL_lends 35 = .ok (.invokestatic 148, 3) := by decide +kernel
theorem dL_lends_38 : decode cL_lends 38 = .ok (.istore 5, 2) := by decide +kernel
theorem dL_lends_40 : decode cL_lends 40 = .ok (.iload 4, 2) := by decide +kernel
theorem dL_lends_42 : decode cL_lends 42 = .ok (.ifCond .lt 8, 3) := by decide +kernel
theorem dL_lends_45 : decode cL_lends 45 = .ok (.iload 5, 2) := by decide +kernel
theorem dL_lends_47 : decode cL_lends 47 = .ok (.ifCond .ge 5, 3) := by decide +kernel
theorem dL_lends_50 : decode cL_lends 50 = .ok (.iconst 1, 1) := by decide +kernel
theorem dL_lends_51 : decode cL_lends 51 = .ok (.ireturn, 1) := by decide +kernel
theorem dL_lends_52 : decode cL_lends 52 = .ok (.aload_n 2, 1) := by decide +kernel
theorem dL_lends_53 : decode cL_lends 53 = .ok (.iload 4, 2) := by decide +kernel
theorem dL_lends_55 : decode cL_lends 55 = .ok (.iload 5, 2) := by decide +kernel
theorem dL_lends_57 : decode cL_lends 57 = .ok (.iastore, 1) := by decide +kernel
theorem dL_lends_58 : decode cL_lends 58 = .ok (.aload_n 0, 1) := by decide +kernel
theorem dL_lends_59 : decode cL_lends 59 = .ok (.iload 4, 2) := by decide +kernel
theorem dL_lends_61 : decode cL_lends 61 = .ok (.iconst 4, 1) := by decide +kernel
theorem dL_lends_62 : decode cL_lends 62 = .ok (.idiv, 1) := by decide +kernel
theorem dL_lends_63 : decode cL_lends 63 = .ok (.iload 4, 2) := by decide +kernel
theorem dL_lends_65 : decode cL_lends 65 = .ok (.iconst 4, 1) := by decide +kernel
theorem dL_lends_66 : decode cL_lends 66 = .ok (.irem, 1) := by decide +kernel
theorem dL_lends_67 : decode cL_lends 67 = .ok (.iload 5, 2) := by decide +kernel
theorem dL_lends_69 : decode cL_lends 69 = .ok (.iconst 4, 1) := by decide +kernel
theorem dL_lends_70 : decode cL_lends 70 = .ok (.idiv, 1) := by decide +kernel
theorem dL_lends_71 : decode cL_lends 71 = .ok (.iload 5, 2) := by decide +kernel
theorem dL_lends_73 : decode cL_lends 73 = .ok (.iconst 4, 1) := by decide +kernel
theorem dL_lends_74 : decode cL_lends 74 = .ok (.irem, 1) := by decide +kernel
theorem dL_lends_75 : decode cL_lends 75 = .ok (.invokevirtual 152, 3) := by decide +kernel
theorem dL_lends_78 : decode cL_lends 78 = .ok (.aload_n 1, 1) := by decide +kernel
theorem dL_lends_79 : decode cL_lends 79 = .ok (.iload 5, 2) := by decide +kernel
theorem dL_lends_81 : decode cL_lends 81 = .ok (.invokestatic 23, 3) := by decide +kernel
theorem dL_lends_84 : decode cL_lends 84 = .ok (.iconst 4, 1) := by decide +kernel
theorem dL_lends_85 : decode cL_lends 85 = .ok (.idiv, 1) := by decide +kernel
theorem dL_lends_86 : decode cL_lends 86 = .ok (.iconst 5, 1) := by decide +kernel
theorem dL_lends_87 : decode cL_lends 87 = .ok (.irem, 1) := by decide +kernel
theorem dL_lends_88 : decode cL_lends 88 = .ok (.if_icmp .ne 7, 3) := by decide +kernel
theorem dL_lends_91 : decode cL_lends 91 = .ok (.iconst 1, 1) := by decide +kernel
theorem dL_lends_92 : decode cL_lends 92 = .ok (.goto 4, 3) := by decide +kernel
theorem dL_lends_95 : decode cL_lends 95 = .ok (.iconst 0, 1) := by decide +kernel
theorem dL_lends_96 : decode cL_lends 96 = .ok (.ireturn, 1) := by decide +kernel
theorem dL_bringsBack_0 : decode cL_bringsBack 0 = .ok (.iconst (-1), 1) := by decide +kernel
theorem dL_bringsBack_1 : decode cL_bringsBack 1 = .ok (.istore 4, 2) := by decide +kernel
theorem dL_bringsBack_3 : decode cL_bringsBack 3 = .ok (.iconst 0, 1) := by decide +kernel
theorem dL_bringsBack_4 : decode cL_bringsBack 4 = .ok (.istore 5, 2) := by decide +kernel
theorem dL_bringsBack_6 : decode cL_bringsBack 6 = .ok (.iload 5, 2) := by decide +kernel
theorem dL_bringsBack_8 : decode cL_bringsBack 8 = .ok (.bipush 16, 2) := by decide +kernel
theorem dL_bringsBack_10 : decode cL_bringsBack 10 = .ok (.if_icmp .ge 49, 3) := by decide +kernel
theorem dL_bringsBack_13 : decode cL_bringsBack 13 = .ok (.iload 4, 2) := by decide +kernel
theorem dL_bringsBack_15 : decode cL_bringsBack 15 = .ok (.ifCond .ge 44, 3) := by decide +kernel
theorem dL_bringsBack_18 : decode cL_bringsBack 18 = .ok (.aload_n 2, 1) := by decide +kernel
theorem dL_bringsBack_19 : decode cL_bringsBack 19 = .ok (.iload_n 3, 1) := by decide +kernel
theorem dL_bringsBack_20 : decode cL_bringsBack 20 = .ok (.bipush 16, 2) := by decide +kernel
theorem dL_bringsBack_22 : decode cL_bringsBack 22 = .ok (.invokestatic 105, 3) := by decide +kernel
theorem dL_bringsBack_25 : decode cL_bringsBack 25 = .ok (.iload 5, 2) := by decide +kernel
theorem dL_bringsBack_27 : decode cL_bringsBack 27 = .ok (.iadd, 1) := by decide +kernel
theorem dL_bringsBack_28 : decode cL_bringsBack 28 = .ok (.bipush 16, 2) := by decide +kernel
theorem dL_bringsBack_30 : decode cL_bringsBack 30 = .ok (.irem, 1) := by decide +kernel
theorem dL_bringsBack_31 : decode cL_bringsBack 31 = .ok (.iaload, 1) := by decide +kernel
theorem dL_bringsBack_32 : decode cL_bringsBack 32 = .ok (.ifCond .ge 7, 3) := by decide +kernel
theorem dL_bringsBack_35 : decode cL_bringsBack 35 = .ok (.iconst (-1), 1) := by decide +kernel
theorem dL_bringsBack_36 : decode cL_bringsBack 36 = .ok (.goto 15, 3) := by decide +kernel
theorem dL_bringsBack_39 : decode cL_bringsBack 39 = .ok (.iload_n 3, 1) := by decide +kernel
theorem dL_bringsBack_40 : decode cL_bringsBack 40 = .ok (.bipush 16, 2) := by decide +kernel
theorem dL_bringsBack_42 : decode cL_bringsBack 42 = .ok (.invokestatic 105, 3) := by decide +kernel
theorem dL_bringsBack_45 : decode cL_bringsBack 45 = .ok (.iload 5, 2) := by decide +kernel
theorem dL_bringsBack_47 : decode cL_bringsBack 47 = .ok (.iadd, 1) := by decide +kernel
theorem dL_bringsBack_48 : decode cL_bringsBack 48 = .ok (.bipush 16, 2) := by decide +kernel
theorem dL_bringsBack_50 : decode cL_bringsBack 50 = .ok (.irem, 1) := by decide +kernel
theorem dL_bringsBack_51 : decode cL_bringsBack 51 = .ok (.istore 4, 2) := by decide +kernel
theorem dL_bringsBack_53 : decode cL_bringsBack 53 = .ok (.iinc 5 1, 3) := by decide +kernel
theorem dL_bringsBack_56 : decode cL_bringsBack 56 = .ok (.goto (-50), 3) := by decide +kernel
theorem dL_bringsBack_59 : decode cL_bringsBack 59 = .ok (.iload 4, 2) := by decide +kernel
theorem dL_bringsBack_61 : decode cL_bringsBack 61 = .ok (.ifCond .ge 18, 3) := by decide +kernel
theorem dL_bringsBack_64 : decode cL_bringsBack 64 = .ok (.aload_n 0, 1) := by decide +kernel
theorem dL_bringsBack_65 : decode cL_bringsBack 65 = .ok (.bipush 6, 2) := by decide +kernel
theorem dL_bringsBack_67 : decode cL_bringsBack 67 = .ok (.invokevirtual 81, 3) := by decide +kernel
theorem dL_bringsBack_70 : decode cL_bringsBack 70 = .ok (.ifCond .ne 7, 3) := by decide +kernel
theorem dL_bringsBack_73 : decode cL_bringsBack 73 = .ok (.iconst 1, 1) := by decide +kernel
theorem dL_bringsBack_74 : decode cL_bringsBack 74 = .ok (.goto 4, 3) := by decide +kernel
theorem dL_bringsBack_77 : decode cL_bringsBack 77 = .ok (.iconst 0, 1) := by decide +kernel
theorem dL_bringsBack_78 : decode cL_bringsBack 78 = .ok (.ireturn, 1) := by decide +kernel
theorem dL_bringsBack_79 : decode cL_bringsBack 79 = .ok (.aload_n 2, 1) := by decide +kernel
theorem dL_bringsBack_80 : decode cL_bringsBack 80 = .ok (.iload 4, 2) := by decide +kernel
theorem dL_bringsBack_82 : decode cL_bringsBack 82 = .ok (.iconst (-1), 1) := by decide +kernel
theorem dL_bringsBack_83 : decode cL_bringsBack 83 = .ok (.iastore, 1) := by decide +kernel
theorem dL_bringsBack_84 : decode cL_bringsBack 84 = .ok (.aload_n 0, 1) := by decide +kernel
theorem dL_bringsBack_85 : decode cL_bringsBack 85 = .ok (.iload 4, 2) := by decide +kernel
theorem dL_bringsBack_87 : decode cL_bringsBack 87 = .ok (.iconst 4, 1) := by decide +kernel
theorem dL_bringsBack_88 : decode cL_bringsBack 88 = .ok (.idiv, 1) := by decide +kernel
theorem dL_bringsBack_89 : decode cL_bringsBack 89 = .ok (.iload 4, 2) := by decide +kernel
theorem dL_bringsBack_91 : decode cL_bringsBack 91 = .ok (.iconst 4, 1) := by decide +kernel
theorem dL_bringsBack_92 : decode cL_bringsBack 92 = .ok (.irem, 1) := by decide +kernel
theorem dL_bringsBack_93 : decode cL_bringsBack 93 = .ok (.invokevirtual 155, 3) := by decide +kernel
theorem dL_bringsBack_96 : decode cL_bringsBack 96 = .ok (.aload_n 1, 1) := by decide +kernel
theorem dL_bringsBack_97 : decode cL_bringsBack 97 = .ok (.iload 4, 2) := by decide +kernel
theorem dL_bringsBack_99 : decode cL_bringsBack 99 = .ok (.invokestatic 23, 3) := by decide +kernel
theorem dL_bringsBack_102 : decode cL_bringsBack 102 = .ok (.iconst 4, 1) := by decide +kernel
theorem dL_bringsBack_103 : decode cL_bringsBack 103 = .ok (.idiv, 1) := by decide +kernel
theorem dL_bringsBack_104 : decode cL_bringsBack 104 = .ok (.iconst 5, 1) := by decide +kernel
theorem dL_bringsBack_105 : decode cL_bringsBack 105 = .ok (.irem, 1) := by decide +kernel
theorem dL_bringsBack_106 : decode cL_bringsBack 106 = .ok (.if_icmp .ne 7, 3) := by decide +kernel
theorem dL_bringsBack_109 : decode cL_bringsBack 109 = .ok (.iconst 1, 1) := by decide +kernel
theorem dL_bringsBack_110 : decode cL_bringsBack 110 = .ok (.goto 4, 3) := by decide +kernel
theorem dL_bringsBack_113 : decode cL_bringsBack 113 = .ok (.iconst 0, 1) := by decide +kernel
theorem dL_bringsBack_114 : decode cL_bringsBack 114 = .ok (.ireturn, 1) := by decide +kernel
theorem dL_sleeps_0 : decode cL_sleeps 0 = .ok (.iconst 0, 1) := by decide +kernel
theorem dL_sleeps_1 : decode cL_sleeps 1 = .ok (.istore 6, 2) := by decide +kernel
theorem dL_sleeps_3 : decode cL_sleeps 3 = .ok (.iconst 0, 1) := by decide +kernel
theorem dL_sleeps_4 : decode cL_sleeps 4 = .ok (.istore 7, 2) := by decide +kernel
theorem dL_sleeps_6 : decode cL_sleeps 6 = .ok (.iload 7, 2) := by decide +kernel
theorem dL_sleeps_8 : decode cL_sleeps 8 = .ok (.iload 5, 2) := by decide +kernel
theorem dL_sleeps_10 : decode cL_sleeps 10 = .ok (.if_icmp .ge 22, 3) := by decide +kernel
theorem dL_sleeps_13 : decode cL_sleeps 13 = .ok (.iload 6, 2) := by decide +kernel
theorem dL_sleeps_15 : decode cL_sleeps 15 = .ok (.aload_n 1, 1) := by decide +kernel
theorem dL_sleeps_16 : decode cL_sleeps 16 = .ok (.aload_n 2, 1) := by decide +kernel
theorem dL_sleeps_17 : decode cL_sleeps 17 = .ok (.aload_n 3, 1) := by decide +kernel
theorem dL_sleeps_18 : decode cL_sleeps 18 = .ok (.aload 4, 2) := by decide +kernel
theorem dL_sleeps_20 : decode cL_sleeps 20 = .ok (.invokestatic 121, 3) := by decide +kernel
theorem dL_sleeps_23 : decode cL_sleeps 23 = .ok (.iadd, 1) := by decide +kernel
theorem dL_sleeps_24 : decode cL_sleeps 24 = .ok (.istore 6, 2) := by decide +kernel
theorem dL_sleeps_26 : decode cL_sleeps 26 = .ok (.iinc 7 1, 3) := by decide +kernel
theorem dL_sleeps_29 : decode cL_sleeps 29 = .ok (.goto (-23), 3) := by decide +kernel
theorem dL_sleeps_32 : decode cL_sleeps 32 = .ok (.aload_n 0, 1) := by decide +kernel
theorem dL_sleeps_33 : decode cL_sleeps 33 = .ok (.iload 5, 2) := by decide +kernel
theorem dL_sleeps_35 : decode cL_sleeps 35 = .ok (.invokevirtual 158, 3) := by decide +kernel
theorem dL_sleeps_38 : decode cL_sleeps 38 = .ok (.iload 6, 2) := by decide +kernel
theorem dL_sleeps_40 : decode cL_sleeps 40 = .ok (.if_icmp .ne 7, 3) := by decide +kernel
theorem dL_sleeps_43 : decode cL_sleeps 43 = .ok (.iconst 1, 1) := by decide +kernel
theorem dL_sleeps_44 : decode cL_sleeps 44 = .ok (.goto 4, 3) := by decide +kernel
theorem dL_sleeps_47 : decode cL_sleeps 47 = .ok (.iconst 0, 1) := by decide +kernel
theorem dL_sleeps_48 : decode cL_sleeps 48 = .ok (.ireturn, 1) := by decide +kernel
theorem dL_sets_0 : decode cL_sets 0 = .ok (.iload_n 2, 1) := by decide +kernel
theorem dL_sets_1 : decode cL_sets 1 = .ok (.iconst 3, 1) := by decide +kernel
theorem dL_sets_2 : decode cL_sets 2 = .ok (.invokestatic 105, 3) := by decide +kernel
theorem dL_sets_5 : decode cL_sets 5 = .ok (.istore_n 3, 1) := by decide +kernel
theorem dL_sets_6 : decode cL_sets 6 = .ok (.aload_n 1, 1) := by decide +kernel
theorem dL_sets_7 : decode cL_sets 7 = .ok (.iload_n 3, 1) := by decide +kernel
theorem dL_sets_8 : decode cL_sets 8 = .ok (.iaload, 1) := by decide +kernel
theorem dL_sets_9 : decode cL_sets 9 = .ok (.istore 4, 2) := by decide +kernel
theorem dL_sets_11 : decode cL_sets 11 = .ok (.aload_n 1, 1) := by decide +kernel
theorem dL_sets_12 : decode cL_sets 12 = .ok (.iload_n 3, 1) := by decide +kernel
theorem dL_sets_13 : decode cL_sets 13 = .ok (.iload_n 3, 1) := by decide +kernel
theorem dL_sets_14 : decode cL_sets 14 = .ok (.ifCond .ne 13, 3) := by decide +kernel
theorem dL_sets_17 : decode cL_sets 17 = .ok (.iload_n 2, 1) := by decide +kernel
theorem dL_sets_18 : decode cL_sets 18 = .ok (.iconst 3, 1) := by decide +kernel
theorem dL_sets_19 : decode cL_sets 19 = .ok (.ishr, 1) := by decide +kernel
theorem dL_sets_20 : decode cL_sets 20 = .ok (.iconst 2, 1) := by decide +kernel
theorem dL_sets_21 : decode cL_sets 21 = .ok (.invokestatic 105, 3) := by decide +kernel
theorem dL_sets_24 : decode cL_sets 24 = .ok (.goto 44, 3) := by decide +kernel
theorem dL_sets_27 : decode cL_sets 27 = .ok (.iload_n 3, 1) := by decide +kernel
theorem dL_sets_28 : decode cL_sets 28 = .ok (.iconst 1, 1) := by decide +kernel
theorem dL_sets_29 : decode cL_sets 29 = .ok (.if_icmp .ne 31, 3) := by decide +kernel
theorem dL_sets_32 : decode cL_sets 32 = .ok (.iload_n 2, 1) := by decide +kernel
theorem dL_sets_33 : decode cL_sets 33 = .ok (.iconst 3, 1) := by decide +kernel
theorem dL_sets_34 : decode cL_sets 34 = .ok (.ishr, 1) := by decide +kernel
theorem dL_sets_35 : decode cL_sets 35 = .ok (.iload_n 2, 1) := by decide +kernel
theorem dL_sets_36 : decode cL_sets 36 = .ok (.bipush 9, 2) := by decide +kernel
theorem dL_sets_38 : decode cL_sets 38 = .ok (.ishr, 1) := by decide +kernel
theorem dL_sets_39 : decode cL_sets 39 = .ok (.iconst 4, 1) := by decide +kernel
theorem dL_sets_40 : decode cL_sets 40 = .ok (.invokestatic 105, 3) := by decide +kernel
theorem dL_sets_43 : decode cL_sets 43 = .ok (.ifCond .ne 9, 3) := by decide +kernel
theorem dL_sets_46 : decode cL_sets 46 = .ok (.sipush 201, 3) := by decide +kernel
theorem dL_sets_49 : decode cL_sets 49 = .ok (.goto 5, 3) := by decide +kernel
theorem dL_sets_52 : decode cL_sets 52 = .ok (.bipush 25, 2) := by decide +kernel
theorem dL_sets_54 : decode cL_sets 54 = .ok (.invokestatic 105, 3) := by decide +kernel
theorem dL_sets_57 : decode cL_sets 57 = .ok (.goto 11, 3) := by decide +kernel
theorem dL_sets_60 : decode cL_sets 60 = .ok (.iload_n 2, 1) := by decide +kernel
theorem dL_sets_61 : decode cL_sets 61 = .ok (.iconst 3, 1) := by decide +kernel
theorem dL_sets_62 : decode cL_sets 62 = .ok (.ishr, 1) := by decide +kernel
theorem dL_sets_63 : decode cL_sets 63 = .ok (.bipush 10, 2) := by decide +kernel
theorem dL_sets_65 : decode cL_sets 65 = .ok (.invokestatic 105, 3) := by decide +kernel
theorem dL_sets_68 : decode cL_sets 68 = .ok (.iastore, 1) := by decide +kernel
theorem dL_sets_69 : decode cL_sets 69 = .ok (.aload_n 0, 1) := by decide +kernel
theorem dL_sets_70 : decode cL_sets 70 = .ok (.iload_n 3, 1) := by decide +kernel
theorem dL_sets_71 : decode cL_sets 71 = .ok (.aload_n 1, 1) := by decide +kernel
theorem dL_sets_72 : decode cL_sets 72 = .ok (.iload_n 3, 1) := by decide +kernel
theorem dL_sets_73 : decode cL_sets 73 = .ok (.iaload, 1) := by decide +kernel
theorem dL_sets_74 : decode cL_sets 74 = .ok (.invokevirtual 161, 3) := by decide +kernel
theorem dL_sets_77 : decode cL_sets 77 = .ok (.iload 4, 2) := by decide +kernel
theorem dL_sets_79 : decode cL_sets 79 = .ok (.if_icmp .ne 7, 3) := by decide +kernel
theorem dL_sets_82 : decode cL_sets 82 = .ok (.iconst 1, 1) := by decide +kernel
theorem dL_sets_83 : decode cL_sets 83 = .ok (.goto 4, 3) := by decide +kernel
theorem dL_sets_86 : decode cL_sets 86 = .ok (.iconst 0, 1) := by decide +kernel
theorem dL_sets_87 : decode cL_sets 87 = .ok (.ireturn, 1) := by decide +kernel
theorem dL_acts_0 : decode cL_acts 0 = .ok (.iload 5, 2) := by decide +kernel
theorem dL_acts_2 : decode cL_acts 2 = .ok (.tableswitch 185 0 14 #[74, 74, 74, 74, 74, 86, 95, 95, 105, 135, 135, 135, 144, 153, 153], 74) := by decide +kernel
theorem dL_acts_76 : decode cL_acts 76 = .ok (.aload_n 0, 1) := by decide +kernel
theorem dL_acts_77 : decode cL_acts 77 = .ok (.aload_n 1, 1) := by decide +kernel
theorem dL_acts_78 : decode cL_acts 78 = .ok (.aload_n 2, 1) := by decide +kernel
theorem dL_acts_79 : decode cL_acts 79 = .ok (.aload_n 3, 1) := by decide +kernel
theorem dL_acts_80 : decode cL_acts 80 = .ok (.iload 6, 2) := by decide +kernel
theorem dL_acts_82 : decode cL_acts 82 = .ok (.iload 7, 2) := by decide +kernel
theorem dL_acts_84 : decode cL_acts 84 = .ok (.invokestatic 164, 3) := by decide +kernel
theorem dL_acts_87 : decode cL_acts 87 = .ok (.ireturn, 1) := by decide +kernel
theorem dL_acts_88 : decode cL_acts 88 = .ok (.aload_n 0, 1) := by decide +kernel
theorem dL_acts_89 : decode cL_acts 89 = .ok (.aload_n 1, 1) := by decide +kernel
theorem dL_acts_90 : decode cL_acts 90 = .ok (.aload_n 2, 1) := by decide +kernel
theorem dL_acts_91 : decode cL_acts 91 = .ok (.iload 6, 2) := by decide +kernel
theorem dL_acts_93 : decode cL_acts 93 = .ok (.invokestatic 168, 3) := by decide +kernel
theorem dL_acts_96 : decode cL_acts 96 = .ok (.ireturn, 1) := by decide +kernel
theorem dL_acts_97 : decode cL_acts 97 = .ok (.aload_n 0, 1) := by decide +kernel
theorem dL_acts_98 : decode cL_acts 98 = .ok (.aload_n 1, 1) := by decide +kernel
theorem dL_acts_99 : decode cL_acts 99 = .ok (.aload_n 2, 1) := by decide +kernel
theorem dL_acts_100 : decode cL_acts 100 = .ok (.aload_n 3, 1) := by decide +kernel
theorem dL_acts_101 : decode cL_acts 101 = .ok (.iload 6, 2) := by decide +kernel
theorem dL_acts_103 : decode cL_acts 103 = .ok (.invokestatic 171, 3) := by decide +kernel
theorem dL_acts_106 : decode cL_acts 106 = .ok (.ireturn, 1) := by decide +kernel
theorem dL_acts_107 : decode cL_acts 107 = .ok (.iload 7, 2) := by decide +kernel
theorem dL_acts_109 : decode cL_acts 109 = .ok (.iconst 3, 1) := by decide +kernel
theorem dL_acts_110 : decode cL_acts 110 = .ok (.invokestatic 105, 3) := by decide +kernel
theorem dL_acts_113 : decode cL_acts 113 = .ok (.ifCond .gt 18, 3) := by decide +kernel
theorem dL_acts_116 : decode cL_acts 116 = .ok (.aload_n 0, 1) := by decide +kernel
theorem dL_acts_117 : decode cL_acts 117 = .ok (.aload_n 1, 1) := by decide +kernel
theorem dL_acts_118 : decode cL_acts 118 = .ok (.aload_n 2, 1) := by decide +kernel
theorem dL_acts_119 : decode cL_acts 119 = .ok (.iload 6, 2) := by decide +kernel
theorem dL_acts_121 : decode cL_acts 121 = .ok (.iconst 4, 1) := by decide +kernel
theorem dL_acts_122 : decode cL_acts 122 = .ok (.invokestatic 105, 3) := by decide +kernel
theorem dL_acts_125 : decode cL_acts 125 = .ok (.invokestatic 175, 3) := by decide +kernel
theorem dL_acts_128 : decode cL_acts 128 = .ok (.ifCond .eq 7, 3) := by decide +kernel
theorem dL_acts_131 : decode cL_acts 131 = .ok (.iconst 1, 1) := by decide +kernel
theorem dL_acts_132 : decode cL_acts 132 = .ok (.goto 4, 3) := by decide +kernel
theorem dL_acts_135 : decode cL_acts 135 = .ok (.iconst 0, 1) := by decide +kernel
theorem dL_acts_136 : decode cL_acts 136 = .ok (.ireturn, 1) := by decide +kernel
theorem dL_acts_137 : decode cL_acts 137 = .ok (.aload_n 0, 1) := by decide +kernel
theorem dL_acts_138 : decode cL_acts 138 = .ok (.aload_n 1, 1) := by decide +kernel
theorem dL_acts_139 : decode cL_acts 139 = .ok (.aload_n 2, 1) := by decide +kernel
theorem dL_acts_140 : decode cL_acts 140 = .ok (.iload 6, 2) := by decide +kernel
theorem dL_acts_142 : decode cL_acts 142 = .ok (.invokestatic 178, 3) := by decide +kernel
theorem dL_acts_145 : decode cL_acts 145 = .ok (.ireturn, 1) := by decide +kernel
theorem dL_acts_146 : decode cL_acts 146 = .ok (.aload_n 0, 1) := by decide +kernel
theorem dL_acts_147 : decode cL_acts 147 = .ok (.aload_n 1, 1) := by decide +kernel
theorem dL_acts_148 : decode cL_acts 148 = .ok (.aload_n 2, 1) := by decide +kernel
theorem dL_acts_149 : decode cL_acts 149 = .ok (.iload 6, 2) := by decide +kernel
theorem dL_acts_151 : decode cL_acts 151 = .ok (.invokestatic 181, 3) := by decide +kernel
theorem dL_acts_154 : decode cL_acts 154 = .ok (.ireturn, 1) := by decide +kernel
theorem dL_acts_155 : decode cL_acts 155 = .ok (.aload_n 0, 1) := by decide +kernel
theorem dL_acts_156 : decode cL_acts 156 = .ok (.aload_n 1, 1) := by decide +kernel
theorem dL_acts_157 : decode cL_acts 157 = .ok (.aload_n 2, 1) := by decide +kernel
theorem dL_acts_158 : decode cL_acts 158 = .ok (.aload_n 3, 1) := by decide +kernel
theorem dL_acts_159 : decode cL_acts 159 = .ok (.aload 4, 2) := by decide +kernel
theorem dL_acts_161 : decode cL_acts 161 = .ok (.iconst 1, 1) := by decide +kernel
theorem dL_acts_162 : decode cL_acts 162 = .ok (.iload 6, 2) := by decide +kernel
theorem dL_acts_164 : decode cL_acts 164 = .ok (.iload 7, 2) := by decide +kernel
theorem dL_acts_166 : decode cL_acts 166 = .ok (.iconst 3, 1) := by decide +kernel
theorem dL_acts_167 : decode cL_acts 167 = .ok (.invokestatic 105, 3) := by decide +kernel
theorem dL_acts_170 : decode cL_acts 170 = .ok (.ifCond .ne 8, 3) := by decide +kernel
theorem dL_acts_173 : decode cL_acts 173 = .ok (.bipush 20, 2) := by decide +kernel
theorem dL_acts_175 : decode cL_acts 175 = .ok (.goto 4, 3) := by decide +kernel
theorem dL_acts_178 : decode cL_acts 178 = .ok (.iconst 3, 1) := by decide +kernel
theorem dL_acts_179 : decode cL_acts 179 = .ok (.invokestatic 105, 3) := by decide +kernel
theorem dL_acts_182 : decode cL_acts 182 = .ok (.iadd, 1) := by decide +kernel
theorem dL_acts_183 : decode cL_acts 183 = .ok (.invokestatic 184, 3) := by decide +kernel
theorem dL_acts_186 : decode cL_acts 186 = .ok (.ireturn, 1) := by decide +kernel
theorem dL_acts_187 : decode cL_acts 187 = .ok (.aload_n 0, 1) := by decide +kernel
theorem dL_acts_188 : decode cL_acts 188 = .ok (.aload_n 3, 1) := by decide +kernel
theorem dL_acts_189 : decode cL_acts 189 = .ok (.iload 6, 2) := by decide +kernel
theorem dL_acts_191 : decode cL_acts 191 = .ok (.invokestatic 188, 3) := by decide +kernel
theorem dL_acts_194 : decode cL_acts 194 = .ok (.ireturn, 1) := by decide +kernel
theorem dL_law_0 : decode cL_law 0 = .ok (.new 58, 3) := by decide +kernel
theorem dL_law_3 : decode cL_law 3 = .ok (.dup, 1) := by decide +kernel
theorem dL_law_4 : decode cL_law 4 = .ok (.invokespecial 192, 3) := by decide +kernel
theorem dL_law_7 : decode cL_law 7 = .ok (.astore_n 1, 1) := by decide +kernel
theorem dL_law_8 : decode cL_law 8 = .ok (.bipush 40, 2) := by decide +kernel
theorem dL_law_10 : decode cL_law 10 = .ok (.newarray .int, 2) := by decide +kernel
theorem dL_law_12 : decode cL_law 12 = .ok (.astore_n 2, 1) := by decide +kernel
theorem dL_law_13 : decode cL_law 13 = .ok (.bipush 16, 2) := by decide +kernel
theorem dL_law_15 : decode cL_law 15 = .ok (.newarray .int, 2) := by decide +kernel
theorem dL_law_17 : decode cL_law 17 = .ok (.astore_n 3, 1) := by decide +kernel
theorem dL_law_18 : decode cL_law 18 = .ok (.bipush 40, 2) := by decide +kernel
theorem dL_law_20 : decode cL_law 20 = .ok (.newarray .int, 2) := by decide +kernel
theorem dL_law_22 : decode cL_law 22 = .ok (.astore 4, 2) := by decide +kernel
theorem dL_law_24 : decode cL_law 24 = .ok (.bipush 14, 2) := by decide +kernel
theorem dL_law_26 : decode cL_law 26 = .ok (.newarray .int, 2) := by decide +kernel
theorem dL_law_28 : decode cL_law 28 = .ok (.astore 5, 2) := by decide +kernel
theorem dL_law_30 : decode cL_law 30 = .ok (.aload 5, 2) := by decide +kernel
theorem dL_law_32 : decode cL_law 32 = .ok (.iconst 1, 1) := by decide +kernel
theorem dL_law_33 : decode cL_law 33 = .ok (.bipush 20, 2) := by decide +kernel
theorem dL_law_35 : decode cL_law 35 = .ok (.iastore, 1) := by decide +kernel
theorem dL_law_36 : decode cL_law 36 = .ok (.aload 5, 2) := by decide +kernel
theorem dL_law_38 : decode cL_law 38 = .ok (.iconst 2, 1) := by decide +kernel
theorem dL_law_39 : decode cL_law 39 = .ok (.iconst 1, 1) := by decide +kernel
theorem dL_law_40 : decode cL_law 40 = .ok (.iastore, 1) := by decide +kernel
theorem dL_law_41 : decode cL_law 41 = .ok (.iconst 0, 1) := by decide +kernel
theorem dL_law_42 : decode cL_law 42 = .ok (.istore 6, 2) := by decide +kernel
theorem dL_law_44 : decode cL_law 44 = .ok (.iload 6, 2) := by decide +kernel
theorem dL_law_46 : decode cL_law 46 = .ok (.bipush 40, 2) := by decide +kernel
theorem dL_law_48 : decode cL_law 48 = .ok (.if_icmp .ge 22, 3) := by decide +kernel
theorem dL_law_51 : decode cL_law 51 = .ok (.aload_n 2, 1) := by decide +kernel
theorem dL_law_52 : decode cL_law 52 = .ok (.iload 6, 2) := by decide +kernel
theorem dL_law_54 : decode cL_law 54 = .ok (.iconst (-1), 1) := by decide +kernel
theorem dL_law_55 : decode cL_law 55 = .ok (.iastore, 1) := by decide +kernel
theorem dL_law_56 : decode cL_law 56 = .ok (.aload_n 3, 1) := by decide +kernel
theorem dL_law_57 : decode cL_law 57 = .ok (.iload 6, 2) := by decide +kernel
theorem dL_law_59 : decode cL_law 59 = .ok (.bipush 16, 2) := by decide +kernel
theorem dL_law_61 : decode cL_law 61 = .ok (.irem, 1) := by decide +kernel
theorem dL_law_62 : decode cL_law 62 = .ok (.iconst (-1), 1) := by decide +kernel
theorem dL_law_63 : decode cL_law 63 = .ok (.iastore, 1) := by decide +kernel
theorem dL_law_64 : decode cL_law 64 = .ok (.iinc 6 1, 3) := by decide +kernel
theorem dL_law_67 : decode cL_law 67 = .ok (.goto (-23), 3) := by decide +kernel
theorem dL_law_70 : decode cL_law 70 = .ok (.aload_n 1, 1) := by decide +kernel
theorem dL_law_71 : decode cL_law 71 = .ok (.aload_n 2, 1) := by decide +kernel
theorem dL_law_72 : decode cL_law 72 = .ok (.aload 4, 2) := by decide +kernel
theorem dL_law_74 : decode cL_law 74 = .ok (.invokestatic 193, 3) := by decide +kernel
theorem dL_law_77 : decode cL_law 77 = .ok (.ifCond .eq 18, 3) := by decide +kernel
theorem dL_law_80 : decode cL_law 80 = .ok (.aload_n 1, 1) := by decide +kernel
theorem dL_law_81 : decode cL_law 81 = .ok (.aload_n 2, 1) := by decide +kernel
theorem dL_law_82 : decode cL_law 82 = .ok (.aload_n 3, 1) := by decide +kernel
theorem dL_law_83 : decode cL_law 83 = .ok (.aload 5, 2) := by decide +kernel
theorem dL_law_85 : decode cL_law 85 = .ok (.invokestatic 197, 3) := by decide +kernel
theorem dL_law_88 : decode cL_law 88 = .ok (.ifCond .eq 7, 3) := by decide +kernel
theorem dL_law_91 : decode cL_law 91 = .ok (.iconst 1, 1) := by decide +kernel
theorem dL_law_92 : decode cL_law 92 = .ok (.goto 4, 3) := by decide +kernel
theorem dL_law_95 : decode cL_law 95 = .ok (.iconst 0, 1) := by decide +kernel
theorem dL_law_96 : decode cL_law 96 = .ok (.istore 6, 2) := by decide +kernel
theorem dL_law_98 : decode cL_law 98 = .ok (.iconst 0, 1) := by decide +kernel
theorem dL_law_99 : decode cL_law 99 = .ok (.istore 7, 2) := by decide +kernel
theorem dL_law_101 : decode cL_law 101 = .ok (.iload 7, 2) := by decide +kernel
theorem dL_law_103 : decode cL_law 103 = .ok (.bipush 40, 2) := by decide +kernel
theorem dL_law_105 : decode cL_law 105 = .ok (.if_icmp .ge 138, 3) := by decide +kernel
theorem dL_law_108 : decode cL_law 108 = .ok (.iload 6, 2) := by decide +kernel
theorem dL_law_110 : decode cL_law 110 = .ok (.ifCond .eq 133, 3) := by decide +kernel
theorem dL_law_113 : decode cL_law 113 = .ok (.aload_n 0, 1) := by decide +kernel
theorem dL_law_114 : decode cL_law 114 = .ok (.iconst 2, 1) := by decide +kernel
theorem dL_law_115 : decode cL_law 115 = .ok (.iload 7, 2) := by decide +kernel
theorem dL_law_117 : decode cL_law 117 = .ok (.imul, 1) := by decide +kernel
theorem dL_law_118 : decode cL_law 118 = .ok (.invokestatic 201, 3) := by decide +kernel
theorem dL_law_121 : decode cL_law 121 = .ok (.istore 8, 2) := by decide +kernel
theorem dL_law_123 : decode cL_law 123 = .ok (.aload_n 0, 1) := by decide +kernel
theorem dL_law_124 : decode cL_law 124 = .ok (.iconst 2, 1) := by decide +kernel
theorem dL_law_125 : decode cL_law 125 = .ok (.iload 7, 2) := by decide +kernel
theorem dL_law_127 : decode cL_law 127 = .ok (.imul, 1) := by decide +kernel
theorem dL_law_128 : decode cL_law 128 = .ok (.iconst 1, 1) := by decide +kernel
theorem dL_law_129 : decode cL_law 129 = .ok (.iadd, 1) := by decide +kernel
theorem dL_law_130 : decode cL_law 130 = .ok (.invokestatic 201, 3) := by decide +kernel
theorem dL_law_133 : decode cL_law 133 = .ok (.istore 9, 2) := by decide +kernel
theorem dL_law_135 : decode cL_law 135 = .ok (.iload 7, 2) := by decide +kernel
theorem dL_law_137 : decode cL_law 137 = .ok (.bipush 14, 2) := by decide +kernel
theorem dL_law_139 : decode cL_law 139 = .ok (.if_icmp .ge 7, 3) := by decide +kernel
theorem dL_law_142 : decode cL_law 142 = .ok (.iconst 0, 1) := by decide +kernel
theorem dL_law_143 : decode cL_law 143 = .ok (.goto 25, 3) := by decide +kernel
theorem dL_law_146 : decode cL_law 146 = .ok (.iload 7, 2) := by decide +kernel
theorem dL_law_148 : decode cL_law 148 = .ok (.bipush 17, 2) := by decide +kernel
theorem dL_law_150 : decode cL_law 150 = .ok (.if_icmp .ge 8, 3) := by decide +kernel
theorem dL_law_153 : decode cL_law 153 = .ok (.bipush 9, 2) := by decide +kernel
theorem dL_law_155 : decode cL_law 155 = .ok (.goto 13, 3) := by decide +kernel
theorem dL_law_158 : decode cL_law 158 = .ok (.iload 8, 2) := by decide +kernel
theorem dL_law_160 : decode cL_law 160 = .ok (.bipush 18, 2) := by decide +kernel
theorem dL_law_162 : decode cL_law 162 = .ok (.ishr, 1) := by decide +kernel
theorem dL_law_163 : decode cL_law 163 = .ok (.bipush 16, 2) := by decide +kernel
theorem dL_law_165 : decode cL_law 165 = .ok (.invokestatic 105, 3) := by decide +kernel
theorem dL_law_168 : decode cL_law 168 = .ok (.istore 10, 2) := by decide +kernel
theorem dL_law_170 : decode cL_law 170 = .ok (.aload_n 1, 1) := by decide +kernel
theorem dL_law_171 : decode cL_law 171 = .ok (.aload_n 2, 1) := by decide +kernel
theorem dL_law_172 : decode cL_law 172 = .ok (.aload_n 3, 1) := by decide +kernel
theorem dL_law_173 : decode cL_law 173 = .ok (.aload 5, 2) := by decide +kernel
theorem dL_law_175 : decode cL_law 175 = .ok (.aload 4, 2) := by decide +kernel
theorem dL_law_177 : decode cL_law 177 = .ok (.iload 10, 2) := by decide +kernel
theorem dL_law_179 : decode cL_law 179 = .ok (.iload 8, 2) := by decide +kernel
theorem dL_law_181 : decode cL_law 181 = .ok (.iload 9, 2) := by decide +kernel
theorem dL_law_183 : decode cL_law 183 = .ok (.invokestatic 204, 3) := by decide +kernel
theorem dL_law_186 : decode cL_law 186 = .ok (.ifCond .eq 48, 3) := by decide +kernel
theorem dL_law_189 : decode cL_law 189 = .ok (.aload_n 1, 1) := by decide +kernel
theorem dL_law_190 : decode cL_law 190 = .ok (.aload_n 2, 1) := by decide +kernel
theorem dL_law_191 : decode cL_law 191 = .ok (.aload 4, 2) := by decide +kernel
theorem dL_law_193 : decode cL_law 193 = .ok (.invokestatic 193, 3) := by decide +kernel
theorem dL_law_196 : decode cL_law 196 = .ok (.ifCond .eq 38, 3) := by decide +kernel
theorem dL_law_199 : decode cL_law 199 = .ok (.aload_n 1, 1) := by decide +kernel
theorem dL_law_200 : decode cL_law 200 = .ok (.aload_n 2, 1) := by decide +kernel
theorem dL_law_201 : decode cL_law 201 = .ok (.aload_n 3, 1) := by decide +kernel
theorem dL_law_202 : decode cL_law 202 = .ok (.aload 5, 2) := by decide +kernel
theorem dL_law_204 : decode cL_law 204 = .ok (.invokestatic 197, 3) := by decide +kernel
theorem dL_law_207 : decode cL_law 207 = .ok (.ifCond .eq 27, 3) := by decide +kernel
theorem dL_law_210 : decode cL_law 210 = .ok (.aload_n 1, 1) := by decide +kernel
theorem dL_law_211 : decode cL_law 211 = .ok (.aload_n 2, 1) := by decide +kernel
theorem dL_law_212 : decode cL_law 212 = .ok (.aload_n 3, 1) := by decide +kernel
theorem dL_law_213 : decode cL_law 213 = .ok (.aload 5, 2) := by decide +kernel
theorem dL_law_215 : decode cL_law 215 = .ok (.aload 4, 2) := by decide +kernel
theorem dL_law_217 : decode cL_law 217 = .ok (.iload 9, 2) := by decide +kernel
theorem dL_law_219 : decode cL_law 219 = .ok (.iconst 3, 1) := by decide +kernel
theorem dL_law_220 : decode cL_law 220 = .ok (.ishr, 1) := by decide +kernel
theorem dL_law_221 : decode cL_law 221 = .ok (.iload 8, 2) := by decide +kernel
theorem dL_law_223 : decode cL_law 223 = .ok (.ixor, 1) := by decide +kernel
theorem dL_law_224 : decode cL_law 224 = .ok (.invokestatic 208, 3) := by decide +kernel
theorem dL_law_227 : decode cL_law 227 = .ok (.ifCond .eq 7, 3) := by decide +kernel
theorem dL_law_230 : decode cL_law 230 = .ok (.iconst 1, 1) := by decide +kernel
theorem dL_law_231 : decode cL_law 231 = .ok (.goto 4, 3) := by decide +kernel
theorem dL_law_234 : decode cL_law 234 = .ok (.iconst 0, 1) := by decide +kernel
theorem dL_law_235 : decode cL_law 235 = .ok (.istore 6, 2) := by decide +kernel
theorem dL_law_237 : decode cL_law 237 = .ok (.iinc 7 1, 3) := by decide +kernel
theorem dL_law_240 : decode cL_law 240 = .ok (.goto (-139), 3) := by decide +kernel
theorem dL_law_243 : decode cL_law 243 = .ok (.iload 6, 2) := by decide +kernel
theorem dL_law_245 : decode cL_law 245 = .ok (.ireturn, 1) := by decide +kernel
