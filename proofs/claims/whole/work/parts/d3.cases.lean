/-! the six cases of the law: printed by wip/gen/gen8.py -/
theorem d_law_76 : decode code 76 = .ok (.aload_n 1, 1) := by decide +kernel
theorem d_law_77 : decode code 77 = .ok (.aload_n 0, 1) := by decide +kernel
theorem d_law_78 : decode code 78 = .ok (.iload 4, 2) := by decide +kernel
theorem d_law_80 : decode code 80 = .ok (.iconst 1, 1) := by decide +kernel
theorem d_law_81 : decode code 81 = .ok (.iadd, 1) := by decide +kernel
theorem d_law_82 : decode code 82 = .ok (.iaload, 1) := by decide +kernel
theorem d_law_83 : decode code 83 = .ok (.aload_n 0, 1) := by decide +kernel
theorem d_law_84 : decode code 84 = .ok (.iload 4, 2) := by decide +kernel
theorem d_law_86 : decode code 86 = .ok (.iconst 2, 1) := by decide +kernel
theorem d_law_87 : decode code 87 = .ok (.iadd, 1) := by decide +kernel
theorem d_law_88 : decode code 88 = .ok (.iaload, 1) := by decide +kernel
theorem d_law_89 : decode code 89 = .ok (.invokestatic 39, 3) := by decide +kernel
theorem d_law_92 : decode code 92 = .ok (.istore 5, 2) := by decide +kernel
theorem d_law_94 : decode code 94 = .ok (.aload_n 2, 1) := by decide +kernel
theorem d_law_95 : decode code 95 = .ok (.aload_n 0, 1) := by decide +kernel
theorem d_law_96 : decode code 96 = .ok (.iload 4, 2) := by decide +kernel
theorem d_law_98 : decode code 98 = .ok (.iconst 1, 1) := by decide +kernel
theorem d_law_99 : decode code 99 = .ok (.iadd, 1) := by decide +kernel
theorem d_law_100 : decode code 100 = .ok (.iaload, 1) := by decide +kernel
theorem d_law_101 : decode code 101 = .ok (.aload_n 0, 1) := by decide +kernel
theorem d_law_102 : decode code 102 = .ok (.iload 4, 2) := by decide +kernel
theorem d_law_104 : decode code 104 = .ok (.iconst 2, 1) := by decide +kernel
theorem d_law_105 : decode code 105 = .ok (.iadd, 1) := by decide +kernel
theorem d_law_106 : decode code 106 = .ok (.iaload, 1) := by decide +kernel
theorem d_law_107 : decode code 107 = .ok (.invokevirtual 44, 3) := by decide +kernel
theorem d_law_110 : decode code 110 = .ok (.aload_n 2, 1) := by decide +kernel
theorem d_law_111 : decode code 111 = .ok (.invokevirtual 45, 3) := by decide +kernel
theorem d_law_114 : decode code 114 = .ok (.iload 5, 2) := by decide +kernel
theorem d_law_116 : decode code 116 = .ok (.if_icmp .eq 5, 3) := by decide +kernel
theorem d_law_121 : decode code 121 = .ok (.goto 343, 3) := by decide +kernel
theorem d_law_124 : decode code 124 = .ok (.aload_n 1, 1) := by decide +kernel
theorem d_law_125 : decode code 125 = .ok (.aload_n 0, 1) := by decide +kernel
theorem d_law_126 : decode code 126 = .ok (.iload 4, 2) := by decide +kernel
theorem d_law_128 : decode code 128 = .ok (.iconst 1, 1) := by decide +kernel
theorem d_law_129 : decode code 129 = .ok (.iadd, 1) := by decide +kernel
theorem d_law_130 : decode code 130 = .ok (.iaload, 1) := by decide +kernel
theorem d_law_131 : decode code 131 = .ok (.aload_n 3, 1) := by decide +kernel
theorem d_law_132 : decode code 132 = .ok (.invokestatic 49, 3) := by decide +kernel
theorem d_law_135 : decode code 135 = .ok (.istore 5, 2) := by decide +kernel
theorem d_law_137 : decode code 137 = .ok (.aload_n 2, 1) := by decide +kernel
theorem d_law_138 : decode code 138 = .ok (.aload_n 0, 1) := by decide +kernel
theorem d_law_139 : decode code 139 = .ok (.iload 4, 2) := by decide +kernel
theorem d_law_141 : decode code 141 = .ok (.iconst 1, 1) := by decide +kernel
theorem d_law_142 : decode code 142 = .ok (.iadd, 1) := by decide +kernel
theorem d_law_143 : decode code 143 = .ok (.iaload, 1) := by decide +kernel
theorem d_law_144 : decode code 144 = .ok (.invokevirtual 52, 3) := by decide +kernel
theorem d_law_147 : decode code 147 = .ok (.istore 6, 2) := by decide +kernel
theorem d_law_149 : decode code 149 = .ok (.aload_n 2, 1) := by decide +kernel
theorem d_law_150 : decode code 150 = .ok (.invokevirtual 45, 3) := by decide +kernel
theorem d_law_153 : decode code 153 = .ok (.iload 5, 2) := by decide +kernel
theorem d_law_155 : decode code 155 = .ok (.if_icmp .eq 5, 3) := by decide +kernel
theorem d_law_160 : decode code 160 = .ok (.iload 5, 2) := by decide +kernel
theorem d_law_162 : decode code 162 = .ok (.ifCond .ne 15, 3) := by decide +kernel
theorem d_law_165 : decode code 165 = .ok (.aload_n 3, 1) := by decide +kernel
theorem d_law_166 : decode code 166 = .ok (.iconst 0, 1) := by decide +kernel
theorem d_law_167 : decode code 167 = .ok (.laload, 1) := by decide +kernel
theorem d_law_168 : decode code 168 = .ok (.iload 6, 2) := by decide +kernel
theorem d_law_170 : decode code 170 = .ok (.i2l, 1) := by decide +kernel
theorem d_law_171 : decode code 171 = .ok (.lcmp, 1) := by decide +kernel
theorem d_law_172 : decode code 172 = .ok (.ifCond .eq 5, 3) := by decide +kernel
theorem d_law_177 : decode code 177 = .ok (.goto 287, 3) := by decide +kernel
theorem d_law_180 : decode code 180 = .ok (.aload_n 1, 1) := by decide +kernel
theorem d_law_181 : decode code 181 = .ok (.aload_n 0, 1) := by decide +kernel
theorem d_law_182 : decode code 182 = .ok (.iload 4, 2) := by decide +kernel
theorem d_law_184 : decode code 184 = .ok (.iconst 1, 1) := by decide +kernel
theorem d_law_185 : decode code 185 = .ok (.iadd, 1) := by decide +kernel
theorem d_law_186 : decode code 186 = .ok (.iaload, 1) := by decide +kernel
theorem d_law_187 : decode code 187 = .ok (.aload_n 0, 1) := by decide +kernel
theorem d_law_188 : decode code 188 = .ok (.iload 4, 2) := by decide +kernel
theorem d_law_190 : decode code 190 = .ok (.iconst 2, 1) := by decide +kernel
theorem d_law_191 : decode code 191 = .ok (.iadd, 1) := by decide +kernel
theorem d_law_192 : decode code 192 = .ok (.iaload, 1) := by decide +kernel
theorem d_law_193 : decode code 193 = .ok (.aload_n 0, 1) := by decide +kernel
theorem d_law_194 : decode code 194 = .ok (.iload 4, 2) := by decide +kernel
theorem d_law_196 : decode code 196 = .ok (.iconst 3, 1) := by decide +kernel
theorem d_law_197 : decode code 197 = .ok (.iadd, 1) := by decide +kernel
theorem d_law_198 : decode code 198 = .ok (.iaload, 1) := by decide +kernel
theorem d_law_199 : decode code 199 = .ok (.aload_n 0, 1) := by decide +kernel
theorem d_law_200 : decode code 200 = .ok (.iload 4, 2) := by decide +kernel
theorem d_law_202 : decode code 202 = .ok (.iconst 4, 1) := by decide +kernel
theorem d_law_203 : decode code 203 = .ok (.iadd, 1) := by decide +kernel
theorem d_law_204 : decode code 204 = .ok (.iaload, 1) := by decide +kernel
theorem d_law_205 : decode code 205 = .ok (.aload_n 3, 1) := by decide +kernel
theorem d_law_206 : decode code 206 = .ok (.invokestatic 53, 3) := by decide +kernel
theorem d_law_209 : decode code 209 = .ok (.istore 5, 2) := by decide +kernel
theorem d_law_211 : decode code 211 = .ok (.aload_n 2, 1) := by decide +kernel
theorem d_law_212 : decode code 212 = .ok (.aload_n 0, 1) := by decide +kernel
theorem d_law_213 : decode code 213 = .ok (.iload 4, 2) := by decide +kernel
theorem d_law_215 : decode code 215 = .ok (.iconst 1, 1) := by decide +kernel
theorem d_law_216 : decode code 216 = .ok (.iadd, 1) := by decide +kernel
theorem d_law_217 : decode code 217 = .ok (.iaload, 1) := by decide +kernel
theorem d_law_218 : decode code 218 = .ok (.aload_n 0, 1) := by decide +kernel
theorem d_law_219 : decode code 219 = .ok (.iload 4, 2) := by decide +kernel
theorem d_law_221 : decode code 221 = .ok (.iconst 2, 1) := by decide +kernel
theorem d_law_222 : decode code 222 = .ok (.iadd, 1) := by decide +kernel
theorem d_law_223 : decode code 223 = .ok (.iaload, 1) := by decide +kernel
theorem d_law_224 : decode code 224 = .ok (.aload_n 0, 1) := by decide +kernel
theorem d_law_225 : decode code 225 = .ok (.iload 4, 2) := by decide +kernel
theorem d_law_227 : decode code 227 = .ok (.iconst 3, 1) := by decide +kernel
theorem d_law_228 : decode code 228 = .ok (.iadd, 1) := by decide +kernel
theorem d_law_229 : decode code 229 = .ok (.iaload, 1) := by decide +kernel
theorem d_law_230 : decode code 230 = .ok (.aload_n 0, 1) := by decide +kernel
theorem d_law_231 : decode code 231 = .ok (.iload 4, 2) := by decide +kernel
theorem d_law_233 : decode code 233 = .ok (.iconst 4, 1) := by decide +kernel
theorem d_law_234 : decode code 234 = .ok (.iadd, 1) := by decide +kernel
theorem d_law_235 : decode code 235 = .ok (.iaload, 1) := by decide +kernel
theorem d_law_236 : decode code 236 = .ok (.invokevirtual 56, 3) := by decide +kernel
theorem d_law_239 : decode code 239 = .ok (.istore 6, 2) := by decide +kernel
theorem d_law_241 : decode code 241 = .ok (.aload_n 2, 1) := by decide +kernel
theorem d_law_242 : decode code 242 = .ok (.invokevirtual 45, 3) := by decide +kernel
theorem d_law_245 : decode code 245 = .ok (.iload 5, 2) := by decide +kernel
theorem d_law_247 : decode code 247 = .ok (.if_icmp .eq 5, 3) := by decide +kernel
theorem d_law_252 : decode code 252 = .ok (.iload 5, 2) := by decide +kernel
theorem d_law_254 : decode code 254 = .ok (.ifCond .ne 15, 3) := by decide +kernel
theorem d_law_257 : decode code 257 = .ok (.aload_n 3, 1) := by decide +kernel
theorem d_law_258 : decode code 258 = .ok (.iconst 0, 1) := by decide +kernel
theorem d_law_259 : decode code 259 = .ok (.laload, 1) := by decide +kernel
theorem d_law_260 : decode code 260 = .ok (.iload 6, 2) := by decide +kernel
theorem d_law_262 : decode code 262 = .ok (.i2l, 1) := by decide +kernel
theorem d_law_263 : decode code 263 = .ok (.lcmp, 1) := by decide +kernel
theorem d_law_264 : decode code 264 = .ok (.ifCond .eq 5, 3) := by decide +kernel
theorem d_law_269 : decode code 269 = .ok (.goto 195, 3) := by decide +kernel
theorem d_law_272 : decode code 272 = .ok (.aload_n 1, 1) := by decide +kernel
theorem d_law_273 : decode code 273 = .ok (.aload_n 0, 1) := by decide +kernel
theorem d_law_274 : decode code 274 = .ok (.iload 4, 2) := by decide +kernel
theorem d_law_276 : decode code 276 = .ok (.iconst 1, 1) := by decide +kernel
theorem d_law_277 : decode code 277 = .ok (.iadd, 1) := by decide +kernel
theorem d_law_278 : decode code 278 = .ok (.iaload, 1) := by decide +kernel
theorem d_law_279 : decode code 279 = .ok (.aload_n 0, 1) := by decide +kernel
theorem d_law_280 : decode code 280 = .ok (.iload 4, 2) := by decide +kernel
theorem d_law_282 : decode code 282 = .ok (.iconst 2, 1) := by decide +kernel
theorem d_law_283 : decode code 283 = .ok (.iadd, 1) := by decide +kernel
theorem d_law_284 : decode code 284 = .ok (.iaload, 1) := by decide +kernel
theorem d_law_285 : decode code 285 = .ok (.aload_n 3, 1) := by decide +kernel
theorem d_law_286 : decode code 286 = .ok (.invokestatic 57, 3) := by decide +kernel
theorem d_law_289 : decode code 289 = .ok (.istore 5, 2) := by decide +kernel
theorem d_law_291 : decode code 291 = .ok (.aload_n 2, 1) := by decide +kernel
theorem d_law_292 : decode code 292 = .ok (.aload_n 0, 1) := by decide +kernel
theorem d_law_293 : decode code 293 = .ok (.iload 4, 2) := by decide +kernel
theorem d_law_295 : decode code 295 = .ok (.iconst 1, 1) := by decide +kernel
theorem d_law_296 : decode code 296 = .ok (.iadd, 1) := by decide +kernel
theorem d_law_297 : decode code 297 = .ok (.iaload, 1) := by decide +kernel
theorem d_law_298 : decode code 298 = .ok (.aload_n 0, 1) := by decide +kernel
theorem d_law_299 : decode code 299 = .ok (.iload 4, 2) := by decide +kernel
theorem d_law_301 : decode code 301 = .ok (.iconst 2, 1) := by decide +kernel
theorem d_law_302 : decode code 302 = .ok (.iadd, 1) := by decide +kernel
theorem d_law_303 : decode code 303 = .ok (.iaload, 1) := by decide +kernel
theorem d_law_304 : decode code 304 = .ok (.invokevirtual 60, 3) := by decide +kernel
theorem d_law_307 : decode code 307 = .ok (.istore 6, 2) := by decide +kernel
theorem d_law_309 : decode code 309 = .ok (.aload_n 2, 1) := by decide +kernel
theorem d_law_310 : decode code 310 = .ok (.invokevirtual 45, 3) := by decide +kernel
theorem d_law_313 : decode code 313 = .ok (.iload 5, 2) := by decide +kernel
theorem d_law_315 : decode code 315 = .ok (.if_icmp .eq 5, 3) := by decide +kernel
theorem d_law_320 : decode code 320 = .ok (.iload 5, 2) := by decide +kernel
theorem d_law_322 : decode code 322 = .ok (.ifCond .ne 15, 3) := by decide +kernel
theorem d_law_325 : decode code 325 = .ok (.aload_n 3, 1) := by decide +kernel
theorem d_law_326 : decode code 326 = .ok (.iconst 0, 1) := by decide +kernel
theorem d_law_327 : decode code 327 = .ok (.laload, 1) := by decide +kernel
theorem d_law_328 : decode code 328 = .ok (.iload 6, 2) := by decide +kernel
theorem d_law_330 : decode code 330 = .ok (.i2l, 1) := by decide +kernel
theorem d_law_331 : decode code 331 = .ok (.lcmp, 1) := by decide +kernel
theorem d_law_332 : decode code 332 = .ok (.ifCond .eq 5, 3) := by decide +kernel
theorem d_law_337 : decode code 337 = .ok (.goto 127, 3) := by decide +kernel
theorem d_law_340 : decode code 340 = .ok (.aload_n 1, 1) := by decide +kernel
theorem d_law_341 : decode code 341 = .ok (.aload_n 0, 1) := by decide +kernel
theorem d_law_342 : decode code 342 = .ok (.iload 4, 2) := by decide +kernel
theorem d_law_344 : decode code 344 = .ok (.iconst 1, 1) := by decide +kernel
theorem d_law_345 : decode code 345 = .ok (.iadd, 1) := by decide +kernel
theorem d_law_346 : decode code 346 = .ok (.iaload, 1) := by decide +kernel
theorem d_law_347 : decode code 347 = .ok (.aload_n 3, 1) := by decide +kernel
theorem d_law_348 : decode code 348 = .ok (.invokestatic 61, 3) := by decide +kernel
theorem d_law_351 : decode code 351 = .ok (.istore 5, 2) := by decide +kernel
theorem d_law_353 : decode code 353 = .ok (.aload_n 2, 1) := by decide +kernel
theorem d_law_354 : decode code 354 = .ok (.aload_n 0, 1) := by decide +kernel
theorem d_law_355 : decode code 355 = .ok (.iload 4, 2) := by decide +kernel
theorem d_law_357 : decode code 357 = .ok (.iconst 1, 1) := by decide +kernel
theorem d_law_358 : decode code 358 = .ok (.iadd, 1) := by decide +kernel
theorem d_law_359 : decode code 359 = .ok (.iaload, 1) := by decide +kernel
theorem d_law_360 : decode code 360 = .ok (.invokevirtual 63, 3) := by decide +kernel
theorem d_law_363 : decode code 363 = .ok (.istore 6, 2) := by decide +kernel
theorem d_law_365 : decode code 365 = .ok (.aload_n 2, 1) := by decide +kernel
theorem d_law_366 : decode code 366 = .ok (.invokevirtual 45, 3) := by decide +kernel
theorem d_law_369 : decode code 369 = .ok (.iload 5, 2) := by decide +kernel
theorem d_law_371 : decode code 371 = .ok (.if_icmp .eq 5, 3) := by decide +kernel
theorem d_law_376 : decode code 376 = .ok (.iload 5, 2) := by decide +kernel
theorem d_law_378 : decode code 378 = .ok (.ifCond .ne 15, 3) := by decide +kernel
theorem d_law_381 : decode code 381 = .ok (.aload_n 3, 1) := by decide +kernel
theorem d_law_382 : decode code 382 = .ok (.iconst 0, 1) := by decide +kernel
theorem d_law_383 : decode code 383 = .ok (.laload, 1) := by decide +kernel
theorem d_law_384 : decode code 384 = .ok (.iload 6, 2) := by decide +kernel
theorem d_law_386 : decode code 386 = .ok (.i2l, 1) := by decide +kernel
theorem d_law_387 : decode code 387 = .ok (.lcmp, 1) := by decide +kernel
theorem d_law_388 : decode code 388 = .ok (.ifCond .eq 5, 3) := by decide +kernel
theorem d_law_393 : decode code 393 = .ok (.goto 71, 3) := by decide +kernel
theorem d_law_396 : decode code 396 = .ok (.aload_n 1, 1) := by decide +kernel
theorem d_law_397 : decode code 397 = .ok (.aload_n 0, 1) := by decide +kernel
theorem d_law_398 : decode code 398 = .ok (.iload 4, 2) := by decide +kernel
theorem d_law_400 : decode code 400 = .ok (.iconst 1, 1) := by decide +kernel
theorem d_law_401 : decode code 401 = .ok (.iadd, 1) := by decide +kernel
theorem d_law_402 : decode code 402 = .ok (.iaload, 1) := by decide +kernel
theorem d_law_403 : decode code 403 = .ok (.aload_n 0, 1) := by decide +kernel
theorem d_law_404 : decode code 404 = .ok (.iload 4, 2) := by decide +kernel
theorem d_law_406 : decode code 406 = .ok (.iconst 2, 1) := by decide +kernel
theorem d_law_407 : decode code 407 = .ok (.iadd, 1) := by decide +kernel
theorem d_law_408 : decode code 408 = .ok (.iaload, 1) := by decide +kernel
theorem d_law_409 : decode code 409 = .ok (.aload_n 3, 1) := by decide +kernel
theorem d_law_410 : decode code 410 = .ok (.invokestatic 64, 3) := by decide +kernel
theorem d_law_413 : decode code 413 = .ok (.istore 5, 2) := by decide +kernel
theorem d_law_415 : decode code 415 = .ok (.aload_n 2, 1) := by decide +kernel
theorem d_law_416 : decode code 416 = .ok (.aload_n 0, 1) := by decide +kernel
theorem d_law_417 : decode code 417 = .ok (.iload 4, 2) := by decide +kernel
theorem d_law_419 : decode code 419 = .ok (.iconst 1, 1) := by decide +kernel
theorem d_law_420 : decode code 420 = .ok (.iadd, 1) := by decide +kernel
theorem d_law_421 : decode code 421 = .ok (.iaload, 1) := by decide +kernel
theorem d_law_422 : decode code 422 = .ok (.aload_n 0, 1) := by decide +kernel
theorem d_law_423 : decode code 423 = .ok (.iload 4, 2) := by decide +kernel
theorem d_law_425 : decode code 425 = .ok (.iconst 2, 1) := by decide +kernel
theorem d_law_426 : decode code 426 = .ok (.iadd, 1) := by decide +kernel
theorem d_law_427 : decode code 427 = .ok (.iaload, 1) := by decide +kernel
theorem d_law_428 : decode code 428 = .ok (.invokevirtual 66, 3) := by decide +kernel
theorem d_law_431 : decode code 431 = .ok (.istore 6, 2) := by decide +kernel
theorem d_law_433 : decode code 433 = .ok (.aload_n 2, 1) := by decide +kernel
theorem d_law_434 : decode code 434 = .ok (.invokevirtual 45, 3) := by decide +kernel
theorem d_law_437 : decode code 437 = .ok (.iload 5, 2) := by decide +kernel
theorem d_law_439 : decode code 439 = .ok (.if_icmp .eq 5, 3) := by decide +kernel
theorem d_law_444 : decode code 444 = .ok (.iload 5, 2) := by decide +kernel
theorem d_law_446 : decode code 446 = .ok (.ifCond .ne 15, 3) := by decide +kernel
theorem d_law_449 : decode code 449 = .ok (.aload_n 3, 1) := by decide +kernel
theorem d_law_450 : decode code 450 = .ok (.iconst 0, 1) := by decide +kernel
theorem d_law_451 : decode code 451 = .ok (.laload, 1) := by decide +kernel
theorem d_law_452 : decode code 452 = .ok (.iload 6, 2) := by decide +kernel
theorem d_law_454 : decode code 454 = .ok (.i2l, 1) := by decide +kernel
theorem d_law_455 : decode code 455 = .ok (.lcmp, 1) := by decide +kernel
theorem d_law_456 : decode code 456 = .ok (.ifCond .eq 5, 3) := by decide +kernel
theorem d_law_461 : decode code 461 = .ok (.goto 3, 3) := by decide +kernel
theorem d_law_23 : decode code 23 = .ok (.iload 4, 2) := by decide +kernel
theorem d_law_25 : decode code 25 = .ok (.aload_n 0, 1) := by decide +kernel
theorem d_law_26 : decode code 26 = .ok (.arraylength, 1) := by decide +kernel
theorem d_law_27 : decode code 27 = .ok (.iconst 5, 1) := by decide +kernel
theorem d_law_28 : decode code 28 = .ok (.isub, 1) := by decide +kernel
theorem d_law_29 : decode code 29 = .ok (.if_icmp .gt 441, 3) := by decide +kernel
theorem d_law_32 : decode code 32 = .ok (.aload_n 0, 1) := by decide +kernel
theorem d_law_33 : decode code 33 = .ok (.iload 4, 2) := by decide +kernel
theorem d_law_35 : decode code 35 = .ok (.iaload, 1) := by decide +kernel
theorem d_law_36 : decode code 36 = .ok (.bipush 7, 2) := by decide +kernel
theorem d_law_38 : decode code 38 = .ok (.iand, 1) := by decide +kernel
theorem d_law_39 : decode code 39 = .ok (.tableswitch 425 0 5 #[37, 85, 141, 233, 301, 357], 37) := by decide +kernel
theorem d_law_464 : decode code 464 = .ok (.iinc 4 5, 3) := by decide +kernel
theorem d_law_467 : decode code 467 = .ok (.goto (-444), 3) := by decide +kernel
theorem d_law_470 : decode code 470 = .ok (.iconst 1, 1) := by decide +kernel
theorem d_law_471 : decode code 471 = .ok (.ireturn, 1) := by decide +kernel
theorem wy_0 : (Cond.codeWith ({ cls := "PartnerStackLaw", name := "memory", desc := "(LPartnerStack;II)I" } : MethodName) method_3_code (4 : Nat) (Option.some FieldType.int) [((0 : Nat), (6 : Nat), (9 : Nat), (13 : Nat))]) ∈ WL := WL_2 (List.mem_of_getElem? (i := 41) rfl) rfl
theorem wy_1 : (Cond.initialized "PartnerStackLaw") ∈ WL := WL_1 (List.mem_of_getElem? (i := 0) rfl) rfl
theorem wy_2 : (Cond.static ({ cls := "PartnerStackLaw", name := "memory", desc := "(LPartnerStack;II)I" } : MethodName)) ∈ WL := WL_2 (List.mem_of_getElem? (i := 40) rfl) rfl
theorem wy_3 : (Cond.methodLink "PartnerStackLaw" (39 : Nat) ({ cls := "PartnerStackLaw", name := "memory", desc := "(LPartnerStack;II)I" } : MethodName)) ∈ WL := WL_2 (List.mem_of_getElem? (i := 39) rfl) rfl
theorem wy_4 : (Cond.code ({ cls := "PartnerStackModel", name := "memory", desc := "(II)V" } : MethodName) prog_12_method_5_code (4 : Nat) (Option.none : Option FieldType)) ∈ WL := WL_5 (List.mem_of_getElem? (i := 163) rfl) rfl
theorem wy_5 : (Cond.initialized "PartnerStackModel") ∈ WL := WL_1 (List.mem_of_getElem? (i := 11) rfl) rfl
theorem wy_6 : (Cond.instanceMethod ({ cls := "PartnerStackModel", name := "memory", desc := "(II)V" } : MethodName)) ∈ WL := WL_5 (List.mem_of_getElem? (i := 161) rfl) rfl
theorem wy_7 : (Cond.selects "PartnerStackModel" ({ cls := "PartnerStackModel", name := "memory", desc := "(II)V" } : MethodName) ({ cls := "PartnerStackModel", name := "memory", desc := "(II)V" } : MethodName)) ∈ WL := WL_5 (List.mem_of_getElem? (i := 162) rfl) rfl
theorem wy_8 : (Cond.methodLink "PartnerStackLaw" (44 : Nat) ({ cls := "PartnerStackModel", name := "memory", desc := "(II)V" } : MethodName)) ∈ WL := WL_5 (List.mem_of_getElem? (i := 160) rfl) rfl
theorem wy_9 : (Cond.code ({ cls := "PartnerStackModel", name := "thrown", desc := "()I" } : MethodName) prog_12_method_2_code (1 : Nat) (Option.some FieldType.int)) ∈ WL := WL_5 (List.mem_of_getElem? (i := 159) rfl) rfl
theorem wy_10 : (Cond.instanceMethod ({ cls := "PartnerStackModel", name := "thrown", desc := "()I" } : MethodName)) ∈ WL := WL_5 (List.mem_of_getElem? (i := 157) rfl) rfl
theorem wy_11 : (Cond.selects "PartnerStackModel" ({ cls := "PartnerStackModel", name := "thrown", desc := "()I" } : MethodName) ({ cls := "PartnerStackModel", name := "thrown", desc := "()I" } : MethodName)) ∈ WL := WL_5 (List.mem_of_getElem? (i := 158) rfl) rfl
theorem wy_12 : (Cond.methodLink "PartnerStackLaw" (45 : Nat) ({ cls := "PartnerStackModel", name := "thrown", desc := "()I" } : MethodName)) ∈ WL := WL_5 (List.mem_of_getElem? (i := 156) rfl) rfl
theorem wy_13 : (Cond.codeWith ({ cls := "PartnerStackLaw", name := "byteAt", desc := "(LPartnerStack;I[J)I" } : MethodName) method_4_code (4 : Nat) (Option.some FieldType.int) [((0 : Nat), (9 : Nat), (12 : Nat), (13 : Nat))]) ∈ WL := WL_2 (List.mem_of_getElem? (i := 119) rfl) rfl
theorem wy_14 : (Cond.static ({ cls := "PartnerStackLaw", name := "byteAt", desc := "(LPartnerStack;I[J)I" } : MethodName)) ∈ WL := WL_2 (List.mem_of_getElem? (i := 118) rfl) rfl
theorem wy_15 : (Cond.methodLink "PartnerStackLaw" (49 : Nat) ({ cls := "PartnerStackLaw", name := "byteAt", desc := "(LPartnerStack;I[J)I" } : MethodName)) ∈ WL := WL_2 (List.mem_of_getElem? (i := 117) rfl) rfl
theorem wy_16 : (Cond.code ({ cls := "PartnerStackModel", name := "byteAt", desc := "(I)I" } : MethodName) prog_12_method_6_code (2 : Nat) (Option.some FieldType.int)) ∈ WL := WL_5 (List.mem_of_getElem? (i := 167) rfl) rfl
theorem wy_17 : (Cond.instanceMethod ({ cls := "PartnerStackModel", name := "byteAt", desc := "(I)I" } : MethodName)) ∈ WL := WL_5 (List.mem_of_getElem? (i := 165) rfl) rfl
theorem wy_18 : (Cond.selects "PartnerStackModel" ({ cls := "PartnerStackModel", name := "byteAt", desc := "(I)I" } : MethodName) ({ cls := "PartnerStackModel", name := "byteAt", desc := "(I)I" } : MethodName)) ∈ WL := WL_5 (List.mem_of_getElem? (i := 166) rfl) rfl
theorem wy_19 : (Cond.methodLink "PartnerStackLaw" (52 : Nat) ({ cls := "PartnerStackModel", name := "byteAt", desc := "(I)I" } : MethodName)) ∈ WL := WL_5 (List.mem_of_getElem? (i := 164) rfl) rfl
theorem wy_20 : (Cond.codeWith ({ cls := "PartnerStackLaw", name := "execute", desc := "(LPartnerStack;IIII[J)I" } : MethodName) method_5_code (7 : Nat) (Option.some FieldType.int) [((0 : Nat), (14 : Nat), (17 : Nat), (23 : Nat))]) ∈ WL := WL_2 (List.mem_of_getElem? (i := 131) rfl) rfl
theorem wy_21 : (Cond.static ({ cls := "PartnerStackLaw", name := "execute", desc := "(LPartnerStack;IIII[J)I" } : MethodName)) ∈ WL := WL_2 (List.mem_of_getElem? (i := 130) rfl) rfl
theorem wy_22 : (Cond.methodLink "PartnerStackLaw" (53 : Nat) ({ cls := "PartnerStackLaw", name := "execute", desc := "(LPartnerStack;IIII[J)I" } : MethodName)) ∈ WL := WL_2 (List.mem_of_getElem? (i := 129) rfl) rfl
theorem wy_23 : (Cond.code ({ cls := "PartnerStackModel", name := "execute", desc := "(IIII)I" } : MethodName) prog_12_method_46_code (8 : Nat) (Option.some FieldType.int)) ∈ WL := WL_5 (List.mem_of_getElem? (i := 188) rfl) rfl
theorem wy_24 : (Cond.instanceMethod ({ cls := "PartnerStackModel", name := "execute", desc := "(IIII)I" } : MethodName)) ∈ WL := WL_5 (List.mem_of_getElem? (i := 186) rfl) rfl
theorem wy_25 : (Cond.selects "PartnerStackModel" ({ cls := "PartnerStackModel", name := "execute", desc := "(IIII)I" } : MethodName) ({ cls := "PartnerStackModel", name := "execute", desc := "(IIII)I" } : MethodName)) ∈ WL := WL_5 (List.mem_of_getElem? (i := 187) rfl) rfl
theorem wy_26 : (Cond.methodLink "PartnerStackLaw" (56 : Nat) ({ cls := "PartnerStackModel", name := "execute", desc := "(IIII)I" } : MethodName)) ∈ WL := WL_5 (List.mem_of_getElem? (i := 185) rfl) rfl
theorem wy_27 : (Cond.codeWith ({ cls := "PartnerStackLaw", name := "needs", desc := "(LPartnerStack;II[J)I" } : MethodName) method_6_code (5 : Nat) (Option.some FieldType.int) [((0 : Nat), (10 : Nat), (13 : Nat), (23 : Nat))]) ∈ WL := WL_4 (List.mem_of_getElem? (i := 148) rfl) rfl
theorem wy_28 : (Cond.static ({ cls := "PartnerStackLaw", name := "needs", desc := "(LPartnerStack;II[J)I" } : MethodName)) ∈ WL := WL_4 (List.mem_of_getElem? (i := 147) rfl) rfl
theorem wy_29 : (Cond.methodLink "PartnerStackLaw" (57 : Nat) ({ cls := "PartnerStackLaw", name := "needs", desc := "(LPartnerStack;II[J)I" } : MethodName)) ∈ WL := WL_4 (List.mem_of_getElem? (i := 146) rfl) rfl
theorem wy_30 : (Cond.code ({ cls := "PartnerStackModel", name := "needs", desc := "(II)I" } : MethodName) prog_12_method_24_code (4 : Nat) (Option.some FieldType.int)) ∈ WL := WL_5 (List.mem_of_getElem? (i := 171) rfl) rfl
theorem wy_31 : (Cond.instanceMethod ({ cls := "PartnerStackModel", name := "needs", desc := "(II)I" } : MethodName)) ∈ WL := WL_5 (List.mem_of_getElem? (i := 169) rfl) rfl
theorem wy_32 : (Cond.selects "PartnerStackModel" ({ cls := "PartnerStackModel", name := "needs", desc := "(II)I" } : MethodName) ({ cls := "PartnerStackModel", name := "needs", desc := "(II)I" } : MethodName)) ∈ WL := WL_5 (List.mem_of_getElem? (i := 170) rfl) rfl
theorem wy_33 : (Cond.methodLink "PartnerStackLaw" (60 : Nat) ({ cls := "PartnerStackModel", name := "needs", desc := "(II)I" } : MethodName)) ∈ WL := WL_5 (List.mem_of_getElem? (i := 168) rfl) rfl
theorem wy_34 : (Cond.codeWith ({ cls := "PartnerStackLaw", name := "word", desc := "(LPartnerStack;I[J)I" } : MethodName) method_7_code (4 : Nat) (Option.some FieldType.int) [((0 : Nat), (9 : Nat), (12 : Nat), (23 : Nat))]) ∈ WL := WL_4 (List.mem_of_getElem? (i := 156) rfl) rfl
theorem wy_35 : (Cond.static ({ cls := "PartnerStackLaw", name := "word", desc := "(LPartnerStack;I[J)I" } : MethodName)) ∈ WL := WL_4 (List.mem_of_getElem? (i := 155) rfl) rfl
theorem wy_36 : (Cond.methodLink "PartnerStackLaw" (61 : Nat) ({ cls := "PartnerStackLaw", name := "word", desc := "(LPartnerStack;I[J)I" } : MethodName)) ∈ WL := WL_4 (List.mem_of_getElem? (i := 154) rfl) rfl
theorem wy_37 : (Cond.code ({ cls := "PartnerStackModel", name := "word", desc := "(I)I" } : MethodName) prog_12_method_47_code (2 : Nat) (Option.some FieldType.int)) ∈ WL := WL_7 (List.mem_of_getElem? (i := 227) rfl) rfl
theorem wy_38 : (Cond.instanceMethod ({ cls := "PartnerStackModel", name := "word", desc := "(I)I" } : MethodName)) ∈ WL := WL_7 (List.mem_of_getElem? (i := 225) rfl) rfl
theorem wy_39 : (Cond.selects "PartnerStackModel" ({ cls := "PartnerStackModel", name := "word", desc := "(I)I" } : MethodName) ({ cls := "PartnerStackModel", name := "word", desc := "(I)I" } : MethodName)) ∈ WL := WL_7 (List.mem_of_getElem? (i := 226) rfl) rfl
theorem wy_40 : (Cond.methodLink "PartnerStackLaw" (63 : Nat) ({ cls := "PartnerStackModel", name := "word", desc := "(I)I" } : MethodName)) ∈ WL := WL_7 (List.mem_of_getElem? (i := 224) rfl) rfl
theorem wy_41 : (Cond.codeWith ({ cls := "PartnerStackLaw", name := "part", desc := "(LPartnerStack;II[J)I" } : MethodName) method_8_code (5 : Nat) (Option.some FieldType.int) [((0 : Nat), (10 : Nat), (13 : Nat), (13 : Nat)), ((0 : Nat), (10 : Nat), (17 : Nat), (23 : Nat))]) ∈ WL := WL_4 (List.mem_of_getElem? (i := 164) rfl) rfl
theorem wy_42 : (Cond.static ({ cls := "PartnerStackLaw", name := "part", desc := "(LPartnerStack;II[J)I" } : MethodName)) ∈ WL := WL_4 (List.mem_of_getElem? (i := 163) rfl) rfl
theorem wy_43 : (Cond.methodLink "PartnerStackLaw" (64 : Nat) ({ cls := "PartnerStackLaw", name := "part", desc := "(LPartnerStack;II[J)I" } : MethodName)) ∈ WL := WL_4 (List.mem_of_getElem? (i := 162) rfl) rfl
theorem wy_44 : (Cond.code ({ cls := "PartnerStackModel", name := "part", desc := "(II)I" } : MethodName) prog_12_method_48_code (3 : Nat) (Option.some FieldType.int)) ∈ WL := WL_7 (List.mem_of_getElem? (i := 231) rfl) rfl
theorem wy_45 : (Cond.instanceMethod ({ cls := "PartnerStackModel", name := "part", desc := "(II)I" } : MethodName)) ∈ WL := WL_7 (List.mem_of_getElem? (i := 229) rfl) rfl
theorem wy_46 : (Cond.selects "PartnerStackModel" ({ cls := "PartnerStackModel", name := "part", desc := "(II)I" } : MethodName) ({ cls := "PartnerStackModel", name := "part", desc := "(II)I" } : MethodName)) ∈ WL := WL_7 (List.mem_of_getElem? (i := 230) rfl) rfl
theorem wy_47 : (Cond.methodLink "PartnerStackLaw" (66 : Nat) ({ cls := "PartnerStackModel", name := "part", desc := "(II)I" } : MethodName)) ∈ WL := WL_7 (List.mem_of_getElem? (i := 228) rfl) rfl
section L2
variable {p : Program} {l : Launch} {e : Env} {s : State} {m : MethodId} {args : Array Value} {below : List Frame} {meth : Method} {c : Code} {cells slots : Nat} {Q : State → Prop} {E : Ev} {B b Ln : Nat} {xs : Nat → Int32}
set_option maxRecDepth 20000 in
set_option maxHeartbeats 2000000 in
theorem law_memory (hC : Cl p s m args c E B b Ln xs) {i : Int32} (h1 : vp_in (i + 1) Ln) (h2 : vp_in (i + 2) Ln) {σ σ1 τ : St} {q q1 : Int64} {kr : Int32} (hM : HF l y_Law_memory method_3_code 4 [(0, 6, 9, 13)] rmH E [.ref 0, .int (xs (i + 1).toNatClampNeg), .int (xs (i + 2).toNatClampNeg)] (σ, τ, q) kr (σ1, τ, q1)) (ht : gI (f_M_memory τ (xs (i + 1).toNatClampNeg) (xs (i + 2).toNatClampNeg)) 0 30 = kr) (hf : cells + 1 ≤ room_1.cells ∧ slots + 6 ≤ room_1.slots) (k : WV p l e s m args below meth c Q E B 464 [(4, .int i), (3, .ref (E.1 49)), (2, .ref (E.1 30)), (1, .ref (E.1 0)), (0, .ref b)] [] (σ1, (f_M_memory τ (xs (i + 1).toNatClampNeg) (xs (i + 2).toNatClampNeg)), q1) (cells + 1) (slots + 6)) : WV p l e s m args below meth c Q E B 76 [(4, .int i), (3, .ref (E.1 49)), (2, .ref (E.1 30)), (1, .ref (E.1 0)), (0, .ref b)] [] (σ, τ, q) cells slots := by
  refine wv_aload_n hC 3 d_law_76 rfl rfl ?_
  refine wv_aload_n hC 4 d_law_77 rfl rfl ?_
  refine wv_iload hC 0 d_law_78 rfl ?_
  refine wv_iconst hC 1 (by decide) d_law_80 ?_
  refine wv_iadd hC d_law_81 ?_
  refine wv_sld hC h1 d_law_82 ?_
  refine wv_aload_n hC 4 d_law_83 rfl rfl ?_
  refine wv_iload hC 0 d_law_84 rfl ?_
  refine wv_iconst hC 2 (by decide) d_law_86 ?_
  refine wv_iadd hC d_law_87 ?_
  refine wv_sld hC h2 d_law_88 ?_
  refine wv_callH hC (n := 3) (vs := [.ref 0, .int (xs (i + 1).toNatClampNeg), .int (xs (i + 2).toNatClampNeg)]) (rest := []) hM wy_0 wy_1 wy_2 wy_3 (by decide +kernel) rfl ⟨(Nat.le_of_ble_eq_true rfl), (Nat.le_of_ble_eq_true rfl)⟩ rfl (Nat.le_of_ble_eq_true rfl) hf d_law_89 ?_
  refine wv_istore hC (lv2 := [(5, .int kr), (4, .int i), (3, .ref (E.1 49)), (2, .ref (E.1 30)), (1, .ref (E.1 0)), (0, .ref b)]) d_law_92 (by decide) rfl ?_
  refine wv_aload_n hC 3 d_law_94 rfl rfl ?_
  refine wv_aload_n hC 5 d_law_95 rfl rfl ?_
  refine wv_iload hC 1 d_law_96 rfl ?_
  refine wv_iconst hC 1 (by decide) d_law_98 ?_
  refine wv_iadd hC d_law_99 ?_
  refine wv_sld hC h1 d_law_100 ?_
  refine wv_aload_n hC 5 d_law_101 rfl rfl ?_
  refine wv_iload hC 1 d_law_102 rfl ?_
  refine wv_iconst hC 2 (by decide) d_law_104 ?_
  refine wv_iadd hC d_law_105 ?_
  refine wv_sld hC h2 d_law_106 ?_
  refine wv_callM hC (n := 2) (vs := [.int (xs (i + 1).toNatClampNeg), .int (xs (i + 2).toNatClampNeg)]) (rest := []) (st1 := []) rfl rfl (c_M_memory l E σ1 τ q1 (xs (i + 1).toNatClampNeg) (xs (i + 2).toNatClampNeg)) (by decide +kernel) wy_4 wy_5 wy_6 wy_7 ⟨rfl, rfl⟩ rfl rfl rfl wy_8 ⟨(Nat.le_of_ble_eq_true rfl), (Nat.le_of_ble_eq_true rfl)⟩ (Nat.le_of_ble_eq_true rfl) ⟨hf.1, hf.2⟩ d_law_107 ?_
  refine wv_aload_n hC 3 d_law_110 rfl rfl ?_
  refine wv_callM hC (n := 0) (vs := []) (rest := []) (st1 := [.int (f_M_thrown (f_M_memory τ (xs (i + 1).toNatClampNeg) (xs (i + 2).toNatClampNeg)))]) rfl rfl (c_M_thrown l E _ _ _) (by decide +kernel) wy_9 wy_5 wy_10 wy_11 ⟨rfl, rfl⟩ rfl rfl rfl wy_12 ⟨(Nat.le_of_ble_eq_true rfl), (Nat.le_of_ble_eq_true rfl)⟩ (Nat.le_of_ble_eq_true rfl) ⟨hf.1, hf.2⟩ d_law_111 ?_
  refine wv_iload hC 0 d_law_114 rfl ?_
  refine wv_eqT hC 121 d_law_116 (by decide) ht ?_
  refine wv_goto hC 464 d_law_121 (by decide) ?_
  refine wv_lv [1, 2, 3, 4, 5] [(4, .int i), (3, .ref (E.1 49)), (2, .ref (E.1 30)), (1, .ref (E.1 0)), (0, .ref b)] rfl ?_
  exact k
set_option maxRecDepth 20000 in
set_option maxHeartbeats 2000000 in
theorem law_byteAt (hC : Cl p s m args c E B b Ln xs) {i : Int32} (h1 : vp_in (i + 1) Ln) {σ σ1 τ : St} {q q1 : Int64} {kr : Int32} (hM : HF l y_Law_byteAt method_4_code 4 [(0, 9, 12, 13)] rmH E [.ref 0, .int (xs (i + 1).toNatClampNeg), .ref 49] (σ, τ, q) kr (σ1, τ, q1)) (ht : gI (f_M_byteAt τ (xs (i + 1).toNatClampNeg)).2 0 30 = kr) (ha : kr = 0 → q1 = (f_M_byteAt τ (xs (i + 1).toNatClampNeg)).1.toInt64) (hf : cells + 1 ≤ room_1.cells ∧ slots + 6 ≤ room_1.slots) (k : WV p l e s m args below meth c Q E B 464 [(4, .int i), (3, .ref (E.1 49)), (2, .ref (E.1 30)), (1, .ref (E.1 0)), (0, .ref b)] [] (σ1, (f_M_byteAt τ (xs (i + 1).toNatClampNeg)).2, q1) (cells + 1) (slots + 6)) : WV p l e s m args below meth c Q E B 124 [(4, .int i), (3, .ref (E.1 49)), (2, .ref (E.1 30)), (1, .ref (E.1 0)), (0, .ref b)] [] (σ, τ, q) cells slots := by
  refine wv_aload_n hC 3 d_law_124 rfl rfl ?_
  refine wv_aload_n hC 4 d_law_125 rfl rfl ?_
  refine wv_iload hC 0 d_law_126 rfl ?_
  refine wv_iconst hC 1 (by decide) d_law_128 ?_
  refine wv_iadd hC d_law_129 ?_
  refine wv_sld hC h1 d_law_130 ?_
  refine wv_aload_n hC 1 d_law_131 rfl rfl ?_
  refine wv_callH hC (n := 3) (vs := [.ref 0, .int (xs (i + 1).toNatClampNeg), .ref 49]) (rest := []) hM wy_13 wy_1 wy_14 wy_15 (by decide +kernel) rfl ⟨(Nat.le_of_ble_eq_true rfl), (Nat.le_of_ble_eq_true rfl)⟩ rfl (Nat.le_of_ble_eq_true rfl) hf d_law_132 ?_
  refine wv_istore hC (lv2 := [(5, .int kr), (4, .int i), (3, .ref (E.1 49)), (2, .ref (E.1 30)), (1, .ref (E.1 0)), (0, .ref b)]) d_law_135 (by decide) rfl ?_
  refine wv_aload_n hC 3 d_law_137 rfl rfl ?_
  refine wv_aload_n hC 5 d_law_138 rfl rfl ?_
  refine wv_iload hC 1 d_law_139 rfl ?_
  refine wv_iconst hC 1 (by decide) d_law_141 ?_
  refine wv_iadd hC d_law_142 ?_
  refine wv_sld hC h1 d_law_143 ?_
  refine wv_callM hC (n := 1) (vs := [.int (xs (i + 1).toNatClampNeg)]) (rest := []) (st1 := [.int (f_M_byteAt τ (xs (i + 1).toNatClampNeg)).1]) rfl rfl (c_M_byteAt l E σ1 τ q1 (xs (i + 1).toNatClampNeg)) (by decide +kernel) wy_16 wy_5 wy_17 wy_18 ⟨rfl, rfl⟩ rfl rfl rfl wy_19 ⟨(Nat.le_of_ble_eq_true rfl), (Nat.le_of_ble_eq_true rfl)⟩ (Nat.le_of_ble_eq_true rfl) ⟨hf.1, hf.2⟩ d_law_144 ?_
  refine wv_istore hC (lv2 := [(6, .int (f_M_byteAt τ (xs (i + 1).toNatClampNeg)).1), (5, .int kr), (4, .int i), (3, .ref (E.1 49)), (2, .ref (E.1 30)), (1, .ref (E.1 0)), (0, .ref b)]) d_law_147 (by decide) rfl ?_
  refine wv_aload_n hC 4 d_law_149 rfl rfl ?_
  refine wv_callM hC (n := 0) (vs := []) (rest := []) (st1 := [.int (f_M_thrown (f_M_byteAt τ (xs (i + 1).toNatClampNeg)).2)]) rfl rfl (c_M_thrown l E _ _ _) (by decide +kernel) wy_9 wy_5 wy_10 wy_11 ⟨rfl, rfl⟩ rfl rfl rfl wy_12 ⟨(Nat.le_of_ble_eq_true rfl), (Nat.le_of_ble_eq_true rfl)⟩ (Nat.le_of_ble_eq_true rfl) ⟨hf.1, hf.2⟩ d_law_150 ?_
  refine wv_iload hC 1 d_law_153 rfl ?_
  refine wv_eqT hC 160 d_law_155 (by decide) ht ?_
  refine wv_iload hC 1 d_law_160 rfl ?_
  by_cases hk0 : kr = 0
  · refine wv_neF hC 177 d_law_162 (by decide) hk0 ?_
    refine wv_aload_n hC 3 d_law_165 rfl rfl ?_
    refine wv_iconst hC 0 (by decide) d_law_166 ?_
    refine wv_out hC d_law_167 ?_
    refine wv_iload hC 0 d_law_168 rfl ?_
    refine wv_i2l hC d_law_170 ?_
    refine wv_leq hC 177 d_law_171 d_law_172 (by decide) (ha hk0) ?_
    refine wv_goto hC 464 d_law_177 (by decide) ?_
    refine wv_lv [2, 3, 4, 5, 6] [(4, .int i), (3, .ref (E.1 49)), (2, .ref (E.1 30)), (1, .ref (E.1 0)), (0, .ref b)] rfl ?_
    exact k
  · refine wv_neT hC 177 d_law_162 (by decide) hk0 ?_
    refine wv_goto hC 464 d_law_177 (by decide) ?_
    refine wv_lv [2, 3, 4, 5, 6] [(4, .int i), (3, .ref (E.1 49)), (2, .ref (E.1 30)), (1, .ref (E.1 0)), (0, .ref b)] rfl ?_
    exact k
set_option maxRecDepth 20000 in
set_option maxHeartbeats 2000000 in
theorem law_execute (hC : Cl p s m args c E B b Ln xs) {i : Int32} (h1 : vp_in (i + 1) Ln) (h2 : vp_in (i + 2) Ln) (h3 : vp_in (i + 3) Ln) (h4 : vp_in (i + 4) Ln) {σ σ1 τ : St} {q q1 : Int64} {kr : Int32} (hM : HF l y_Law_execute method_5_code 7 [(0, 14, 17, 23)] rmH E [.ref 0, .int (xs (i + 1).toNatClampNeg), .int (xs (i + 2).toNatClampNeg), .int (xs (i + 3).toNatClampNeg), .int (xs (i + 4).toNatClampNeg), .ref 49] (σ, τ, q) kr (σ1, τ, q1)) (hm : memb τ) (ht : gI (f_M_execute τ (xs (i + 1).toNatClampNeg) (xs (i + 2).toNatClampNeg) (xs (i + 3).toNatClampNeg) (xs (i + 4).toNatClampNeg)).2 0 30 = kr) (ha : kr = 0 → q1 = (f_M_execute τ (xs (i + 1).toNatClampNeg) (xs (i + 2).toNatClampNeg) (xs (i + 3).toNatClampNeg) (xs (i + 4).toNatClampNeg)).1.toInt64) (hf : cells + 1 ≤ room_1.cells ∧ slots + 6 ≤ room_1.slots) (k : WV p l e s m args below meth c Q E B 464 [(4, .int i), (3, .ref (E.1 49)), (2, .ref (E.1 30)), (1, .ref (E.1 0)), (0, .ref b)] [] (σ1, (f_M_execute τ (xs (i + 1).toNatClampNeg) (xs (i + 2).toNatClampNeg) (xs (i + 3).toNatClampNeg) (xs (i + 4).toNatClampNeg)).2, q1) (cells + 1) (slots + 6)) : WV p l e s m args below meth c Q E B 180 [(4, .int i), (3, .ref (E.1 49)), (2, .ref (E.1 30)), (1, .ref (E.1 0)), (0, .ref b)] [] (σ, τ, q) cells slots := by
  refine wv_aload_n hC 3 d_law_180 rfl rfl ?_
  refine wv_aload_n hC 4 d_law_181 rfl rfl ?_
  refine wv_iload hC 0 d_law_182 rfl ?_
  refine wv_iconst hC 1 (by decide) d_law_184 ?_
  refine wv_iadd hC d_law_185 ?_
  refine wv_sld hC h1 d_law_186 ?_
  refine wv_aload_n hC 4 d_law_187 rfl rfl ?_
  refine wv_iload hC 0 d_law_188 rfl ?_
  refine wv_iconst hC 2 (by decide) d_law_190 ?_
  refine wv_iadd hC d_law_191 ?_
  refine wv_sld hC h2 d_law_192 ?_
  refine wv_aload_n hC 4 d_law_193 rfl rfl ?_
  refine wv_iload hC 0 d_law_194 rfl ?_
  refine wv_iconst hC 3 (by decide) d_law_196 ?_
  refine wv_iadd hC d_law_197 ?_
  refine wv_sld hC h3 d_law_198 ?_
  refine wv_aload_n hC 4 d_law_199 rfl rfl ?_
  refine wv_iload hC 0 d_law_200 rfl ?_
  refine wv_iconst hC 4 (by decide) d_law_202 ?_
  refine wv_iadd hC d_law_203 ?_
  refine wv_sld hC h4 d_law_204 ?_
  refine wv_aload_n hC 1 d_law_205 rfl rfl ?_
  refine wv_callH hC (n := 6) (vs := [.ref 0, .int (xs (i + 1).toNatClampNeg), .int (xs (i + 2).toNatClampNeg), .int (xs (i + 3).toNatClampNeg), .int (xs (i + 4).toNatClampNeg), .ref 49]) (rest := []) hM wy_20 wy_1 wy_21 wy_22 (by decide +kernel) rfl ⟨(Nat.le_of_ble_eq_true rfl), (Nat.le_of_ble_eq_true rfl)⟩ rfl (Nat.le_of_ble_eq_true rfl) hf d_law_206 ?_
  refine wv_istore hC (lv2 := [(5, .int kr), (4, .int i), (3, .ref (E.1 49)), (2, .ref (E.1 30)), (1, .ref (E.1 0)), (0, .ref b)]) d_law_209 (by decide) rfl ?_
  refine wv_aload_n hC 3 d_law_211 rfl rfl ?_
  refine wv_aload_n hC 5 d_law_212 rfl rfl ?_
  refine wv_iload hC 1 d_law_213 rfl ?_
  refine wv_iconst hC 1 (by decide) d_law_215 ?_
  refine wv_iadd hC d_law_216 ?_
  refine wv_sld hC h1 d_law_217 ?_
  refine wv_aload_n hC 5 d_law_218 rfl rfl ?_
  refine wv_iload hC 1 d_law_219 rfl ?_
  refine wv_iconst hC 2 (by decide) d_law_221 ?_
  refine wv_iadd hC d_law_222 ?_
  refine wv_sld hC h2 d_law_223 ?_
  refine wv_aload_n hC 5 d_law_224 rfl rfl ?_
  refine wv_iload hC 1 d_law_225 rfl ?_
  refine wv_iconst hC 3 (by decide) d_law_227 ?_
  refine wv_iadd hC d_law_228 ?_
  refine wv_sld hC h3 d_law_229 ?_
  refine wv_aload_n hC 5 d_law_230 rfl rfl ?_
  refine wv_iload hC 1 d_law_231 rfl ?_
  refine wv_iconst hC 4 (by decide) d_law_233 ?_
  refine wv_iadd hC d_law_234 ?_
  refine wv_sld hC h4 d_law_235 ?_
  refine wv_callM hC (n := 4) (vs := [.int (xs (i + 1).toNatClampNeg), .int (xs (i + 2).toNatClampNeg), .int (xs (i + 3).toNatClampNeg), .int (xs (i + 4).toNatClampNeg)]) (rest := []) (st1 := [.int (f_M_execute τ (xs (i + 1).toNatClampNeg) (xs (i + 2).toNatClampNeg) (xs (i + 3).toNatClampNeg) (xs (i + 4).toNatClampNeg)).1]) rfl rfl (c_M_execute l E σ1 τ q1 (xs (i + 1).toNatClampNeg) (xs (i + 2).toNatClampNeg) (xs (i + 3).toNatClampNeg) (xs (i + 4).toNatClampNeg) hm) (by decide +kernel) wy_23 wy_5 wy_24 wy_25 ⟨rfl, rfl⟩ rfl rfl rfl wy_26 ⟨(Nat.le_of_ble_eq_true rfl), (Nat.le_of_ble_eq_true rfl)⟩ (Nat.le_of_ble_eq_true rfl) ⟨hf.1, hf.2⟩ d_law_236 ?_
  refine wv_istore hC (lv2 := [(6, .int (f_M_execute τ (xs (i + 1).toNatClampNeg) (xs (i + 2).toNatClampNeg) (xs (i + 3).toNatClampNeg) (xs (i + 4).toNatClampNeg)).1), (5, .int kr), (4, .int i), (3, .ref (E.1 49)), (2, .ref (E.1 30)), (1, .ref (E.1 0)), (0, .ref b)]) d_law_239 (by decide) rfl ?_
  refine wv_aload_n hC 4 d_law_241 rfl rfl ?_
  refine wv_callM hC (n := 0) (vs := []) (rest := []) (st1 := [.int (f_M_thrown (f_M_execute τ (xs (i + 1).toNatClampNeg) (xs (i + 2).toNatClampNeg) (xs (i + 3).toNatClampNeg) (xs (i + 4).toNatClampNeg)).2)]) rfl rfl (c_M_thrown l E _ _ _) (by decide +kernel) wy_9 wy_5 wy_10 wy_11 ⟨rfl, rfl⟩ rfl rfl rfl wy_12 ⟨(Nat.le_of_ble_eq_true rfl), (Nat.le_of_ble_eq_true rfl)⟩ (Nat.le_of_ble_eq_true rfl) ⟨hf.1, hf.2⟩ d_law_242 ?_
  refine wv_iload hC 1 d_law_245 rfl ?_
  refine wv_eqT hC 252 d_law_247 (by decide) ht ?_
  refine wv_iload hC 1 d_law_252 rfl ?_
  by_cases hk0 : kr = 0
  · refine wv_neF hC 269 d_law_254 (by decide) hk0 ?_
    refine wv_aload_n hC 3 d_law_257 rfl rfl ?_
    refine wv_iconst hC 0 (by decide) d_law_258 ?_
    refine wv_out hC d_law_259 ?_
    refine wv_iload hC 0 d_law_260 rfl ?_
    refine wv_i2l hC d_law_262 ?_
    refine wv_leq hC 269 d_law_263 d_law_264 (by decide) (ha hk0) ?_
    refine wv_goto hC 464 d_law_269 (by decide) ?_
    refine wv_lv [2, 3, 4, 5, 6] [(4, .int i), (3, .ref (E.1 49)), (2, .ref (E.1 30)), (1, .ref (E.1 0)), (0, .ref b)] rfl ?_
    exact k
  · refine wv_neT hC 269 d_law_254 (by decide) hk0 ?_
    refine wv_goto hC 464 d_law_269 (by decide) ?_
    refine wv_lv [2, 3, 4, 5, 6] [(4, .int i), (3, .ref (E.1 49)), (2, .ref (E.1 30)), (1, .ref (E.1 0)), (0, .ref b)] rfl ?_
    exact k
set_option maxRecDepth 20000 in
set_option maxHeartbeats 2000000 in
theorem law_needs (hC : Cl p s m args c E B b Ln xs) {i : Int32} (h1 : vp_in (i + 1) Ln) (h2 : vp_in (i + 2) Ln) {σ σ1 τ : St} {q q1 : Int64} {kr : Int32} (hM : HF l y_Law_needs method_6_code 5 [(0, 10, 13, 23)] rmH E [.ref 0, .int (xs (i + 1).toNatClampNeg), .int (xs (i + 2).toNatClampNeg), .ref 49] (σ, τ, q) kr (σ1, τ, q1)) (ht : gI (f_M_needs τ (xs (i + 1).toNatClampNeg) (xs (i + 2).toNatClampNeg)).2 0 30 = kr) (ha : kr = 0 → q1 = (f_M_needs τ (xs (i + 1).toNatClampNeg) (xs (i + 2).toNatClampNeg)).1.toInt64) (hf : cells + 1 ≤ room_1.cells ∧ slots + 6 ≤ room_1.slots) (k : WV p l e s m args below meth c Q E B 464 [(4, .int i), (3, .ref (E.1 49)), (2, .ref (E.1 30)), (1, .ref (E.1 0)), (0, .ref b)] [] (σ1, (f_M_needs τ (xs (i + 1).toNatClampNeg) (xs (i + 2).toNatClampNeg)).2, q1) (cells + 1) (slots + 6)) : WV p l e s m args below meth c Q E B 272 [(4, .int i), (3, .ref (E.1 49)), (2, .ref (E.1 30)), (1, .ref (E.1 0)), (0, .ref b)] [] (σ, τ, q) cells slots := by
  refine wv_aload_n hC 3 d_law_272 rfl rfl ?_
  refine wv_aload_n hC 4 d_law_273 rfl rfl ?_
  refine wv_iload hC 0 d_law_274 rfl ?_
  refine wv_iconst hC 1 (by decide) d_law_276 ?_
  refine wv_iadd hC d_law_277 ?_
  refine wv_sld hC h1 d_law_278 ?_
  refine wv_aload_n hC 4 d_law_279 rfl rfl ?_
  refine wv_iload hC 0 d_law_280 rfl ?_
  refine wv_iconst hC 2 (by decide) d_law_282 ?_
  refine wv_iadd hC d_law_283 ?_
  refine wv_sld hC h2 d_law_284 ?_
  refine wv_aload_n hC 1 d_law_285 rfl rfl ?_
  refine wv_callH hC (n := 4) (vs := [.ref 0, .int (xs (i + 1).toNatClampNeg), .int (xs (i + 2).toNatClampNeg), .ref 49]) (rest := []) hM wy_27 wy_1 wy_28 wy_29 (by decide +kernel) rfl ⟨(Nat.le_of_ble_eq_true rfl), (Nat.le_of_ble_eq_true rfl)⟩ rfl (Nat.le_of_ble_eq_true rfl) hf d_law_286 ?_
  refine wv_istore hC (lv2 := [(5, .int kr), (4, .int i), (3, .ref (E.1 49)), (2, .ref (E.1 30)), (1, .ref (E.1 0)), (0, .ref b)]) d_law_289 (by decide) rfl ?_
  refine wv_aload_n hC 3 d_law_291 rfl rfl ?_
  refine wv_aload_n hC 5 d_law_292 rfl rfl ?_
  refine wv_iload hC 1 d_law_293 rfl ?_
  refine wv_iconst hC 1 (by decide) d_law_295 ?_
  refine wv_iadd hC d_law_296 ?_
  refine wv_sld hC h1 d_law_297 ?_
  refine wv_aload_n hC 5 d_law_298 rfl rfl ?_
  refine wv_iload hC 1 d_law_299 rfl ?_
  refine wv_iconst hC 2 (by decide) d_law_301 ?_
  refine wv_iadd hC d_law_302 ?_
  refine wv_sld hC h2 d_law_303 ?_
  refine wv_callM hC (n := 2) (vs := [.int (xs (i + 1).toNatClampNeg), .int (xs (i + 2).toNatClampNeg)]) (rest := []) (st1 := [.int (f_M_needs τ (xs (i + 1).toNatClampNeg) (xs (i + 2).toNatClampNeg)).1]) rfl rfl (c_M_needs l E σ1 τ q1 (xs (i + 1).toNatClampNeg) (xs (i + 2).toNatClampNeg)) (by decide +kernel) wy_30 wy_5 wy_31 wy_32 ⟨rfl, rfl⟩ rfl rfl rfl wy_33 ⟨(Nat.le_of_ble_eq_true rfl), (Nat.le_of_ble_eq_true rfl)⟩ (Nat.le_of_ble_eq_true rfl) ⟨hf.1, hf.2⟩ d_law_304 ?_
  refine wv_istore hC (lv2 := [(6, .int (f_M_needs τ (xs (i + 1).toNatClampNeg) (xs (i + 2).toNatClampNeg)).1), (5, .int kr), (4, .int i), (3, .ref (E.1 49)), (2, .ref (E.1 30)), (1, .ref (E.1 0)), (0, .ref b)]) d_law_307 (by decide) rfl ?_
  refine wv_aload_n hC 4 d_law_309 rfl rfl ?_
  refine wv_callM hC (n := 0) (vs := []) (rest := []) (st1 := [.int (f_M_thrown (f_M_needs τ (xs (i + 1).toNatClampNeg) (xs (i + 2).toNatClampNeg)).2)]) rfl rfl (c_M_thrown l E _ _ _) (by decide +kernel) wy_9 wy_5 wy_10 wy_11 ⟨rfl, rfl⟩ rfl rfl rfl wy_12 ⟨(Nat.le_of_ble_eq_true rfl), (Nat.le_of_ble_eq_true rfl)⟩ (Nat.le_of_ble_eq_true rfl) ⟨hf.1, hf.2⟩ d_law_310 ?_
  refine wv_iload hC 1 d_law_313 rfl ?_
  refine wv_eqT hC 320 d_law_315 (by decide) ht ?_
  refine wv_iload hC 1 d_law_320 rfl ?_
  by_cases hk0 : kr = 0
  · refine wv_neF hC 337 d_law_322 (by decide) hk0 ?_
    refine wv_aload_n hC 3 d_law_325 rfl rfl ?_
    refine wv_iconst hC 0 (by decide) d_law_326 ?_
    refine wv_out hC d_law_327 ?_
    refine wv_iload hC 0 d_law_328 rfl ?_
    refine wv_i2l hC d_law_330 ?_
    refine wv_leq hC 337 d_law_331 d_law_332 (by decide) (ha hk0) ?_
    refine wv_goto hC 464 d_law_337 (by decide) ?_
    refine wv_lv [2, 3, 4, 5, 6] [(4, .int i), (3, .ref (E.1 49)), (2, .ref (E.1 30)), (1, .ref (E.1 0)), (0, .ref b)] rfl ?_
    exact k
  · refine wv_neT hC 337 d_law_322 (by decide) hk0 ?_
    refine wv_goto hC 464 d_law_337 (by decide) ?_
    refine wv_lv [2, 3, 4, 5, 6] [(4, .int i), (3, .ref (E.1 49)), (2, .ref (E.1 30)), (1, .ref (E.1 0)), (0, .ref b)] rfl ?_
    exact k
set_option maxRecDepth 20000 in
set_option maxHeartbeats 2000000 in
theorem law_word (hC : Cl p s m args c E B b Ln xs) {i : Int32} (h1 : vp_in (i + 1) Ln) {σ σ1 τ : St} {q q1 : Int64} {kr : Int32} (hM : HF l y_Law_word method_7_code 4 [(0, 9, 12, 23)] rmH E [.ref 0, .int (xs (i + 1).toNatClampNeg), .ref 49] (σ, τ, q) kr (σ1, τ, q1)) (ht : gI (f_M_word τ (xs (i + 1).toNatClampNeg)).2 0 30 = kr) (ha : kr = 0 → q1 = (f_M_word τ (xs (i + 1).toNatClampNeg)).1.toInt64) (hf : cells + 1 ≤ room_1.cells ∧ slots + 6 ≤ room_1.slots) (k : WV p l e s m args below meth c Q E B 464 [(4, .int i), (3, .ref (E.1 49)), (2, .ref (E.1 30)), (1, .ref (E.1 0)), (0, .ref b)] [] (σ1, (f_M_word τ (xs (i + 1).toNatClampNeg)).2, q1) (cells + 1) (slots + 6)) : WV p l e s m args below meth c Q E B 340 [(4, .int i), (3, .ref (E.1 49)), (2, .ref (E.1 30)), (1, .ref (E.1 0)), (0, .ref b)] [] (σ, τ, q) cells slots := by
  refine wv_aload_n hC 3 d_law_340 rfl rfl ?_
  refine wv_aload_n hC 4 d_law_341 rfl rfl ?_
  refine wv_iload hC 0 d_law_342 rfl ?_
  refine wv_iconst hC 1 (by decide) d_law_344 ?_
  refine wv_iadd hC d_law_345 ?_
  refine wv_sld hC h1 d_law_346 ?_
  refine wv_aload_n hC 1 d_law_347 rfl rfl ?_
  refine wv_callH hC (n := 3) (vs := [.ref 0, .int (xs (i + 1).toNatClampNeg), .ref 49]) (rest := []) hM wy_34 wy_1 wy_35 wy_36 (by decide +kernel) rfl ⟨(Nat.le_of_ble_eq_true rfl), (Nat.le_of_ble_eq_true rfl)⟩ rfl (Nat.le_of_ble_eq_true rfl) hf d_law_348 ?_
  refine wv_istore hC (lv2 := [(5, .int kr), (4, .int i), (3, .ref (E.1 49)), (2, .ref (E.1 30)), (1, .ref (E.1 0)), (0, .ref b)]) d_law_351 (by decide) rfl ?_
  refine wv_aload_n hC 3 d_law_353 rfl rfl ?_
  refine wv_aload_n hC 5 d_law_354 rfl rfl ?_
  refine wv_iload hC 1 d_law_355 rfl ?_
  refine wv_iconst hC 1 (by decide) d_law_357 ?_
  refine wv_iadd hC d_law_358 ?_
  refine wv_sld hC h1 d_law_359 ?_
  refine wv_callM hC (n := 1) (vs := [.int (xs (i + 1).toNatClampNeg)]) (rest := []) (st1 := [.int (f_M_word τ (xs (i + 1).toNatClampNeg)).1]) rfl rfl (c_M_word l E σ1 τ q1 (xs (i + 1).toNatClampNeg)) (by decide +kernel) wy_37 wy_5 wy_38 wy_39 ⟨rfl, rfl⟩ rfl rfl rfl wy_40 ⟨(Nat.le_of_ble_eq_true rfl), (Nat.le_of_ble_eq_true rfl)⟩ (Nat.le_of_ble_eq_true rfl) ⟨hf.1, hf.2⟩ d_law_360 ?_
  refine wv_istore hC (lv2 := [(6, .int (f_M_word τ (xs (i + 1).toNatClampNeg)).1), (5, .int kr), (4, .int i), (3, .ref (E.1 49)), (2, .ref (E.1 30)), (1, .ref (E.1 0)), (0, .ref b)]) d_law_363 (by decide) rfl ?_
  refine wv_aload_n hC 4 d_law_365 rfl rfl ?_
  refine wv_callM hC (n := 0) (vs := []) (rest := []) (st1 := [.int (f_M_thrown (f_M_word τ (xs (i + 1).toNatClampNeg)).2)]) rfl rfl (c_M_thrown l E _ _ _) (by decide +kernel) wy_9 wy_5 wy_10 wy_11 ⟨rfl, rfl⟩ rfl rfl rfl wy_12 ⟨(Nat.le_of_ble_eq_true rfl), (Nat.le_of_ble_eq_true rfl)⟩ (Nat.le_of_ble_eq_true rfl) ⟨hf.1, hf.2⟩ d_law_366 ?_
  refine wv_iload hC 1 d_law_369 rfl ?_
  refine wv_eqT hC 376 d_law_371 (by decide) ht ?_
  refine wv_iload hC 1 d_law_376 rfl ?_
  by_cases hk0 : kr = 0
  · refine wv_neF hC 393 d_law_378 (by decide) hk0 ?_
    refine wv_aload_n hC 3 d_law_381 rfl rfl ?_
    refine wv_iconst hC 0 (by decide) d_law_382 ?_
    refine wv_out hC d_law_383 ?_
    refine wv_iload hC 0 d_law_384 rfl ?_
    refine wv_i2l hC d_law_386 ?_
    refine wv_leq hC 393 d_law_387 d_law_388 (by decide) (ha hk0) ?_
    refine wv_goto hC 464 d_law_393 (by decide) ?_
    refine wv_lv [2, 3, 4, 5, 6] [(4, .int i), (3, .ref (E.1 49)), (2, .ref (E.1 30)), (1, .ref (E.1 0)), (0, .ref b)] rfl ?_
    exact k
  · refine wv_neT hC 393 d_law_378 (by decide) hk0 ?_
    refine wv_goto hC 464 d_law_393 (by decide) ?_
    refine wv_lv [2, 3, 4, 5, 6] [(4, .int i), (3, .ref (E.1 49)), (2, .ref (E.1 30)), (1, .ref (E.1 0)), (0, .ref b)] rfl ?_
    exact k
set_option maxRecDepth 20000 in
set_option maxHeartbeats 2000000 in
theorem law_part (hC : Cl p s m args c E B b Ln xs) {i : Int32} (h1 : vp_in (i + 1) Ln) (h2 : vp_in (i + 2) Ln) {σ σ1 τ : St} {q q1 : Int64} {kr : Int32} (hM : HF l y_Law_part method_8_code 5 [(0, 10, 13, 13), (0, 10, 17, 23)] rmH E [.ref 0, .int (xs (i + 1).toNatClampNeg), .int (xs (i + 2).toNatClampNeg), .ref 49] (σ, τ, q) kr (σ1, τ, q1)) (ht : gI (f_M_part τ (xs (i + 1).toNatClampNeg) (xs (i + 2).toNatClampNeg)).2 0 30 = kr) (ha : kr = 0 → q1 = (f_M_part τ (xs (i + 1).toNatClampNeg) (xs (i + 2).toNatClampNeg)).1.toInt64) (hf : cells + 1 ≤ room_1.cells ∧ slots + 6 ≤ room_1.slots) (k : WV p l e s m args below meth c Q E B 464 [(4, .int i), (3, .ref (E.1 49)), (2, .ref (E.1 30)), (1, .ref (E.1 0)), (0, .ref b)] [] (σ1, (f_M_part τ (xs (i + 1).toNatClampNeg) (xs (i + 2).toNatClampNeg)).2, q1) (cells + 1) (slots + 6)) : WV p l e s m args below meth c Q E B 396 [(4, .int i), (3, .ref (E.1 49)), (2, .ref (E.1 30)), (1, .ref (E.1 0)), (0, .ref b)] [] (σ, τ, q) cells slots := by
  refine wv_aload_n hC 3 d_law_396 rfl rfl ?_
  refine wv_aload_n hC 4 d_law_397 rfl rfl ?_
  refine wv_iload hC 0 d_law_398 rfl ?_
  refine wv_iconst hC 1 (by decide) d_law_400 ?_
  refine wv_iadd hC d_law_401 ?_
  refine wv_sld hC h1 d_law_402 ?_
  refine wv_aload_n hC 4 d_law_403 rfl rfl ?_
  refine wv_iload hC 0 d_law_404 rfl ?_
  refine wv_iconst hC 2 (by decide) d_law_406 ?_
  refine wv_iadd hC d_law_407 ?_
  refine wv_sld hC h2 d_law_408 ?_
  refine wv_aload_n hC 1 d_law_409 rfl rfl ?_
  refine wv_callH hC (n := 4) (vs := [.ref 0, .int (xs (i + 1).toNatClampNeg), .int (xs (i + 2).toNatClampNeg), .ref 49]) (rest := []) hM wy_41 wy_1 wy_42 wy_43 (by decide +kernel) rfl ⟨(Nat.le_of_ble_eq_true rfl), (Nat.le_of_ble_eq_true rfl)⟩ rfl (Nat.le_of_ble_eq_true rfl) hf d_law_410 ?_
  refine wv_istore hC (lv2 := [(5, .int kr), (4, .int i), (3, .ref (E.1 49)), (2, .ref (E.1 30)), (1, .ref (E.1 0)), (0, .ref b)]) d_law_413 (by decide) rfl ?_
  refine wv_aload_n hC 3 d_law_415 rfl rfl ?_
  refine wv_aload_n hC 5 d_law_416 rfl rfl ?_
  refine wv_iload hC 1 d_law_417 rfl ?_
  refine wv_iconst hC 1 (by decide) d_law_419 ?_
  refine wv_iadd hC d_law_420 ?_
  refine wv_sld hC h1 d_law_421 ?_
  refine wv_aload_n hC 5 d_law_422 rfl rfl ?_
  refine wv_iload hC 1 d_law_423 rfl ?_
  refine wv_iconst hC 2 (by decide) d_law_425 ?_
  refine wv_iadd hC d_law_426 ?_
  refine wv_sld hC h2 d_law_427 ?_
  refine wv_callM hC (n := 2) (vs := [.int (xs (i + 1).toNatClampNeg), .int (xs (i + 2).toNatClampNeg)]) (rest := []) (st1 := [.int (f_M_part τ (xs (i + 1).toNatClampNeg) (xs (i + 2).toNatClampNeg)).1]) rfl rfl (c_M_part l E σ1 τ q1 (xs (i + 1).toNatClampNeg) (xs (i + 2).toNatClampNeg)) (by decide +kernel) wy_44 wy_5 wy_45 wy_46 ⟨rfl, rfl⟩ rfl rfl rfl wy_47 ⟨(Nat.le_of_ble_eq_true rfl), (Nat.le_of_ble_eq_true rfl)⟩ (Nat.le_of_ble_eq_true rfl) ⟨hf.1, hf.2⟩ d_law_428 ?_
  refine wv_istore hC (lv2 := [(6, .int (f_M_part τ (xs (i + 1).toNatClampNeg) (xs (i + 2).toNatClampNeg)).1), (5, .int kr), (4, .int i), (3, .ref (E.1 49)), (2, .ref (E.1 30)), (1, .ref (E.1 0)), (0, .ref b)]) d_law_431 (by decide) rfl ?_
  refine wv_aload_n hC 4 d_law_433 rfl rfl ?_
  refine wv_callM hC (n := 0) (vs := []) (rest := []) (st1 := [.int (f_M_thrown (f_M_part τ (xs (i + 1).toNatClampNeg) (xs (i + 2).toNatClampNeg)).2)]) rfl rfl (c_M_thrown l E _ _ _) (by decide +kernel) wy_9 wy_5 wy_10 wy_11 ⟨rfl, rfl⟩ rfl rfl rfl wy_12 ⟨(Nat.le_of_ble_eq_true rfl), (Nat.le_of_ble_eq_true rfl)⟩ (Nat.le_of_ble_eq_true rfl) ⟨hf.1, hf.2⟩ d_law_434 ?_
  refine wv_iload hC 1 d_law_437 rfl ?_
  refine wv_eqT hC 444 d_law_439 (by decide) ht ?_
  refine wv_iload hC 1 d_law_444 rfl ?_
  by_cases hk0 : kr = 0
  · refine wv_neF hC 461 d_law_446 (by decide) hk0 ?_
    refine wv_aload_n hC 3 d_law_449 rfl rfl ?_
    refine wv_iconst hC 0 (by decide) d_law_450 ?_
    refine wv_out hC d_law_451 ?_
    refine wv_iload hC 0 d_law_452 rfl ?_
    refine wv_i2l hC d_law_454 ?_
    refine wv_leq hC 461 d_law_455 d_law_456 (by decide) (ha hk0) ?_
    refine wv_goto hC 464 d_law_461 (by decide) ?_
    refine wv_lv [2, 3, 4, 5, 6] [(4, .int i), (3, .ref (E.1 49)), (2, .ref (E.1 30)), (1, .ref (E.1 0)), (0, .ref b)] rfl ?_
    exact k
  · refine wv_neT hC 461 d_law_446 (by decide) hk0 ?_
    refine wv_goto hC 464 d_law_461 (by decide) ?_
    refine wv_lv [2, 3, 4, 5, 6] [(4, .int i), (3, .ref (E.1 49)), (2, .ref (E.1 30)), (1, .ref (E.1 0)), (0, .ref b)] rfl ?_
    exact k
end L2
