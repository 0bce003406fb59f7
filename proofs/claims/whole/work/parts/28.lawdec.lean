theorem d_law_0 : decode code 0 = .ok (.new 8, 3) := by decide +kernel
theorem d_law_3 : decode code 3 = .ok (.dup, 1) := by decide +kernel
theorem d_law_4 : decode code 4 = .ok (.invokespecial 92, 3) := by decide +kernel
theorem d_law_7 : decode code 7 = .ok (.astore_n 1, 1) := by decide +kernel
theorem d_law_8 : decode code 8 = .ok (.new 93, 3) := by decide +kernel
theorem d_law_11 : decode code 11 = .ok (.dup, 1) := by decide +kernel
theorem d_law_12 : decode code 12 = .ok (.invokespecial 95, 3) := by decide +kernel
theorem d_law_15 : decode code 15 = .ok (.astore_n 2, 1) := by decide +kernel
theorem d_law_16 : decode code 16 = .ok (.iconst 1, 1) := by decide +kernel
theorem d_law_17 : decode code 17 = .ok (.newarray .long, 2) := by decide +kernel
theorem d_law_19 : decode code 19 = .ok (.astore_n 3, 1) := by decide +kernel
theorem d_law_20 : decode code 20 = .ok (.iconst 1, 1) := by decide +kernel
theorem d_law_21 : decode code 21 = .ok (.newarray .double, 2) := by decide +kernel
theorem d_law_23 : decode code 23 = .ok (.astore 4, 2) := by decide +kernel
theorem d_law_25 : decode code 25 = .ok (.iconst 0, 1) := by decide +kernel
theorem d_law_26 : decode code 26 = .ok (.istore 5, 2) := by decide +kernel
theorem d_law_28 : decode code 28 = .ok (.iload 5, 2) := by decide +kernel
theorem d_law_30 : decode code 30 = .ok (.aload_n 0, 1) := by decide +kernel
theorem d_law_31 : decode code 31 = .ok (.arraylength, 1) := by decide +kernel
theorem d_law_32 : decode code 32 = .ok (.bipush 6, 2) := by decide +kernel
theorem d_law_34 : decode code 34 = .ok (.isub, 1) := by decide +kernel
theorem d_law_35 : decode code 35 = .ok (.if_icmp .gt 1527, 3) := by decide +kernel
theorem d_law_38 : decode code 38 = .ok (.aload_n 0, 1) := by decide +kernel
theorem d_law_39 : decode code 39 = .ok (.iload 5, 2) := by decide +kernel
theorem d_law_41 : decode code 41 = .ok (.iaload, 1) := by decide +kernel
theorem d_law_42 : decode code 42 = .ok (.bipush 31, 2) := by decide +kernel
theorem d_law_44 : decode code 44 = .ok (.iand, 1) := by decide +kernel
theorem d_law_45 : decode code 45 = .ok (.tableswitch 1511 0 21 #[103, 207, 263, 331, 411, 455, 468, 504, 560, 644, 724, 792, 852, 908, 964, 1020, 1076, 1155, 1223, 1301, 1379, 1456], 103) := by decide +kernel
theorem d_law_148 : decode code 148 = .ok (.aload_n 1, 1) := by decide +kernel
theorem d_law_149 : decode code 149 = .ok (.aload_n 0, 1) := by decide +kernel
theorem d_law_150 : decode code 150 = .ok (.iload 5, 2) := by decide +kernel
theorem d_law_152 : decode code 152 = .ok (.iconst 1, 1) := by decide +kernel
theorem d_law_153 : decode code 153 = .ok (.iadd, 1) := by decide +kernel
theorem d_law_154 : decode code 154 = .ok (.iaload, 1) := by decide +kernel
theorem d_law_155 : decode code 155 = .ok (.aload_n 0, 1) := by decide +kernel
theorem d_law_156 : decode code 156 = .ok (.iload 5, 2) := by decide +kernel
theorem d_law_158 : decode code 158 = .ok (.iconst 2, 1) := by decide +kernel
theorem d_law_159 : decode code 159 = .ok (.iadd, 1) := by decide +kernel
theorem d_law_160 : decode code 160 = .ok (.iaload, 1) := by decide +kernel
theorem d_law_161 : decode code 161 = .ok (.aload_n 0, 1) := by decide +kernel
theorem d_law_162 : decode code 162 = .ok (.iload 5, 2) := by decide +kernel
theorem d_law_164 : decode code 164 = .ok (.iconst 3, 1) := by decide +kernel
theorem d_law_165 : decode code 165 = .ok (.iadd, 1) := by decide +kernel
theorem d_law_166 : decode code 166 = .ok (.iaload, 1) := by decide +kernel
theorem d_law_167 : decode code 167 = .ok (.aload_n 0, 1) := by decide +kernel
theorem d_law_168 : decode code 168 = .ok (.iload 5, 2) := by decide +kernel
theorem d_law_170 : decode code 170 = .ok (.iconst 4, 1) := by decide +kernel
theorem d_law_171 : decode code 171 = .ok (.iadd, 1) := by decide +kernel
theorem d_law_172 : decode code 172 = .ok (.iaload, 1) := by decide +kernel
theorem d_law_173 : decode code 173 = .ok (.aload_n 0, 1) := by decide +kernel
theorem d_law_174 : decode code 174 = .ok (.iload 5, 2) := by decide +kernel
theorem d_law_176 : decode code 176 = .ok (.iconst 5, 1) := by decide +kernel
theorem d_law_177 : decode code 177 = .ok (.iadd, 1) := by decide +kernel
theorem d_law_178 : decode code 178 = .ok (.iaload, 1) := by decide +kernel
theorem d_law_179 : decode code 179 = .ok (.aload_n 3, 1) := by decide +kernel
theorem d_law_180 : decode code 180 = .ok (.invokestatic 96, 3) := by decide +kernel
theorem d_law_183 : decode code 183 = .ok (.istore 6, 2) := by decide +kernel
theorem d_law_185 : decode code 185 = .ok (.aload_n 2, 1) := by decide +kernel
theorem d_law_186 : decode code 186 = .ok (.aload_n 0, 1) := by decide +kernel
theorem d_law_187 : decode code 187 = .ok (.iload 5, 2) := by decide +kernel
theorem d_law_189 : decode code 189 = .ok (.iconst 1, 1) := by decide +kernel
theorem d_law_190 : decode code 190 = .ok (.iadd, 1) := by decide +kernel
theorem d_law_191 : decode code 191 = .ok (.iaload, 1) := by decide +kernel
theorem d_law_192 : decode code 192 = .ok (.aload_n 0, 1) := by decide +kernel
theorem d_law_193 : decode code 193 = .ok (.iload 5, 2) := by decide +kernel
theorem d_law_195 : decode code 195 = .ok (.iconst 2, 1) := by decide +kernel
theorem d_law_196 : decode code 196 = .ok (.iadd, 1) := by decide +kernel
theorem d_law_197 : decode code 197 = .ok (.iaload, 1) := by decide +kernel
theorem d_law_198 : decode code 198 = .ok (.aload_n 0, 1) := by decide +kernel
theorem d_law_199 : decode code 199 = .ok (.iload 5, 2) := by decide +kernel
theorem d_law_201 : decode code 201 = .ok (.iconst 3, 1) := by decide +kernel
theorem d_law_202 : decode code 202 = .ok (.iadd, 1) := by decide +kernel
theorem d_law_203 : decode code 203 = .ok (.iaload, 1) := by decide +kernel
theorem d_law_204 : decode code 204 = .ok (.aload_n 0, 1) := by decide +kernel
theorem d_law_205 : decode code 205 = .ok (.iload 5, 2) := by decide +kernel
theorem d_law_207 : decode code 207 = .ok (.iconst 4, 1) := by decide +kernel
theorem d_law_208 : decode code 208 = .ok (.iadd, 1) := by decide +kernel
theorem d_law_209 : decode code 209 = .ok (.iaload, 1) := by decide +kernel
theorem d_law_210 : decode code 210 = .ok (.aload_n 0, 1) := by decide +kernel
theorem d_law_211 : decode code 211 = .ok (.iload 5, 2) := by decide +kernel
theorem d_law_213 : decode code 213 = .ok (.iconst 5, 1) := by decide +kernel
theorem d_law_214 : decode code 214 = .ok (.iadd, 1) := by decide +kernel
theorem d_law_215 : decode code 215 = .ok (.iaload, 1) := by decide +kernel
theorem d_law_216 : decode code 216 = .ok (.invokevirtual 101, 3) := by decide +kernel
theorem d_law_219 : decode code 219 = .ok (.istore 7, 2) := by decide +kernel
theorem d_law_221 : decode code 221 = .ok (.aload_n 2, 1) := by decide +kernel
theorem d_law_222 : decode code 222 = .ok (.invokevirtual 102, 3) := by decide +kernel
theorem d_law_225 : decode code 225 = .ok (.iload 6, 2) := by decide +kernel
theorem d_law_227 : decode code 227 = .ok (.if_icmp .eq 5, 3) := by decide +kernel
theorem d_law_230 : decode code 230 = .ok (.iconst 0, 1) := by decide +kernel
theorem d_law_231 : decode code 231 = .ok (.ireturn, 1) := by decide +kernel
theorem d_law_232 : decode code 232 = .ok (.iload 6, 2) := by decide +kernel
theorem d_law_234 : decode code 234 = .ok (.ifCond .ne 15, 3) := by decide +kernel
theorem d_law_237 : decode code 237 = .ok (.aload_n 3, 1) := by decide +kernel
theorem d_law_238 : decode code 238 = .ok (.iconst 0, 1) := by decide +kernel
theorem d_law_239 : decode code 239 = .ok (.laload, 1) := by decide +kernel
theorem d_law_240 : decode code 240 = .ok (.iload 7, 2) := by decide +kernel
theorem d_law_242 : decode code 242 = .ok (.i2l, 1) := by decide +kernel
theorem d_law_243 : decode code 243 = .ok (.lcmp, 1) := by decide +kernel
theorem d_law_244 : decode code 244 = .ok (.ifCond .eq 5, 3) := by decide +kernel
theorem d_law_247 : decode code 247 = .ok (.iconst 0, 1) := by decide +kernel
theorem d_law_248 : decode code 248 = .ok (.ireturn, 1) := by decide +kernel
theorem d_law_249 : decode code 249 = .ok (.goto 1307, 3) := by decide +kernel
theorem d_law_252 : decode code 252 = .ok (.aload_n 1, 1) := by decide +kernel
theorem d_law_253 : decode code 253 = .ok (.aload_n 0, 1) := by decide +kernel
theorem d_law_254 : decode code 254 = .ok (.iload 5, 2) := by decide +kernel
theorem d_law_256 : decode code 256 = .ok (.iconst 1, 1) := by decide +kernel
theorem d_law_257 : decode code 257 = .ok (.iadd, 1) := by decide +kernel
theorem d_law_258 : decode code 258 = .ok (.iaload, 1) := by decide +kernel
theorem d_law_259 : decode code 259 = .ok (.aload_n 3, 1) := by decide +kernel
theorem d_law_260 : decode code 260 = .ok (.invokestatic 105, 3) := by decide +kernel
theorem d_law_263 : decode code 263 = .ok (.istore 6, 2) := by decide +kernel
theorem d_law_265 : decode code 265 = .ok (.aload_n 2, 1) := by decide +kernel
theorem d_law_266 : decode code 266 = .ok (.aload_n 0, 1) := by decide +kernel
theorem d_law_267 : decode code 267 = .ok (.iload 5, 2) := by decide +kernel
theorem d_law_269 : decode code 269 = .ok (.iconst 1, 1) := by decide +kernel
theorem d_law_270 : decode code 270 = .ok (.iadd, 1) := by decide +kernel
theorem d_law_271 : decode code 271 = .ok (.iaload, 1) := by decide +kernel
theorem d_law_272 : decode code 272 = .ok (.invokevirtual 108, 3) := by decide +kernel
theorem d_law_275 : decode code 275 = .ok (.istore 7, 2) := by decide +kernel
theorem d_law_277 : decode code 277 = .ok (.aload_n 2, 1) := by decide +kernel
theorem d_law_278 : decode code 278 = .ok (.invokevirtual 102, 3) := by decide +kernel
theorem d_law_281 : decode code 281 = .ok (.iload 6, 2) := by decide +kernel
theorem d_law_283 : decode code 283 = .ok (.if_icmp .eq 5, 3) := by decide +kernel
theorem d_law_286 : decode code 286 = .ok (.iconst 0, 1) := by decide +kernel
theorem d_law_287 : decode code 287 = .ok (.ireturn, 1) := by decide +kernel
theorem d_law_288 : decode code 288 = .ok (.iload 6, 2) := by decide +kernel
theorem d_law_290 : decode code 290 = .ok (.ifCond .ne 15, 3) := by decide +kernel
theorem d_law_293 : decode code 293 = .ok (.aload_n 3, 1) := by decide +kernel
theorem d_law_294 : decode code 294 = .ok (.iconst 0, 1) := by decide +kernel
theorem d_law_295 : decode code 295 = .ok (.laload, 1) := by decide +kernel
theorem d_law_296 : decode code 296 = .ok (.iload 7, 2) := by decide +kernel
theorem d_law_298 : decode code 298 = .ok (.i2l, 1) := by decide +kernel
theorem d_law_299 : decode code 299 = .ok (.lcmp, 1) := by decide +kernel
theorem d_law_300 : decode code 300 = .ok (.ifCond .eq 5, 3) := by decide +kernel
theorem d_law_303 : decode code 303 = .ok (.iconst 0, 1) := by decide +kernel
theorem d_law_304 : decode code 304 = .ok (.ireturn, 1) := by decide +kernel
theorem d_law_305 : decode code 305 = .ok (.goto 1251, 3) := by decide +kernel
theorem d_law_308 : decode code 308 = .ok (.aload_n 1, 1) := by decide +kernel
theorem d_law_309 : decode code 309 = .ok (.aload_n 0, 1) := by decide +kernel
theorem d_law_310 : decode code 310 = .ok (.iload 5, 2) := by decide +kernel
theorem d_law_312 : decode code 312 = .ok (.iconst 1, 1) := by decide +kernel
theorem d_law_313 : decode code 313 = .ok (.iadd, 1) := by decide +kernel
theorem d_law_314 : decode code 314 = .ok (.iaload, 1) := by decide +kernel
theorem d_law_315 : decode code 315 = .ok (.aload_n 0, 1) := by decide +kernel
theorem d_law_316 : decode code 316 = .ok (.iload 5, 2) := by decide +kernel
theorem d_law_318 : decode code 318 = .ok (.iconst 2, 1) := by decide +kernel
theorem d_law_319 : decode code 319 = .ok (.iadd, 1) := by decide +kernel
theorem d_law_320 : decode code 320 = .ok (.iaload, 1) := by decide +kernel
theorem d_law_321 : decode code 321 = .ok (.aload_n 3, 1) := by decide +kernel
theorem d_law_322 : decode code 322 = .ok (.invokestatic 109, 3) := by decide +kernel
theorem d_law_325 : decode code 325 = .ok (.istore 6, 2) := by decide +kernel
theorem d_law_327 : decode code 327 = .ok (.aload_n 2, 1) := by decide +kernel
theorem d_law_328 : decode code 328 = .ok (.aload_n 0, 1) := by decide +kernel
theorem d_law_329 : decode code 329 = .ok (.iload 5, 2) := by decide +kernel
theorem d_law_331 : decode code 331 = .ok (.iconst 1, 1) := by decide +kernel
theorem d_law_332 : decode code 332 = .ok (.iadd, 1) := by decide +kernel
theorem d_law_333 : decode code 333 = .ok (.iaload, 1) := by decide +kernel
theorem d_law_334 : decode code 334 = .ok (.aload_n 0, 1) := by decide +kernel
theorem d_law_335 : decode code 335 = .ok (.iload 5, 2) := by decide +kernel
theorem d_law_337 : decode code 337 = .ok (.iconst 2, 1) := by decide +kernel
theorem d_law_338 : decode code 338 = .ok (.iadd, 1) := by decide +kernel
theorem d_law_339 : decode code 339 = .ok (.iaload, 1) := by decide +kernel
theorem d_law_340 : decode code 340 = .ok (.invokevirtual 112, 3) := by decide +kernel
theorem d_law_343 : decode code 343 = .ok (.istore 7, 2) := by decide +kernel
theorem d_law_345 : decode code 345 = .ok (.aload_n 2, 1) := by decide +kernel
theorem d_law_346 : decode code 346 = .ok (.invokevirtual 102, 3) := by decide +kernel
theorem d_law_349 : decode code 349 = .ok (.iload 6, 2) := by decide +kernel
theorem d_law_351 : decode code 351 = .ok (.if_icmp .eq 5, 3) := by decide +kernel
theorem d_law_354 : decode code 354 = .ok (.iconst 0, 1) := by decide +kernel
theorem d_law_355 : decode code 355 = .ok (.ireturn, 1) := by decide +kernel
theorem d_law_356 : decode code 356 = .ok (.iload 6, 2) := by decide +kernel
theorem d_law_358 : decode code 358 = .ok (.ifCond .ne 15, 3) := by decide +kernel
theorem d_law_361 : decode code 361 = .ok (.aload_n 3, 1) := by decide +kernel
theorem d_law_362 : decode code 362 = .ok (.iconst 0, 1) := by decide +kernel
theorem d_law_363 : decode code 363 = .ok (.laload, 1) := by decide +kernel
theorem d_law_364 : decode code 364 = .ok (.iload 7, 2) := by decide +kernel
theorem d_law_366 : decode code 366 = .ok (.i2l, 1) := by decide +kernel
theorem d_law_367 : decode code 367 = .ok (.lcmp, 1) := by decide +kernel
theorem d_law_368 : decode code 368 = .ok (.ifCond .eq 5, 3) := by decide +kernel
theorem d_law_371 : decode code 371 = .ok (.iconst 0, 1) := by decide +kernel
theorem d_law_372 : decode code 372 = .ok (.ireturn, 1) := by decide +kernel
theorem d_law_373 : decode code 373 = .ok (.goto 1183, 3) := by decide +kernel
theorem d_law_376 : decode code 376 = .ok (.aload_n 1, 1) := by decide +kernel
theorem d_law_377 : decode code 377 = .ok (.aload_n 0, 1) := by decide +kernel
theorem d_law_378 : decode code 378 = .ok (.iload 5, 2) := by decide +kernel
theorem d_law_380 : decode code 380 = .ok (.iconst 1, 1) := by decide +kernel
theorem d_law_381 : decode code 381 = .ok (.iadd, 1) := by decide +kernel
theorem d_law_382 : decode code 382 = .ok (.iaload, 1) := by decide +kernel
theorem d_law_383 : decode code 383 = .ok (.aload_n 0, 1) := by decide +kernel
theorem d_law_384 : decode code 384 = .ok (.iload 5, 2) := by decide +kernel
theorem d_law_386 : decode code 386 = .ok (.iconst 2, 1) := by decide +kernel
theorem d_law_387 : decode code 387 = .ok (.iadd, 1) := by decide +kernel
theorem d_law_388 : decode code 388 = .ok (.iaload, 1) := by decide +kernel
theorem d_law_389 : decode code 389 = .ok (.aload_n 0, 1) := by decide +kernel
theorem d_law_390 : decode code 390 = .ok (.iload 5, 2) := by decide +kernel
theorem d_law_392 : decode code 392 = .ok (.iconst 3, 1) := by decide +kernel
theorem d_law_393 : decode code 393 = .ok (.iadd, 1) := by decide +kernel
theorem d_law_394 : decode code 394 = .ok (.iaload, 1) := by decide +kernel
theorem d_law_395 : decode code 395 = .ok (.aload_n 3, 1) := by decide +kernel
theorem d_law_396 : decode code 396 = .ok (.invokestatic 113, 3) := by decide +kernel
theorem d_law_399 : decode code 399 = .ok (.istore 6, 2) := by decide +kernel
theorem d_law_401 : decode code 401 = .ok (.aload_n 2, 1) := by decide +kernel
theorem d_law_402 : decode code 402 = .ok (.aload_n 0, 1) := by decide +kernel
theorem d_law_403 : decode code 403 = .ok (.iload 5, 2) := by decide +kernel
theorem d_law_405 : decode code 405 = .ok (.iconst 1, 1) := by decide +kernel
theorem d_law_406 : decode code 406 = .ok (.iadd, 1) := by decide +kernel
theorem d_law_407 : decode code 407 = .ok (.iaload, 1) := by decide +kernel
theorem d_law_408 : decode code 408 = .ok (.aload_n 0, 1) := by decide +kernel
theorem d_law_409 : decode code 409 = .ok (.iload 5, 2) := by decide +kernel
theorem d_law_411 : decode code 411 = .ok (.iconst 2, 1) := by decide +kernel
theorem d_law_412 : decode code 412 = .ok (.iadd, 1) := by decide +kernel
theorem d_law_413 : decode code 413 = .ok (.iaload, 1) := by decide +kernel
theorem d_law_414 : decode code 414 = .ok (.aload_n 0, 1) := by decide +kernel
theorem d_law_415 : decode code 415 = .ok (.iload 5, 2) := by decide +kernel
theorem d_law_417 : decode code 417 = .ok (.iconst 3, 1) := by decide +kernel
theorem d_law_418 : decode code 418 = .ok (.iadd, 1) := by decide +kernel
theorem d_law_419 : decode code 419 = .ok (.iaload, 1) := by decide +kernel
theorem d_law_420 : decode code 420 = .ok (.invokevirtual 116, 3) := by decide +kernel
theorem d_law_423 : decode code 423 = .ok (.istore 7, 2) := by decide +kernel
theorem d_law_425 : decode code 425 = .ok (.aload_n 2, 1) := by decide +kernel
theorem d_law_426 : decode code 426 = .ok (.invokevirtual 102, 3) := by decide +kernel
theorem d_law_429 : decode code 429 = .ok (.iload 6, 2) := by decide +kernel
theorem d_law_431 : decode code 431 = .ok (.if_icmp .eq 5, 3) := by decide +kernel
theorem d_law_434 : decode code 434 = .ok (.iconst 0, 1) := by decide +kernel
theorem d_law_435 : decode code 435 = .ok (.ireturn, 1) := by decide +kernel
theorem d_law_436 : decode code 436 = .ok (.iload 6, 2) := by decide +kernel
theorem d_law_438 : decode code 438 = .ok (.ifCond .ne 15, 3) := by decide +kernel
theorem d_law_441 : decode code 441 = .ok (.aload_n 3, 1) := by decide +kernel
theorem d_law_442 : decode code 442 = .ok (.iconst 0, 1) := by decide +kernel
theorem d_law_443 : decode code 443 = .ok (.laload, 1) := by decide +kernel
theorem d_law_444 : decode code 444 = .ok (.iload 7, 2) := by decide +kernel
theorem d_law_446 : decode code 446 = .ok (.i2l, 1) := by decide +kernel
theorem d_law_447 : decode code 447 = .ok (.lcmp, 1) := by decide +kernel
theorem d_law_448 : decode code 448 = .ok (.ifCond .eq 5, 3) := by decide +kernel
theorem d_law_451 : decode code 451 = .ok (.iconst 0, 1) := by decide +kernel
theorem d_law_452 : decode code 452 = .ok (.ireturn, 1) := by decide +kernel
theorem d_law_453 : decode code 453 = .ok (.goto 1103, 3) := by decide +kernel
theorem d_law_456 : decode code 456 = .ok (.aload_n 1, 1) := by decide +kernel
theorem d_law_457 : decode code 457 = .ok (.aload_n 3, 1) := by decide +kernel
theorem d_law_458 : decode code 458 = .ok (.invokestatic 117, 3) := by decide +kernel
theorem d_law_461 : decode code 461 = .ok (.istore 6, 2) := by decide +kernel
theorem d_law_463 : decode code 463 = .ok (.aload_n 2, 1) := by decide +kernel
theorem d_law_464 : decode code 464 = .ok (.invokevirtual 120, 3) := by decide +kernel
theorem d_law_467 : decode code 467 = .ok (.istore 7, 2) := by decide +kernel
theorem d_law_469 : decode code 469 = .ok (.aload_n 2, 1) := by decide +kernel
theorem d_law_470 : decode code 470 = .ok (.invokevirtual 102, 3) := by decide +kernel
theorem d_law_473 : decode code 473 = .ok (.iload 6, 2) := by decide +kernel
theorem d_law_475 : decode code 475 = .ok (.if_icmp .eq 5, 3) := by decide +kernel
theorem d_law_478 : decode code 478 = .ok (.iconst 0, 1) := by decide +kernel
theorem d_law_479 : decode code 479 = .ok (.ireturn, 1) := by decide +kernel
theorem d_law_480 : decode code 480 = .ok (.iload 6, 2) := by decide +kernel
theorem d_law_482 : decode code 482 = .ok (.ifCond .ne 15, 3) := by decide +kernel
theorem d_law_485 : decode code 485 = .ok (.aload_n 3, 1) := by decide +kernel
theorem d_law_486 : decode code 486 = .ok (.iconst 0, 1) := by decide +kernel
theorem d_law_487 : decode code 487 = .ok (.laload, 1) := by decide +kernel
theorem d_law_488 : decode code 488 = .ok (.iload 7, 2) := by decide +kernel
theorem d_law_490 : decode code 490 = .ok (.i2l, 1) := by decide +kernel
theorem d_law_491 : decode code 491 = .ok (.lcmp, 1) := by decide +kernel
theorem d_law_492 : decode code 492 = .ok (.ifCond .eq 5, 3) := by decide +kernel
theorem d_law_495 : decode code 495 = .ok (.iconst 0, 1) := by decide +kernel
theorem d_law_496 : decode code 496 = .ok (.ireturn, 1) := by decide +kernel
theorem d_law_497 : decode code 497 = .ok (.goto 1059, 3) := by decide +kernel
theorem d_law_500 : decode code 500 = .ok (.aload_n 1, 1) := by decide +kernel
theorem d_law_501 : decode code 501 = .ok (.invokevirtual 121, 3) := by decide +kernel
theorem d_law_504 : decode code 504 = .ok (.aload_n 2, 1) := by decide +kernel
theorem d_law_505 : decode code 505 = .ok (.invokevirtual 124, 3) := by decide +kernel
theorem d_law_508 : decode code 508 = .ok (.if_icmp .eq 1048, 3) := by decide +kernel
theorem d_law_511 : decode code 511 = .ok (.iconst 0, 1) := by decide +kernel
theorem d_law_512 : decode code 512 = .ok (.ireturn, 1) := by decide +kernel
theorem d_law_513 : decode code 513 = .ok (.aload_n 1, 1) := by decide +kernel
theorem d_law_514 : decode code 514 = .ok (.aload_n 0, 1) := by decide +kernel
theorem d_law_515 : decode code 515 = .ok (.iload 5, 2) := by decide +kernel
theorem d_law_517 : decode code 517 = .ok (.iconst 1, 1) := by decide +kernel
theorem d_law_518 : decode code 518 = .ok (.iadd, 1) := by decide +kernel
theorem d_law_519 : decode code 519 = .ok (.iaload, 1) := by decide +kernel
theorem d_law_520 : decode code 520 = .ok (.invokestatic 125, 3) := by decide +kernel
theorem d_law_523 : decode code 523 = .ok (.istore 6, 2) := by decide +kernel
theorem d_law_525 : decode code 525 = .ok (.aload_n 2, 1) := by decide +kernel
theorem d_law_526 : decode code 526 = .ok (.aload_n 0, 1) := by decide +kernel
theorem d_law_527 : decode code 527 = .ok (.iload 5, 2) := by decide +kernel
theorem d_law_529 : decode code 529 = .ok (.iconst 1, 1) := by decide +kernel
theorem d_law_530 : decode code 530 = .ok (.iadd, 1) := by decide +kernel
theorem d_law_531 : decode code 531 = .ok (.iaload, 1) := by decide +kernel
theorem d_law_532 : decode code 532 = .ok (.invokevirtual 128, 3) := by decide +kernel
theorem d_law_535 : decode code 535 = .ok (.aload_n 2, 1) := by decide +kernel
theorem d_law_536 : decode code 536 = .ok (.invokevirtual 102, 3) := by decide +kernel
theorem d_law_539 : decode code 539 = .ok (.iload 6, 2) := by decide +kernel
theorem d_law_541 : decode code 541 = .ok (.if_icmp .eq 5, 3) := by decide +kernel
theorem d_law_544 : decode code 544 = .ok (.iconst 0, 1) := by decide +kernel
theorem d_law_545 : decode code 545 = .ok (.ireturn, 1) := by decide +kernel
theorem d_law_546 : decode code 546 = .ok (.goto 1010, 3) := by decide +kernel
theorem d_law_549 : decode code 549 = .ok (.aload_n 1, 1) := by decide +kernel
theorem d_law_550 : decode code 550 = .ok (.aload_n 0, 1) := by decide +kernel
theorem d_law_551 : decode code 551 = .ok (.iload 5, 2) := by decide +kernel
theorem d_law_553 : decode code 553 = .ok (.iconst 1, 1) := by decide +kernel
theorem d_law_554 : decode code 554 = .ok (.iadd, 1) := by decide +kernel
theorem d_law_555 : decode code 555 = .ok (.iaload, 1) := by decide +kernel
theorem d_law_556 : decode code 556 = .ok (.aload_n 3, 1) := by decide +kernel
theorem d_law_557 : decode code 557 = .ok (.invokestatic 129, 3) := by decide +kernel
theorem d_law_560 : decode code 560 = .ok (.istore 6, 2) := by decide +kernel
theorem d_law_562 : decode code 562 = .ok (.aload_n 2, 1) := by decide +kernel
theorem d_law_563 : decode code 563 = .ok (.aload_n 0, 1) := by decide +kernel
theorem d_law_564 : decode code 564 = .ok (.iload 5, 2) := by decide +kernel
theorem d_law_566 : decode code 566 = .ok (.iconst 1, 1) := by decide +kernel
theorem d_law_567 : decode code 567 = .ok (.iadd, 1) := by decide +kernel
theorem d_law_568 : decode code 568 = .ok (.iaload, 1) := by decide +kernel
theorem d_law_569 : decode code 569 = .ok (.invokevirtual 131, 3) := by decide +kernel
theorem d_law_572 : decode code 572 = .ok (.istore 7, 2) := by decide +kernel
theorem d_law_574 : decode code 574 = .ok (.aload_n 2, 1) := by decide +kernel
theorem d_law_575 : decode code 575 = .ok (.invokevirtual 102, 3) := by decide +kernel
theorem d_law_578 : decode code 578 = .ok (.iload 6, 2) := by decide +kernel
theorem d_law_580 : decode code 580 = .ok (.if_icmp .eq 5, 3) := by decide +kernel
theorem d_law_583 : decode code 583 = .ok (.iconst 0, 1) := by decide +kernel
theorem d_law_584 : decode code 584 = .ok (.ireturn, 1) := by decide +kernel
theorem d_law_585 : decode code 585 = .ok (.iload 6, 2) := by decide +kernel
theorem d_law_587 : decode code 587 = .ok (.ifCond .ne 15, 3) := by decide +kernel
theorem d_law_590 : decode code 590 = .ok (.aload_n 3, 1) := by decide +kernel
theorem d_law_591 : decode code 591 = .ok (.iconst 0, 1) := by decide +kernel
theorem d_law_592 : decode code 592 = .ok (.laload, 1) := by decide +kernel
theorem d_law_593 : decode code 593 = .ok (.iload 7, 2) := by decide +kernel
theorem d_law_595 : decode code 595 = .ok (.i2l, 1) := by decide +kernel
theorem d_law_596 : decode code 596 = .ok (.lcmp, 1) := by decide +kernel
theorem d_law_597 : decode code 597 = .ok (.ifCond .eq 5, 3) := by decide +kernel
theorem d_law_600 : decode code 600 = .ok (.iconst 0, 1) := by decide +kernel
theorem d_law_601 : decode code 601 = .ok (.ireturn, 1) := by decide +kernel
theorem d_law_602 : decode code 602 = .ok (.goto 954, 3) := by decide +kernel
theorem d_law_605 : decode code 605 = .ok (.aload_n 1, 1) := by decide +kernel
theorem d_law_606 : decode code 606 = .ok (.aload_n 0, 1) := by decide +kernel
theorem d_law_607 : decode code 607 = .ok (.iload 5, 2) := by decide +kernel
theorem d_law_609 : decode code 609 = .ok (.iconst 1, 1) := by decide +kernel
theorem d_law_610 : decode code 610 = .ok (.iadd, 1) := by decide +kernel
theorem d_law_611 : decode code 611 = .ok (.iaload, 1) := by decide +kernel
theorem d_law_612 : decode code 612 = .ok (.aload_n 0, 1) := by decide +kernel
theorem d_law_613 : decode code 613 = .ok (.iload 5, 2) := by decide +kernel
theorem d_law_615 : decode code 615 = .ok (.iconst 2, 1) := by decide +kernel
theorem d_law_616 : decode code 616 = .ok (.iadd, 1) := by decide +kernel
theorem d_law_617 : decode code 617 = .ok (.iaload, 1) := by decide +kernel
theorem d_law_618 : decode code 618 = .ok (.ifCond .eq 7, 3) := by decide +kernel
theorem d_law_621 : decode code 621 = .ok (.iconst 1, 1) := by decide +kernel
theorem d_law_622 : decode code 622 = .ok (.goto 4, 3) := by decide +kernel
theorem d_law_625 : decode code 625 = .ok (.iconst 0, 1) := by decide +kernel
theorem d_law_626 : decode code 626 = .ok (.aload_n 3, 1) := by decide +kernel
theorem d_law_627 : decode code 627 = .ok (.invokestatic 132, 3) := by decide +kernel
theorem d_law_630 : decode code 630 = .ok (.istore 6, 2) := by decide +kernel
theorem d_law_632 : decode code 632 = .ok (.aload_n 2, 1) := by decide +kernel
theorem d_law_633 : decode code 633 = .ok (.aload_n 0, 1) := by decide +kernel
theorem d_law_634 : decode code 634 = .ok (.iload 5, 2) := by decide +kernel
theorem d_law_636 : decode code 636 = .ok (.iconst 1, 1) := by decide +kernel
theorem d_law_637 : decode code 637 = .ok (.iadd, 1) := by decide +kernel
theorem d_law_638 : decode code 638 = .ok (.iaload, 1) := by decide +kernel
theorem d_law_639 : decode code 639 = .ok (.aload_n 0, 1) := by decide +kernel
theorem d_law_640 : decode code 640 = .ok (.iload 5, 2) := by decide +kernel
theorem d_law_642 : decode code 642 = .ok (.iconst 2, 1) := by decide +kernel
theorem d_law_643 : decode code 643 = .ok (.iadd, 1) := by decide +kernel
theorem d_law_644 : decode code 644 = .ok (.iaload, 1) := by decide +kernel
theorem d_law_645 : decode code 645 = .ok (.ifCond .eq 7, 3) := by decide +kernel
theorem d_law_648 : decode code 648 = .ok (.iconst 1, 1) := by decide +kernel
theorem d_law_649 : decode code 649 = .ok (.goto 4, 3) := by decide +kernel
theorem d_law_652 : decode code 652 = .ok (.iconst 0, 1) := by decide +kernel
theorem d_law_653 : decode code 653 = .ok (.invokevirtual 135, 3) := by decide +kernel
theorem d_law_656 : decode code 656 = .ok (.istore 7, 2) := by decide +kernel
theorem d_law_658 : decode code 658 = .ok (.aload_n 2, 1) := by decide +kernel
theorem d_law_659 : decode code 659 = .ok (.invokevirtual 102, 3) := by decide +kernel
theorem d_law_662 : decode code 662 = .ok (.iload 6, 2) := by decide +kernel
theorem d_law_664 : decode code 664 = .ok (.if_icmp .eq 5, 3) := by decide +kernel
theorem d_law_667 : decode code 667 = .ok (.iconst 0, 1) := by decide +kernel
theorem d_law_668 : decode code 668 = .ok (.ireturn, 1) := by decide +kernel
theorem d_law_669 : decode code 669 = .ok (.iload 6, 2) := by decide +kernel
theorem d_law_671 : decode code 671 = .ok (.ifCond .ne 15, 3) := by decide +kernel
theorem d_law_674 : decode code 674 = .ok (.aload_n 3, 1) := by decide +kernel
theorem d_law_675 : decode code 675 = .ok (.iconst 0, 1) := by decide +kernel
theorem d_law_676 : decode code 676 = .ok (.laload, 1) := by decide +kernel
theorem d_law_677 : decode code 677 = .ok (.iload 7, 2) := by decide +kernel
theorem d_law_679 : decode code 679 = .ok (.i2l, 1) := by decide +kernel
theorem d_law_680 : decode code 680 = .ok (.lcmp, 1) := by decide +kernel
theorem d_law_681 : decode code 681 = .ok (.ifCond .eq 5, 3) := by decide +kernel
theorem d_law_684 : decode code 684 = .ok (.iconst 0, 1) := by decide +kernel
theorem d_law_685 : decode code 685 = .ok (.ireturn, 1) := by decide +kernel
theorem d_law_686 : decode code 686 = .ok (.goto 870, 3) := by decide +kernel
theorem d_law_689 : decode code 689 = .ok (.aload_n 1, 1) := by decide +kernel
theorem d_law_690 : decode code 690 = .ok (.aload_n 0, 1) := by decide +kernel
theorem d_law_691 : decode code 691 = .ok (.iload 5, 2) := by decide +kernel
theorem d_law_693 : decode code 693 = .ok (.iconst 1, 1) := by decide +kernel
theorem d_law_694 : decode code 694 = .ok (.iadd, 1) := by decide +kernel
theorem d_law_695 : decode code 695 = .ok (.iaload, 1) := by decide +kernel
theorem d_law_696 : decode code 696 = .ok (.aload_n 0, 1) := by decide +kernel
theorem d_law_697 : decode code 697 = .ok (.iload 5, 2) := by decide +kernel
theorem d_law_699 : decode code 699 = .ok (.iconst 2, 1) := by decide +kernel
theorem d_law_700 : decode code 700 = .ok (.iadd, 1) := by decide +kernel
theorem d_law_701 : decode code 701 = .ok (.iaload, 1) := by decide +kernel
theorem d_law_702 : decode code 702 = .ok (.aload_n 0, 1) := by decide +kernel
theorem d_law_703 : decode code 703 = .ok (.iload 5, 2) := by decide +kernel
theorem d_law_705 : decode code 705 = .ok (.iconst 3, 1) := by decide +kernel
theorem d_law_706 : decode code 706 = .ok (.iadd, 1) := by decide +kernel
theorem d_law_707 : decode code 707 = .ok (.iaload, 1) := by decide +kernel
theorem d_law_708 : decode code 708 = .ok (.aload_n 3, 1) := by decide +kernel
theorem d_law_709 : decode code 709 = .ok (.invokestatic 136, 3) := by decide +kernel
theorem d_law_712 : decode code 712 = .ok (.istore 6, 2) := by decide +kernel
theorem d_law_714 : decode code 714 = .ok (.aload_n 2, 1) := by decide +kernel
theorem d_law_715 : decode code 715 = .ok (.aload_n 0, 1) := by decide +kernel
theorem d_law_716 : decode code 716 = .ok (.iload 5, 2) := by decide +kernel
theorem d_law_718 : decode code 718 = .ok (.iconst 1, 1) := by decide +kernel
theorem d_law_719 : decode code 719 = .ok (.iadd, 1) := by decide +kernel
theorem d_law_720 : decode code 720 = .ok (.iaload, 1) := by decide +kernel
theorem d_law_721 : decode code 721 = .ok (.aload_n 0, 1) := by decide +kernel
theorem d_law_722 : decode code 722 = .ok (.iload 5, 2) := by decide +kernel
theorem d_law_724 : decode code 724 = .ok (.iconst 2, 1) := by decide +kernel
theorem d_law_725 : decode code 725 = .ok (.iadd, 1) := by decide +kernel
theorem d_law_726 : decode code 726 = .ok (.iaload, 1) := by decide +kernel
theorem d_law_727 : decode code 727 = .ok (.aload_n 0, 1) := by decide +kernel
theorem d_law_728 : decode code 728 = .ok (.iload 5, 2) := by decide +kernel
theorem d_law_730 : decode code 730 = .ok (.iconst 3, 1) := by decide +kernel
theorem d_law_731 : decode code 731 = .ok (.iadd, 1) := by decide +kernel
theorem d_law_732 : decode code 732 = .ok (.iaload, 1) := by decide +kernel
theorem d_law_733 : decode code 733 = .ok (.invokevirtual 138, 3) := by decide +kernel
theorem d_law_736 : decode code 736 = .ok (.istore 7, 2) := by decide +kernel
theorem d_law_738 : decode code 738 = .ok (.aload_n 2, 1) := by decide +kernel
theorem d_law_739 : decode code 739 = .ok (.invokevirtual 102, 3) := by decide +kernel
theorem d_law_742 : decode code 742 = .ok (.iload 6, 2) := by decide +kernel
theorem d_law_744 : decode code 744 = .ok (.if_icmp .eq 5, 3) := by decide +kernel
theorem d_law_747 : decode code 747 = .ok (.iconst 0, 1) := by decide +kernel
theorem d_law_748 : decode code 748 = .ok (.ireturn, 1) := by decide +kernel
theorem d_law_749 : decode code 749 = .ok (.iload 6, 2) := by decide +kernel
theorem d_law_751 : decode code 751 = .ok (.ifCond .ne 15, 3) := by decide +kernel
theorem d_law_754 : decode code 754 = .ok (.aload_n 3, 1) := by decide +kernel
theorem d_law_755 : decode code 755 = .ok (.iconst 0, 1) := by decide +kernel
theorem d_law_756 : decode code 756 = .ok (.laload, 1) := by decide +kernel
theorem d_law_757 : decode code 757 = .ok (.iload 7, 2) := by decide +kernel
theorem d_law_759 : decode code 759 = .ok (.i2l, 1) := by decide +kernel
theorem d_law_760 : decode code 760 = .ok (.lcmp, 1) := by decide +kernel
theorem d_law_761 : decode code 761 = .ok (.ifCond .eq 5, 3) := by decide +kernel
theorem d_law_764 : decode code 764 = .ok (.iconst 0, 1) := by decide +kernel
theorem d_law_765 : decode code 765 = .ok (.ireturn, 1) := by decide +kernel
theorem d_law_766 : decode code 766 = .ok (.goto 790, 3) := by decide +kernel
theorem d_law_769 : decode code 769 = .ok (.aload_n 1, 1) := by decide +kernel
theorem d_law_770 : decode code 770 = .ok (.aload_n 0, 1) := by decide +kernel
theorem d_law_771 : decode code 771 = .ok (.iload 5, 2) := by decide +kernel
theorem d_law_773 : decode code 773 = .ok (.iconst 1, 1) := by decide +kernel
theorem d_law_774 : decode code 774 = .ok (.iadd, 1) := by decide +kernel
theorem d_law_775 : decode code 775 = .ok (.iaload, 1) := by decide +kernel
theorem d_law_776 : decode code 776 = .ok (.aload_n 0, 1) := by decide +kernel
theorem d_law_777 : decode code 777 = .ok (.iload 5, 2) := by decide +kernel
theorem d_law_779 : decode code 779 = .ok (.iconst 2, 1) := by decide +kernel
theorem d_law_780 : decode code 780 = .ok (.iadd, 1) := by decide +kernel
theorem d_law_781 : decode code 781 = .ok (.iaload, 1) := by decide +kernel
theorem d_law_782 : decode code 782 = .ok (.aload_n 3, 1) := by decide +kernel
theorem d_law_783 : decode code 783 = .ok (.invokestatic 139, 3) := by decide +kernel
theorem d_law_786 : decode code 786 = .ok (.istore 6, 2) := by decide +kernel
theorem d_law_788 : decode code 788 = .ok (.aload_n 2, 1) := by decide +kernel
theorem d_law_789 : decode code 789 = .ok (.aload_n 0, 1) := by decide +kernel
theorem d_law_790 : decode code 790 = .ok (.iload 5, 2) := by decide +kernel
theorem d_law_792 : decode code 792 = .ok (.iconst 1, 1) := by decide +kernel
theorem d_law_793 : decode code 793 = .ok (.iadd, 1) := by decide +kernel
theorem d_law_794 : decode code 794 = .ok (.iaload, 1) := by decide +kernel
theorem d_law_795 : decode code 795 = .ok (.aload_n 0, 1) := by decide +kernel
theorem d_law_796 : decode code 796 = .ok (.iload 5, 2) := by decide +kernel
theorem d_law_798 : decode code 798 = .ok (.iconst 2, 1) := by decide +kernel
theorem d_law_799 : decode code 799 = .ok (.iadd, 1) := by decide +kernel
theorem d_law_800 : decode code 800 = .ok (.iaload, 1) := by decide +kernel
theorem d_law_801 : decode code 801 = .ok (.invokevirtual 141, 3) := by decide +kernel
theorem d_law_804 : decode code 804 = .ok (.istore 7, 2) := by decide +kernel
theorem d_law_806 : decode code 806 = .ok (.aload_n 2, 1) := by decide +kernel
theorem d_law_807 : decode code 807 = .ok (.invokevirtual 102, 3) := by decide +kernel
theorem d_law_810 : decode code 810 = .ok (.iload 6, 2) := by decide +kernel
theorem d_law_812 : decode code 812 = .ok (.if_icmp .eq 5, 3) := by decide +kernel
theorem d_law_815 : decode code 815 = .ok (.iconst 0, 1) := by decide +kernel
theorem d_law_816 : decode code 816 = .ok (.ireturn, 1) := by decide +kernel
theorem d_law_817 : decode code 817 = .ok (.iload 6, 2) := by decide +kernel
theorem d_law_819 : decode code 819 = .ok (.ifCond .ne 15, 3) := by decide +kernel
theorem d_law_822 : decode code 822 = .ok (.aload_n 3, 1) := by decide +kernel
theorem d_law_823 : decode code 823 = .ok (.iconst 0, 1) := by decide +kernel
theorem d_law_824 : decode code 824 = .ok (.laload, 1) := by decide +kernel
theorem d_law_825 : decode code 825 = .ok (.iload 7, 2) := by decide +kernel
theorem d_law_827 : decode code 827 = .ok (.i2l, 1) := by decide +kernel
theorem d_law_828 : decode code 828 = .ok (.lcmp, 1) := by decide +kernel
theorem d_law_829 : decode code 829 = .ok (.ifCond .eq 5, 3) := by decide +kernel
theorem d_law_832 : decode code 832 = .ok (.iconst 0, 1) := by decide +kernel
theorem d_law_833 : decode code 833 = .ok (.ireturn, 1) := by decide +kernel
theorem d_law_834 : decode code 834 = .ok (.goto 722, 3) := by decide +kernel
theorem d_law_837 : decode code 837 = .ok (.aload_n 1, 1) := by decide +kernel
theorem d_law_838 : decode code 838 = .ok (.aload_n 0, 1) := by decide +kernel
theorem d_law_839 : decode code 839 = .ok (.iload 5, 2) := by decide +kernel
theorem d_law_841 : decode code 841 = .ok (.iconst 1, 1) := by decide +kernel
theorem d_law_842 : decode code 842 = .ok (.iadd, 1) := by decide +kernel
theorem d_law_843 : decode code 843 = .ok (.iaload, 1) := by decide +kernel
theorem d_law_844 : decode code 844 = .ok (.aload_n 0, 1) := by decide +kernel
theorem d_law_845 : decode code 845 = .ok (.iload 5, 2) := by decide +kernel
theorem d_law_847 : decode code 847 = .ok (.iconst 2, 1) := by decide +kernel
theorem d_law_848 : decode code 848 = .ok (.iadd, 1) := by decide +kernel
theorem d_law_849 : decode code 849 = .ok (.iaload, 1) := by decide +kernel
theorem d_law_850 : decode code 850 = .ok (.aload_n 0, 1) := by decide +kernel
theorem d_law_851 : decode code 851 = .ok (.iload 5, 2) := by decide +kernel
theorem d_law_853 : decode code 853 = .ok (.iconst 3, 1) := by decide +kernel
theorem d_law_854 : decode code 854 = .ok (.iadd, 1) := by decide +kernel
theorem d_law_855 : decode code 855 = .ok (.iaload, 1) := by decide +kernel
theorem d_law_856 : decode code 856 = .ok (.invokestatic 142, 3) := by decide +kernel
theorem d_law_859 : decode code 859 = .ok (.istore 6, 2) := by decide +kernel
theorem d_law_861 : decode code 861 = .ok (.aload_n 2, 1) := by decide +kernel
theorem d_law_862 : decode code 862 = .ok (.aload_n 0, 1) := by decide +kernel
theorem d_law_863 : decode code 863 = .ok (.iload 5, 2) := by decide +kernel
theorem d_law_865 : decode code 865 = .ok (.iconst 1, 1) := by decide +kernel
theorem d_law_866 : decode code 866 = .ok (.iadd, 1) := by decide +kernel
theorem d_law_867 : decode code 867 = .ok (.iaload, 1) := by decide +kernel
theorem d_law_868 : decode code 868 = .ok (.aload_n 0, 1) := by decide +kernel
theorem d_law_869 : decode code 869 = .ok (.iload 5, 2) := by decide +kernel
theorem d_law_871 : decode code 871 = .ok (.iconst 2, 1) := by decide +kernel
theorem d_law_872 : decode code 872 = .ok (.iadd, 1) := by decide +kernel
theorem d_law_873 : decode code 873 = .ok (.iaload, 1) := by decide +kernel
theorem d_law_874 : decode code 874 = .ok (.aload_n 0, 1) := by decide +kernel
theorem d_law_875 : decode code 875 = .ok (.iload 5, 2) := by decide +kernel
theorem d_law_877 : decode code 877 = .ok (.iconst 3, 1) := by decide +kernel
theorem d_law_878 : decode code 878 = .ok (.iadd, 1) := by decide +kernel
theorem d_law_879 : decode code 879 = .ok (.iaload, 1) := by decide +kernel
theorem d_law_880 : decode code 880 = .ok (.invokevirtual 145, 3) := by decide +kernel
theorem d_law_883 : decode code 883 = .ok (.aload_n 2, 1) := by decide +kernel
theorem d_law_884 : decode code 884 = .ok (.invokevirtual 102, 3) := by decide +kernel
theorem d_law_887 : decode code 887 = .ok (.iload 6, 2) := by decide +kernel
theorem d_law_889 : decode code 889 = .ok (.if_icmp .eq 5, 3) := by decide +kernel
theorem d_law_892 : decode code 892 = .ok (.iconst 0, 1) := by decide +kernel
theorem d_law_893 : decode code 893 = .ok (.ireturn, 1) := by decide +kernel
theorem d_law_894 : decode code 894 = .ok (.goto 662, 3) := by decide +kernel
theorem d_law_897 : decode code 897 = .ok (.aload_n 1, 1) := by decide +kernel
theorem d_law_898 : decode code 898 = .ok (.aload_n 0, 1) := by decide +kernel
theorem d_law_899 : decode code 899 = .ok (.iload 5, 2) := by decide +kernel
theorem d_law_901 : decode code 901 = .ok (.iconst 1, 1) := by decide +kernel
theorem d_law_902 : decode code 902 = .ok (.iadd, 1) := by decide +kernel
theorem d_law_903 : decode code 903 = .ok (.iaload, 1) := by decide +kernel
theorem d_law_904 : decode code 904 = .ok (.aload_n 3, 1) := by decide +kernel
theorem d_law_905 : decode code 905 = .ok (.invokestatic 146, 3) := by decide +kernel
theorem d_law_908 : decode code 908 = .ok (.istore 6, 2) := by decide +kernel
theorem d_law_910 : decode code 910 = .ok (.aload_n 2, 1) := by decide +kernel
theorem d_law_911 : decode code 911 = .ok (.aload_n 0, 1) := by decide +kernel
theorem d_law_912 : decode code 912 = .ok (.iload 5, 2) := by decide +kernel
theorem d_law_914 : decode code 914 = .ok (.iconst 1, 1) := by decide +kernel
theorem d_law_915 : decode code 915 = .ok (.iadd, 1) := by decide +kernel
theorem d_law_916 : decode code 916 = .ok (.iaload, 1) := by decide +kernel
theorem d_law_917 : decode code 917 = .ok (.invokevirtual 148, 3) := by decide +kernel
theorem d_law_920 : decode code 920 = .ok (.istore 7, 2) := by decide +kernel
theorem d_law_922 : decode code 922 = .ok (.aload_n 2, 1) := by decide +kernel
theorem d_law_923 : decode code 923 = .ok (.invokevirtual 102, 3) := by decide +kernel
theorem d_law_926 : decode code 926 = .ok (.iload 6, 2) := by decide +kernel
theorem d_law_928 : decode code 928 = .ok (.if_icmp .eq 5, 3) := by decide +kernel
theorem d_law_931 : decode code 931 = .ok (.iconst 0, 1) := by decide +kernel
theorem d_law_932 : decode code 932 = .ok (.ireturn, 1) := by decide +kernel
theorem d_law_933 : decode code 933 = .ok (.iload 6, 2) := by decide +kernel
theorem d_law_935 : decode code 935 = .ok (.ifCond .ne 15, 3) := by decide +kernel
theorem d_law_938 : decode code 938 = .ok (.aload_n 3, 1) := by decide +kernel
theorem d_law_939 : decode code 939 = .ok (.iconst 0, 1) := by decide +kernel
theorem d_law_940 : decode code 940 = .ok (.laload, 1) := by decide +kernel
theorem d_law_941 : decode code 941 = .ok (.iload 7, 2) := by decide +kernel
theorem d_law_943 : decode code 943 = .ok (.i2l, 1) := by decide +kernel
theorem d_law_944 : decode code 944 = .ok (.lcmp, 1) := by decide +kernel
theorem d_law_945 : decode code 945 = .ok (.ifCond .eq 5, 3) := by decide +kernel
theorem d_law_948 : decode code 948 = .ok (.iconst 0, 1) := by decide +kernel
theorem d_law_949 : decode code 949 = .ok (.ireturn, 1) := by decide +kernel
theorem d_law_950 : decode code 950 = .ok (.goto 606, 3) := by decide +kernel
theorem d_law_953 : decode code 953 = .ok (.aload_n 1, 1) := by decide +kernel
theorem d_law_954 : decode code 954 = .ok (.aload_n 0, 1) := by decide +kernel
theorem d_law_955 : decode code 955 = .ok (.iload 5, 2) := by decide +kernel
theorem d_law_957 : decode code 957 = .ok (.iconst 1, 1) := by decide +kernel
theorem d_law_958 : decode code 958 = .ok (.iadd, 1) := by decide +kernel
theorem d_law_959 : decode code 959 = .ok (.iaload, 1) := by decide +kernel
theorem d_law_960 : decode code 960 = .ok (.aload_n 3, 1) := by decide +kernel
theorem d_law_961 : decode code 961 = .ok (.invokestatic 149, 3) := by decide +kernel
theorem d_law_964 : decode code 964 = .ok (.istore 6, 2) := by decide +kernel
theorem d_law_966 : decode code 966 = .ok (.aload_n 2, 1) := by decide +kernel
theorem d_law_967 : decode code 967 = .ok (.aload_n 0, 1) := by decide +kernel
theorem d_law_968 : decode code 968 = .ok (.iload 5, 2) := by decide +kernel
theorem d_law_970 : decode code 970 = .ok (.iconst 1, 1) := by decide +kernel
theorem d_law_971 : decode code 971 = .ok (.iadd, 1) := by decide +kernel
theorem d_law_972 : decode code 972 = .ok (.iaload, 1) := by decide +kernel
theorem d_law_973 : decode code 973 = .ok (.invokevirtual 151, 3) := by decide +kernel
theorem d_law_976 : decode code 976 = .ok (.istore 7, 2) := by decide +kernel
theorem d_law_978 : decode code 978 = .ok (.aload_n 2, 1) := by decide +kernel
theorem d_law_979 : decode code 979 = .ok (.invokevirtual 102, 3) := by decide +kernel
theorem d_law_982 : decode code 982 = .ok (.iload 6, 2) := by decide +kernel
theorem d_law_984 : decode code 984 = .ok (.if_icmp .eq 5, 3) := by decide +kernel
theorem d_law_987 : decode code 987 = .ok (.iconst 0, 1) := by decide +kernel
theorem d_law_988 : decode code 988 = .ok (.ireturn, 1) := by decide +kernel
theorem d_law_989 : decode code 989 = .ok (.iload 6, 2) := by decide +kernel
theorem d_law_991 : decode code 991 = .ok (.ifCond .ne 15, 3) := by decide +kernel
theorem d_law_994 : decode code 994 = .ok (.aload_n 3, 1) := by decide +kernel
theorem d_law_995 : decode code 995 = .ok (.iconst 0, 1) := by decide +kernel
theorem d_law_996 : decode code 996 = .ok (.laload, 1) := by decide +kernel
theorem d_law_997 : decode code 997 = .ok (.iload 7, 2) := by decide +kernel
theorem d_law_999 : decode code 999 = .ok (.i2l, 1) := by decide +kernel
theorem d_law_1000 : decode code 1000 = .ok (.lcmp, 1) := by decide +kernel
theorem d_law_1001 : decode code 1001 = .ok (.ifCond .eq 5, 3) := by decide +kernel
theorem d_law_1004 : decode code 1004 = .ok (.iconst 0, 1) := by decide +kernel
theorem d_law_1005 : decode code 1005 = .ok (.ireturn, 1) := by decide +kernel
theorem d_law_1006 : decode code 1006 = .ok (.goto 550, 3) := by decide +kernel
theorem d_law_1009 : decode code 1009 = .ok (.aload_n 1, 1) := by decide +kernel
theorem d_law_1010 : decode code 1010 = .ok (.aload_n 0, 1) := by decide +kernel
theorem d_law_1011 : decode code 1011 = .ok (.iload 5, 2) := by decide +kernel
theorem d_law_1013 : decode code 1013 = .ok (.iconst 1, 1) := by decide +kernel
theorem d_law_1014 : decode code 1014 = .ok (.iadd, 1) := by decide +kernel
theorem d_law_1015 : decode code 1015 = .ok (.iaload, 1) := by decide +kernel
theorem d_law_1016 : decode code 1016 = .ok (.aload_n 3, 1) := by decide +kernel
theorem d_law_1017 : decode code 1017 = .ok (.invokestatic 152, 3) := by decide +kernel
theorem d_law_1020 : decode code 1020 = .ok (.istore 6, 2) := by decide +kernel
theorem d_law_1022 : decode code 1022 = .ok (.aload_n 2, 1) := by decide +kernel
theorem d_law_1023 : decode code 1023 = .ok (.aload_n 0, 1) := by decide +kernel
theorem d_law_1024 : decode code 1024 = .ok (.iload 5, 2) := by decide +kernel
theorem d_law_1026 : decode code 1026 = .ok (.iconst 1, 1) := by decide +kernel
theorem d_law_1027 : decode code 1027 = .ok (.iadd, 1) := by decide +kernel
theorem d_law_1028 : decode code 1028 = .ok (.iaload, 1) := by decide +kernel
theorem d_law_1029 : decode code 1029 = .ok (.invokevirtual 154, 3) := by decide +kernel
theorem d_law_1032 : decode code 1032 = .ok (.istore 7, 2) := by decide +kernel
theorem d_law_1034 : decode code 1034 = .ok (.aload_n 2, 1) := by decide +kernel
theorem d_law_1035 : decode code 1035 = .ok (.invokevirtual 102, 3) := by decide +kernel
theorem d_law_1038 : decode code 1038 = .ok (.iload 6, 2) := by decide +kernel
theorem d_law_1040 : decode code 1040 = .ok (.if_icmp .eq 5, 3) := by decide +kernel
theorem d_law_1043 : decode code 1043 = .ok (.iconst 0, 1) := by decide +kernel
theorem d_law_1044 : decode code 1044 = .ok (.ireturn, 1) := by decide +kernel
theorem d_law_1045 : decode code 1045 = .ok (.iload 6, 2) := by decide +kernel
theorem d_law_1047 : decode code 1047 = .ok (.ifCond .ne 15, 3) := by decide +kernel
theorem d_law_1050 : decode code 1050 = .ok (.aload_n 3, 1) := by decide +kernel
theorem d_law_1051 : decode code 1051 = .ok (.iconst 0, 1) := by decide +kernel
theorem d_law_1052 : decode code 1052 = .ok (.laload, 1) := by decide +kernel
theorem d_law_1053 : decode code 1053 = .ok (.iload 7, 2) := by decide +kernel
theorem d_law_1055 : decode code 1055 = .ok (.i2l, 1) := by decide +kernel
theorem d_law_1056 : decode code 1056 = .ok (.lcmp, 1) := by decide +kernel
theorem d_law_1057 : decode code 1057 = .ok (.ifCond .eq 5, 3) := by decide +kernel
theorem d_law_1060 : decode code 1060 = .ok (.iconst 0, 1) := by decide +kernel
theorem d_law_1061 : decode code 1061 = .ok (.ireturn, 1) := by decide +kernel
theorem d_law_1062 : decode code 1062 = .ok (.goto 494, 3) := by decide +kernel
theorem d_law_1065 : decode code 1065 = .ok (.aload_n 1, 1) := by decide +kernel
theorem d_law_1066 : decode code 1066 = .ok (.aload_n 0, 1) := by decide +kernel
theorem d_law_1067 : decode code 1067 = .ok (.iload 5, 2) := by decide +kernel
theorem d_law_1069 : decode code 1069 = .ok (.iconst 1, 1) := by decide +kernel
theorem d_law_1070 : decode code 1070 = .ok (.iadd, 1) := by decide +kernel
theorem d_law_1071 : decode code 1071 = .ok (.iaload, 1) := by decide +kernel
theorem d_law_1072 : decode code 1072 = .ok (.aload_n 3, 1) := by decide +kernel
theorem d_law_1073 : decode code 1073 = .ok (.invokestatic 155, 3) := by decide +kernel
theorem d_law_1076 : decode code 1076 = .ok (.istore 6, 2) := by decide +kernel
theorem d_law_1078 : decode code 1078 = .ok (.aload_n 2, 1) := by decide +kernel
theorem d_law_1079 : decode code 1079 = .ok (.aload_n 0, 1) := by decide +kernel
theorem d_law_1080 : decode code 1080 = .ok (.iload 5, 2) := by decide +kernel
theorem d_law_1082 : decode code 1082 = .ok (.iconst 1, 1) := by decide +kernel
theorem d_law_1083 : decode code 1083 = .ok (.iadd, 1) := by decide +kernel
theorem d_law_1084 : decode code 1084 = .ok (.iaload, 1) := by decide +kernel
theorem d_law_1085 : decode code 1085 = .ok (.invokevirtual 157, 3) := by decide +kernel
theorem d_law_1088 : decode code 1088 = .ok (.istore 7, 2) := by decide +kernel
theorem d_law_1090 : decode code 1090 = .ok (.aload_n 2, 1) := by decide +kernel
theorem d_law_1091 : decode code 1091 = .ok (.invokevirtual 102, 3) := by decide +kernel
theorem d_law_1094 : decode code 1094 = .ok (.iload 6, 2) := by decide +kernel
theorem d_law_1096 : decode code 1096 = .ok (.if_icmp .eq 5, 3) := by decide +kernel
theorem d_law_1099 : decode code 1099 = .ok (.iconst 0, 1) := by decide +kernel
theorem d_law_1100 : decode code 1100 = .ok (.ireturn, 1) := by decide +kernel
theorem d_law_1101 : decode code 1101 = .ok (.iload 6, 2) := by decide +kernel
theorem d_law_1103 : decode code 1103 = .ok (.ifCond .ne 15, 3) := by decide +kernel
theorem d_law_1106 : decode code 1106 = .ok (.aload_n 3, 1) := by decide +kernel
theorem d_law_1107 : decode code 1107 = .ok (.iconst 0, 1) := by decide +kernel
theorem d_law_1108 : decode code 1108 = .ok (.laload, 1) := by decide +kernel
theorem d_law_1109 : decode code 1109 = .ok (.iload 7, 2) := by decide +kernel
theorem d_law_1111 : decode code 1111 = .ok (.i2l, 1) := by decide +kernel
theorem d_law_1112 : decode code 1112 = .ok (.lcmp, 1) := by decide +kernel
theorem d_law_1113 : decode code 1113 = .ok (.ifCond .eq 5, 3) := by decide +kernel
theorem d_law_1116 : decode code 1116 = .ok (.iconst 0, 1) := by decide +kernel
theorem d_law_1117 : decode code 1117 = .ok (.ireturn, 1) := by decide +kernel
theorem d_law_1118 : decode code 1118 = .ok (.goto 438, 3) := by decide +kernel
theorem d_law_1121 : decode code 1121 = .ok (.aload_n 1, 1) := by decide +kernel
theorem d_law_1122 : decode code 1122 = .ok (.aload_n 0, 1) := by decide +kernel
theorem d_law_1123 : decode code 1123 = .ok (.iload 5, 2) := by decide +kernel
theorem d_law_1125 : decode code 1125 = .ok (.iconst 1, 1) := by decide +kernel
theorem d_law_1126 : decode code 1126 = .ok (.iadd, 1) := by decide +kernel
theorem d_law_1127 : decode code 1127 = .ok (.iaload, 1) := by decide +kernel
theorem d_law_1128 : decode code 1128 = .ok (.aload_n 0, 1) := by decide +kernel
theorem d_law_1129 : decode code 1129 = .ok (.iload 5, 2) := by decide +kernel
theorem d_law_1131 : decode code 1131 = .ok (.iconst 2, 1) := by decide +kernel
theorem d_law_1132 : decode code 1132 = .ok (.iadd, 1) := by decide +kernel
theorem d_law_1133 : decode code 1133 = .ok (.iaload, 1) := by decide +kernel
theorem d_law_1134 : decode code 1134 = .ok (.aload_n 0, 1) := by decide +kernel
theorem d_law_1135 : decode code 1135 = .ok (.iload 5, 2) := by decide +kernel
theorem d_law_1137 : decode code 1137 = .ok (.iconst 3, 1) := by decide +kernel
theorem d_law_1138 : decode code 1138 = .ok (.iadd, 1) := by decide +kernel
theorem d_law_1139 : decode code 1139 = .ok (.iaload, 1) := by decide +kernel
theorem d_law_1140 : decode code 1140 = .ok (.aload_n 3, 1) := by decide +kernel
theorem d_law_1141 : decode code 1141 = .ok (.invokestatic 158, 3) := by decide +kernel
theorem d_law_1144 : decode code 1144 = .ok (.istore 6, 2) := by decide +kernel
theorem d_law_1146 : decode code 1146 = .ok (.aload_n 2, 1) := by decide +kernel
theorem d_law_1147 : decode code 1147 = .ok (.aload_n 0, 1) := by decide +kernel
theorem d_law_1148 : decode code 1148 = .ok (.iload 5, 2) := by decide +kernel
theorem d_law_1150 : decode code 1150 = .ok (.iconst 1, 1) := by decide +kernel
theorem d_law_1151 : decode code 1151 = .ok (.iadd, 1) := by decide +kernel
theorem d_law_1152 : decode code 1152 = .ok (.iaload, 1) := by decide +kernel
theorem d_law_1153 : decode code 1153 = .ok (.aload_n 0, 1) := by decide +kernel
theorem d_law_1154 : decode code 1154 = .ok (.iload 5, 2) := by decide +kernel
theorem d_law_1156 : decode code 1156 = .ok (.iconst 2, 1) := by decide +kernel
theorem d_law_1157 : decode code 1157 = .ok (.iadd, 1) := by decide +kernel
theorem d_law_1158 : decode code 1158 = .ok (.iaload, 1) := by decide +kernel
theorem d_law_1159 : decode code 1159 = .ok (.aload_n 0, 1) := by decide +kernel
theorem d_law_1160 : decode code 1160 = .ok (.iload 5, 2) := by decide +kernel
theorem d_law_1162 : decode code 1162 = .ok (.iconst 3, 1) := by decide +kernel
theorem d_law_1163 : decode code 1163 = .ok (.iadd, 1) := by decide +kernel
theorem d_law_1164 : decode code 1164 = .ok (.iaload, 1) := by decide +kernel
theorem d_law_1165 : decode code 1165 = .ok (.invokevirtual 160, 3) := by decide +kernel
theorem d_law_1168 : decode code 1168 = .ok (.lstore 7, 2) := by decide +kernel
theorem d_law_1170 : decode code 1170 = .ok (.aload_n 2, 1) := by decide +kernel
theorem d_law_1171 : decode code 1171 = .ok (.invokevirtual 102, 3) := by decide +kernel
theorem d_law_1174 : decode code 1174 = .ok (.iload 6, 2) := by decide +kernel
theorem d_law_1176 : decode code 1176 = .ok (.if_icmp .eq 5, 3) := by decide +kernel
theorem d_law_1179 : decode code 1179 = .ok (.iconst 0, 1) := by decide +kernel
theorem d_law_1180 : decode code 1180 = .ok (.ireturn, 1) := by decide +kernel
theorem d_law_1181 : decode code 1181 = .ok (.iload 6, 2) := by decide +kernel
theorem d_law_1183 : decode code 1183 = .ok (.ifCond .ne 14, 3) := by decide +kernel
theorem d_law_1186 : decode code 1186 = .ok (.aload_n 3, 1) := by decide +kernel
theorem d_law_1187 : decode code 1187 = .ok (.iconst 0, 1) := by decide +kernel
theorem d_law_1188 : decode code 1188 = .ok (.laload, 1) := by decide +kernel
theorem d_law_1189 : decode code 1189 = .ok (.lload 7, 2) := by decide +kernel
theorem d_law_1191 : decode code 1191 = .ok (.lcmp, 1) := by decide +kernel
theorem d_law_1192 : decode code 1192 = .ok (.ifCond .eq 5, 3) := by decide +kernel
theorem d_law_1195 : decode code 1195 = .ok (.iconst 0, 1) := by decide +kernel
theorem d_law_1196 : decode code 1196 = .ok (.ireturn, 1) := by decide +kernel
theorem d_law_1197 : decode code 1197 = .ok (.goto 359, 3) := by decide +kernel
theorem d_law_1200 : decode code 1200 = .ok (.aload_n 1, 1) := by decide +kernel
theorem d_law_1201 : decode code 1201 = .ok (.aload_n 0, 1) := by decide +kernel
theorem d_law_1202 : decode code 1202 = .ok (.iload 5, 2) := by decide +kernel
theorem d_law_1204 : decode code 1204 = .ok (.iconst 1, 1) := by decide +kernel
theorem d_law_1205 : decode code 1205 = .ok (.iadd, 1) := by decide +kernel
theorem d_law_1206 : decode code 1206 = .ok (.iaload, 1) := by decide +kernel
theorem d_law_1207 : decode code 1207 = .ok (.aload_n 0, 1) := by decide +kernel
theorem d_law_1208 : decode code 1208 = .ok (.iload 5, 2) := by decide +kernel
theorem d_law_1210 : decode code 1210 = .ok (.iconst 2, 1) := by decide +kernel
theorem d_law_1211 : decode code 1211 = .ok (.iadd, 1) := by decide +kernel
theorem d_law_1212 : decode code 1212 = .ok (.iaload, 1) := by decide +kernel
theorem d_law_1213 : decode code 1213 = .ok (.aload_n 3, 1) := by decide +kernel
theorem d_law_1214 : decode code 1214 = .ok (.invokestatic 161, 3) := by decide +kernel
theorem d_law_1217 : decode code 1217 = .ok (.istore 6, 2) := by decide +kernel
theorem d_law_1219 : decode code 1219 = .ok (.aload_n 2, 1) := by decide +kernel
theorem d_law_1220 : decode code 1220 = .ok (.aload_n 0, 1) := by decide +kernel
theorem d_law_1221 : decode code 1221 = .ok (.iload 5, 2) := by decide +kernel
theorem d_law_1223 : decode code 1223 = .ok (.iconst 1, 1) := by decide +kernel
theorem d_law_1224 : decode code 1224 = .ok (.iadd, 1) := by decide +kernel
theorem d_law_1225 : decode code 1225 = .ok (.iaload, 1) := by decide +kernel
theorem d_law_1226 : decode code 1226 = .ok (.aload_n 0, 1) := by decide +kernel
theorem d_law_1227 : decode code 1227 = .ok (.iload 5, 2) := by decide +kernel
theorem d_law_1229 : decode code 1229 = .ok (.iconst 2, 1) := by decide +kernel
theorem d_law_1230 : decode code 1230 = .ok (.iadd, 1) := by decide +kernel
theorem d_law_1231 : decode code 1231 = .ok (.iaload, 1) := by decide +kernel
theorem d_law_1232 : decode code 1232 = .ok (.invokevirtual 163, 3) := by decide +kernel
theorem d_law_1235 : decode code 1235 = .ok (.istore 7, 2) := by decide +kernel
theorem d_law_1237 : decode code 1237 = .ok (.aload_n 2, 1) := by decide +kernel
theorem d_law_1238 : decode code 1238 = .ok (.invokevirtual 102, 3) := by decide +kernel
theorem d_law_1241 : decode code 1241 = .ok (.iload 6, 2) := by decide +kernel
theorem d_law_1243 : decode code 1243 = .ok (.if_icmp .eq 5, 3) := by decide +kernel
theorem d_law_1246 : decode code 1246 = .ok (.iconst 0, 1) := by decide +kernel
theorem d_law_1247 : decode code 1247 = .ok (.ireturn, 1) := by decide +kernel
theorem d_law_1248 : decode code 1248 = .ok (.iload 6, 2) := by decide +kernel
theorem d_law_1250 : decode code 1250 = .ok (.ifCond .ne 15, 3) := by decide +kernel
theorem d_law_1253 : decode code 1253 = .ok (.aload_n 3, 1) := by decide +kernel
theorem d_law_1254 : decode code 1254 = .ok (.iconst 0, 1) := by decide +kernel
theorem d_law_1255 : decode code 1255 = .ok (.laload, 1) := by decide +kernel
theorem d_law_1256 : decode code 1256 = .ok (.iload 7, 2) := by decide +kernel
theorem d_law_1258 : decode code 1258 = .ok (.i2l, 1) := by decide +kernel
theorem d_law_1259 : decode code 1259 = .ok (.lcmp, 1) := by decide +kernel
theorem d_law_1260 : decode code 1260 = .ok (.ifCond .eq 5, 3) := by decide +kernel
theorem d_law_1263 : decode code 1263 = .ok (.iconst 0, 1) := by decide +kernel
theorem d_law_1264 : decode code 1264 = .ok (.ireturn, 1) := by decide +kernel
theorem d_law_1265 : decode code 1265 = .ok (.goto 291, 3) := by decide +kernel
theorem d_law_1268 : decode code 1268 = .ok (.aload_n 1, 1) := by decide +kernel
theorem d_law_1269 : decode code 1269 = .ok (.aload_n 0, 1) := by decide +kernel
theorem d_law_1270 : decode code 1270 = .ok (.iload 5, 2) := by decide +kernel
theorem d_law_1272 : decode code 1272 = .ok (.iconst 1, 1) := by decide +kernel
theorem d_law_1273 : decode code 1273 = .ok (.iadd, 1) := by decide +kernel
theorem d_law_1274 : decode code 1274 = .ok (.iaload, 1) := by decide +kernel
theorem d_law_1275 : decode code 1275 = .ok (.aload 4, 2) := by decide +kernel
theorem d_law_1277 : decode code 1277 = .ok (.invokestatic 164, 3) := by decide +kernel
theorem d_law_1280 : decode code 1280 = .ok (.istore 6, 2) := by decide +kernel
theorem d_law_1282 : decode code 1282 = .ok (.aload_n 2, 1) := by decide +kernel
theorem d_law_1283 : decode code 1283 = .ok (.aload_n 0, 1) := by decide +kernel
theorem d_law_1284 : decode code 1284 = .ok (.iload 5, 2) := by decide +kernel
theorem d_law_1286 : decode code 1286 = .ok (.iconst 1, 1) := by decide +kernel
theorem d_law_1287 : decode code 1287 = .ok (.iadd, 1) := by decide +kernel
theorem d_law_1288 : decode code 1288 = .ok (.iaload, 1) := by decide +kernel
theorem d_law_1289 : decode code 1289 = .ok (.invokevirtual 167, 3) := by decide +kernel
theorem d_law_1292 : decode code 1292 = .ok (.fstore 7, 2) := by decide +kernel
theorem d_law_1294 : decode code 1294 = .ok (.aload_n 2, 1) := by decide +kernel
theorem d_law_1295 : decode code 1295 = .ok (.invokevirtual 102, 3) := by decide +kernel
theorem d_law_1298 : decode code 1298 = .ok (.iload 6, 2) := by decide +kernel
theorem d_law_1300 : decode code 1300 = .ok (.if_icmp .eq 5, 3) := by decide +kernel
theorem d_law_1303 : decode code 1303 = .ok (.iconst 0, 1) := by decide +kernel
theorem d_law_1304 : decode code 1304 = .ok (.ireturn, 1) := by decide +kernel
theorem d_law_1305 : decode code 1305 = .ok (.iload 6, 2) := by decide +kernel
theorem d_law_1307 : decode code 1307 = .ok (.ifCond .ne 36, 3) := by decide +kernel
theorem d_law_1310 : decode code 1310 = .ok (.aload 4, 2) := by decide +kernel
theorem d_law_1312 : decode code 1312 = .ok (.iconst 0, 1) := by decide +kernel
theorem d_law_1313 : decode code 1313 = .ok (.daload, 1) := by decide +kernel
theorem d_law_1314 : decode code 1314 = .ok (.fload 7, 2) := by decide +kernel
theorem d_law_1316 : decode code 1316 = .ok (.f2d, 1) := by decide +kernel
theorem d_law_1317 : decode code 1317 = .ok (.dcmp .l, 1) := by decide +kernel
theorem d_law_1318 : decode code 1318 = .ok (.ifCond .eq 25, 3) := by decide +kernel
theorem d_law_1321 : decode code 1321 = .ok (.aload 4, 2) := by decide +kernel
theorem d_law_1323 : decode code 1323 = .ok (.iconst 0, 1) := by decide +kernel
theorem d_law_1324 : decode code 1324 = .ok (.daload, 1) := by decide +kernel
theorem d_law_1325 : decode code 1325 = .ok (.aload 4, 2) := by decide +kernel
theorem d_law_1327 : decode code 1327 = .ok (.iconst 0, 1) := by decide +kernel
theorem d_law_1328 : decode code 1328 = .ok (.daload, 1) := by decide +kernel
theorem d_law_1329 : decode code 1329 = .ok (.dcmp .l, 1) := by decide +kernel
theorem d_law_1330 : decode code 1330 = .ok (.ifCond .eq 11, 3) := by decide +kernel
theorem d_law_1333 : decode code 1333 = .ok (.fload 7, 2) := by decide +kernel
theorem d_law_1335 : decode code 1335 = .ok (.fload 7, 2) := by decide +kernel
theorem d_law_1337 : decode code 1337 = .ok (.fcmp .l, 1) := by decide +kernel
theorem d_law_1338 : decode code 1338 = .ok (.ifCond .ne 5, 3) := by decide +kernel
theorem d_law_1341 : decode code 1341 = .ok (.iconst 0, 1) := by decide +kernel
theorem d_law_1342 : decode code 1342 = .ok (.ireturn, 1) := by decide +kernel
theorem d_law_1343 : decode code 1343 = .ok (.goto 213, 3) := by decide +kernel
theorem d_law_1346 : decode code 1346 = .ok (.aload_n 1, 1) := by decide +kernel
theorem d_law_1347 : decode code 1347 = .ok (.aload_n 0, 1) := by decide +kernel
theorem d_law_1348 : decode code 1348 = .ok (.iload 5, 2) := by decide +kernel
theorem d_law_1350 : decode code 1350 = .ok (.iconst 1, 1) := by decide +kernel
theorem d_law_1351 : decode code 1351 = .ok (.iadd, 1) := by decide +kernel
theorem d_law_1352 : decode code 1352 = .ok (.iaload, 1) := by decide +kernel
theorem d_law_1353 : decode code 1353 = .ok (.aload 4, 2) := by decide +kernel
theorem d_law_1355 : decode code 1355 = .ok (.invokestatic 168, 3) := by decide +kernel
theorem d_law_1358 : decode code 1358 = .ok (.istore 6, 2) := by decide +kernel
theorem d_law_1360 : decode code 1360 = .ok (.aload_n 2, 1) := by decide +kernel
theorem d_law_1361 : decode code 1361 = .ok (.aload_n 0, 1) := by decide +kernel
theorem d_law_1362 : decode code 1362 = .ok (.iload 5, 2) := by decide +kernel
theorem d_law_1364 : decode code 1364 = .ok (.iconst 1, 1) := by decide +kernel
theorem d_law_1365 : decode code 1365 = .ok (.iadd, 1) := by decide +kernel
theorem d_law_1366 : decode code 1366 = .ok (.iaload, 1) := by decide +kernel
theorem d_law_1367 : decode code 1367 = .ok (.invokevirtual 170, 3) := by decide +kernel
theorem d_law_1370 : decode code 1370 = .ok (.fstore 7, 2) := by decide +kernel
theorem d_law_1372 : decode code 1372 = .ok (.aload_n 2, 1) := by decide +kernel
theorem d_law_1373 : decode code 1373 = .ok (.invokevirtual 102, 3) := by decide +kernel
theorem d_law_1376 : decode code 1376 = .ok (.iload 6, 2) := by decide +kernel
theorem d_law_1378 : decode code 1378 = .ok (.if_icmp .eq 5, 3) := by decide +kernel
theorem d_law_1381 : decode code 1381 = .ok (.iconst 0, 1) := by decide +kernel
theorem d_law_1382 : decode code 1382 = .ok (.ireturn, 1) := by decide +kernel
theorem d_law_1383 : decode code 1383 = .ok (.iload 6, 2) := by decide +kernel
theorem d_law_1385 : decode code 1385 = .ok (.ifCond .ne 36, 3) := by decide +kernel
theorem d_law_1388 : decode code 1388 = .ok (.aload 4, 2) := by decide +kernel
theorem d_law_1390 : decode code 1390 = .ok (.iconst 0, 1) := by decide +kernel
theorem d_law_1391 : decode code 1391 = .ok (.daload, 1) := by decide +kernel
theorem d_law_1392 : decode code 1392 = .ok (.fload 7, 2) := by decide +kernel
theorem d_law_1394 : decode code 1394 = .ok (.f2d, 1) := by decide +kernel
theorem d_law_1395 : decode code 1395 = .ok (.dcmp .l, 1) := by decide +kernel
theorem d_law_1396 : decode code 1396 = .ok (.ifCond .eq 25, 3) := by decide +kernel
theorem d_law_1399 : decode code 1399 = .ok (.aload 4, 2) := by decide +kernel
theorem d_law_1401 : decode code 1401 = .ok (.iconst 0, 1) := by decide +kernel
theorem d_law_1402 : decode code 1402 = .ok (.daload, 1) := by decide +kernel
theorem d_law_1403 : decode code 1403 = .ok (.aload 4, 2) := by decide +kernel
theorem d_law_1405 : decode code 1405 = .ok (.iconst 0, 1) := by decide +kernel
theorem d_law_1406 : decode code 1406 = .ok (.daload, 1) := by decide +kernel
theorem d_law_1407 : decode code 1407 = .ok (.dcmp .l, 1) := by decide +kernel
theorem d_law_1408 : decode code 1408 = .ok (.ifCond .eq 11, 3) := by decide +kernel
theorem d_law_1411 : decode code 1411 = .ok (.fload 7, 2) := by decide +kernel
theorem d_law_1413 : decode code 1413 = .ok (.fload 7, 2) := by decide +kernel
theorem d_law_1415 : decode code 1415 = .ok (.fcmp .l, 1) := by decide +kernel
theorem d_law_1416 : decode code 1416 = .ok (.ifCond .ne 5, 3) := by decide +kernel
theorem d_law_1419 : decode code 1419 = .ok (.iconst 0, 1) := by decide +kernel
theorem d_law_1420 : decode code 1420 = .ok (.ireturn, 1) := by decide +kernel
theorem d_law_1421 : decode code 1421 = .ok (.goto 135, 3) := by decide +kernel
theorem d_law_1424 : decode code 1424 = .ok (.aload_n 1, 1) := by decide +kernel
theorem d_law_1425 : decode code 1425 = .ok (.aload_n 0, 1) := by decide +kernel
theorem d_law_1426 : decode code 1426 = .ok (.iload 5, 2) := by decide +kernel
theorem d_law_1428 : decode code 1428 = .ok (.iconst 1, 1) := by decide +kernel
theorem d_law_1429 : decode code 1429 = .ok (.iadd, 1) := by decide +kernel
theorem d_law_1430 : decode code 1430 = .ok (.iaload, 1) := by decide +kernel
theorem d_law_1431 : decode code 1431 = .ok (.aload 4, 2) := by decide +kernel
theorem d_law_1433 : decode code 1433 = .ok (.invokestatic 171, 3) := by decide +kernel
theorem d_law_1436 : decode code 1436 = .ok (.istore 6, 2) := by decide +kernel
theorem d_law_1438 : decode code 1438 = .ok (.aload_n 2, 1) := by decide +kernel
theorem d_law_1439 : decode code 1439 = .ok (.aload_n 0, 1) := by decide +kernel
theorem d_law_1440 : decode code 1440 = .ok (.iload 5, 2) := by decide +kernel
theorem d_law_1442 : decode code 1442 = .ok (.iconst 1, 1) := by decide +kernel
theorem d_law_1443 : decode code 1443 = .ok (.iadd, 1) := by decide +kernel
theorem d_law_1444 : decode code 1444 = .ok (.iaload, 1) := by decide +kernel
theorem d_law_1445 : decode code 1445 = .ok (.invokevirtual 173, 3) := by decide +kernel
theorem d_law_1448 : decode code 1448 = .ok (.dstore 7, 2) := by decide +kernel
theorem d_law_1450 : decode code 1450 = .ok (.aload_n 2, 1) := by decide +kernel
theorem d_law_1451 : decode code 1451 = .ok (.invokevirtual 102, 3) := by decide +kernel
theorem d_law_1454 : decode code 1454 = .ok (.iload 6, 2) := by decide +kernel
theorem d_law_1456 : decode code 1456 = .ok (.if_icmp .eq 5, 3) := by decide +kernel
theorem d_law_1459 : decode code 1459 = .ok (.iconst 0, 1) := by decide +kernel
theorem d_law_1460 : decode code 1460 = .ok (.ireturn, 1) := by decide +kernel
theorem d_law_1461 : decode code 1461 = .ok (.iload 6, 2) := by decide +kernel
theorem d_law_1463 : decode code 1463 = .ok (.ifCond .ne 35, 3) := by decide +kernel
theorem d_law_1466 : decode code 1466 = .ok (.aload 4, 2) := by decide +kernel
theorem d_law_1468 : decode code 1468 = .ok (.iconst 0, 1) := by decide +kernel
theorem d_law_1469 : decode code 1469 = .ok (.daload, 1) := by decide +kernel
theorem d_law_1470 : decode code 1470 = .ok (.dload 7, 2) := by decide +kernel
theorem d_law_1472 : decode code 1472 = .ok (.dcmp .l, 1) := by decide +kernel
theorem d_law_1473 : decode code 1473 = .ok (.ifCond .eq 25, 3) := by decide +kernel
theorem d_law_1476 : decode code 1476 = .ok (.aload 4, 2) := by decide +kernel
theorem d_law_1478 : decode code 1478 = .ok (.iconst 0, 1) := by decide +kernel
theorem d_law_1479 : decode code 1479 = .ok (.daload, 1) := by decide +kernel
theorem d_law_1480 : decode code 1480 = .ok (.aload 4, 2) := by decide +kernel
theorem d_law_1482 : decode code 1482 = .ok (.iconst 0, 1) := by decide +kernel
theorem d_law_1483 : decode code 1483 = .ok (.daload, 1) := by decide +kernel
theorem d_law_1484 : decode code 1484 = .ok (.dcmp .l, 1) := by decide +kernel
theorem d_law_1485 : decode code 1485 = .ok (.ifCond .eq 11, 3) := by decide +kernel
theorem d_law_1488 : decode code 1488 = .ok (.dload 7, 2) := by decide +kernel
theorem d_law_1490 : decode code 1490 = .ok (.dload 7, 2) := by decide +kernel
theorem d_law_1492 : decode code 1492 = .ok (.dcmp .l, 1) := by decide +kernel
theorem d_law_1493 : decode code 1493 = .ok (.ifCond .ne 5, 3) := by decide +kernel
theorem d_law_1496 : decode code 1496 = .ok (.iconst 0, 1) := by decide +kernel
theorem d_law_1497 : decode code 1497 = .ok (.ireturn, 1) := by decide +kernel
theorem d_law_1498 : decode code 1498 = .ok (.goto 58, 3) := by decide +kernel
theorem d_law_1501 : decode code 1501 = .ok (.aload_n 1, 1) := by decide +kernel
theorem d_law_1502 : decode code 1502 = .ok (.aload_n 0, 1) := by decide +kernel
theorem d_law_1503 : decode code 1503 = .ok (.iload 5, 2) := by decide +kernel
theorem d_law_1505 : decode code 1505 = .ok (.iconst 1, 1) := by decide +kernel
theorem d_law_1506 : decode code 1506 = .ok (.iadd, 1) := by decide +kernel
theorem d_law_1507 : decode code 1507 = .ok (.iaload, 1) := by decide +kernel
theorem d_law_1508 : decode code 1508 = .ok (.aload_n 3, 1) := by decide +kernel
theorem d_law_1509 : decode code 1509 = .ok (.invokestatic 174, 3) := by decide +kernel
theorem d_law_1512 : decode code 1512 = .ok (.istore 6, 2) := by decide +kernel
theorem d_law_1514 : decode code 1514 = .ok (.aload_n 2, 1) := by decide +kernel
theorem d_law_1515 : decode code 1515 = .ok (.aload_n 0, 1) := by decide +kernel
theorem d_law_1516 : decode code 1516 = .ok (.iload 5, 2) := by decide +kernel
theorem d_law_1518 : decode code 1518 = .ok (.iconst 1, 1) := by decide +kernel
theorem d_law_1519 : decode code 1519 = .ok (.iadd, 1) := by decide +kernel
theorem d_law_1520 : decode code 1520 = .ok (.iaload, 1) := by decide +kernel
theorem d_law_1521 : decode code 1521 = .ok (.invokevirtual 176, 3) := by decide +kernel
theorem d_law_1524 : decode code 1524 = .ok (.lstore 7, 2) := by decide +kernel
theorem d_law_1526 : decode code 1526 = .ok (.aload_n 2, 1) := by decide +kernel
theorem d_law_1527 : decode code 1527 = .ok (.invokevirtual 102, 3) := by decide +kernel
theorem d_law_1530 : decode code 1530 = .ok (.iload 6, 2) := by decide +kernel
theorem d_law_1532 : decode code 1532 = .ok (.if_icmp .eq 5, 3) := by decide +kernel
theorem d_law_1535 : decode code 1535 = .ok (.iconst 0, 1) := by decide +kernel
theorem d_law_1536 : decode code 1536 = .ok (.ireturn, 1) := by decide +kernel
theorem d_law_1537 : decode code 1537 = .ok (.iload 6, 2) := by decide +kernel
theorem d_law_1539 : decode code 1539 = .ok (.ifCond .ne 14, 3) := by decide +kernel
theorem d_law_1542 : decode code 1542 = .ok (.aload_n 3, 1) := by decide +kernel
theorem d_law_1543 : decode code 1543 = .ok (.iconst 0, 1) := by decide +kernel
theorem d_law_1544 : decode code 1544 = .ok (.laload, 1) := by decide +kernel
theorem d_law_1545 : decode code 1545 = .ok (.lload 7, 2) := by decide +kernel
theorem d_law_1547 : decode code 1547 = .ok (.lcmp, 1) := by decide +kernel
theorem d_law_1548 : decode code 1548 = .ok (.ifCond .eq 5, 3) := by decide +kernel
theorem d_law_1551 : decode code 1551 = .ok (.iconst 0, 1) := by decide +kernel
theorem d_law_1552 : decode code 1552 = .ok (.ireturn, 1) := by decide +kernel
theorem d_law_1553 : decode code 1553 = .ok (.goto 3, 3) := by decide +kernel
theorem d_law_1556 : decode code 1556 = .ok (.iinc 5 6, 3) := by decide +kernel
theorem d_law_1559 : decode code 1559 = .ok (.goto (-1531), 3) := by decide +kernel
theorem d_law_1562 : decode code 1562 = .ok (.iconst 1, 1) := by decide +kernel
theorem d_law_1563 : decode code 1563 = .ok (.ireturn, 1) := by decide +kernel
