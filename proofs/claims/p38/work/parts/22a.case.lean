theorem dL_law_204 : decode cL_law 204 = .ok (.aload_n 1, 1) := q_o43 (by decide +kernel)
theorem dL_law_205 : decode cL_law 205 = .ok (.aload_n 0, 1) := q_o42 (by decide +kernel)
theorem dL_law_206 : decode cL_law 206 = .ok (.iload 4, 2) := q_o21 (a := 4) (by decide +kernel)
theorem dL_law_208 : decode cL_law 208 = .ok (.iconst 1, 1) := q_o4 (by decide +kernel)
theorem dL_law_209 : decode cL_law 209 = .ok (.iadd, 1) := q_o96 (by decide +kernel)
theorem dL_law_210 : decode cL_law 210 = .ok (.iaload, 1) := q_o46 (by decide +kernel)
theorem dL_law_211 : decode cL_law 211 = .ok (.aload_n 0, 1) := q_o42 (by decide +kernel)
theorem dL_law_212 : decode cL_law 212 = .ok (.iload 4, 2) := q_o21 (a := 4) (by decide +kernel)
theorem dL_law_214 : decode cL_law 214 = .ok (.iconst 2, 1) := q_o5 (by decide +kernel)
theorem dL_law_215 : decode cL_law 215 = .ok (.iadd, 1) := q_o96 (by decide +kernel)
theorem dL_law_216 : decode cL_law 216 = .ok (.iaload, 1) := q_o46 (by decide +kernel)
theorem dL_law_217 : decode cL_law 217 = .ok (.aload_n 0, 1) := q_o42 (by decide +kernel)
theorem dL_law_218 : decode cL_law 218 = .ok (.iload 4, 2) := q_o21 (a := 4) (by decide +kernel)
theorem dL_law_220 : decode cL_law 220 = .ok (.iconst 3, 1) := q_o6 (by decide +kernel)
theorem dL_law_221 : decode cL_law 221 = .ok (.iadd, 1) := q_o96 (by decide +kernel)
theorem dL_law_222 : decode cL_law 222 = .ok (.iaload, 1) := q_o46 (by decide +kernel)
theorem dL_law_223 : decode cL_law 223 = .ok (.aload_n 0, 1) := q_o42 (by decide +kernel)
theorem dL_law_224 : decode cL_law 224 = .ok (.iload 4, 2) := q_o21 (a := 4) (by decide +kernel)
theorem dL_law_226 : decode cL_law 226 = .ok (.iconst 4, 1) := q_o7 (by decide +kernel)
theorem dL_law_227 : decode cL_law 227 = .ok (.iadd, 1) := q_o96 (by decide +kernel)
theorem dL_law_228 : decode cL_law 228 = .ok (.iaload, 1) := q_o46 (by decide +kernel)
theorem dL_law_229 : decode cL_law 229 = .ok (.aload_n 0, 1) := q_o42 (by decide +kernel)
theorem dL_law_230 : decode cL_law 230 = .ok (.iload 4, 2) := q_o21 (a := 4) (by decide +kernel)
theorem dL_law_232 : decode cL_law 232 = .ok (.iconst 5, 1) := q_o8 (by decide +kernel)
theorem dL_law_233 : decode cL_law 233 = .ok (.iadd, 1) := q_o96 (by decide +kernel)
theorem dL_law_234 : decode cL_law 234 = .ok (.iaload, 1) := q_o46 (by decide +kernel)
theorem dL_law_235 : decode cL_law 235 = .ok (.invokevirtual 19, 3) := q_o182 (a := 0) (b := 19) (by decide +kernel)
theorem dL_law_238 : decode cL_law 238 = .ok (.pop, 1) := q_o87 (by decide +kernel)
theorem dL_law_239 : decode cL_law 239 = .ok (.aload_n 2, 1) := q_o44 (by decide +kernel)
theorem dL_law_240 : decode cL_law 240 = .ok (.aload_n 0, 1) := q_o42 (by decide +kernel)
theorem dL_law_241 : decode cL_law 241 = .ok (.iload 4, 2) := q_o21 (a := 4) (by decide +kernel)
theorem dL_law_243 : decode cL_law 243 = .ok (.iconst 1, 1) := q_o4 (by decide +kernel)
theorem dL_law_244 : decode cL_law 244 = .ok (.iadd, 1) := q_o96 (by decide +kernel)
theorem dL_law_245 : decode cL_law 245 = .ok (.iaload, 1) := q_o46 (by decide +kernel)
theorem dL_law_246 : decode cL_law 246 = .ok (.aload_n 0, 1) := q_o42 (by decide +kernel)
theorem dL_law_247 : decode cL_law 247 = .ok (.iload 4, 2) := q_o21 (a := 4) (by decide +kernel)
theorem dL_law_249 : decode cL_law 249 = .ok (.iconst 2, 1) := q_o5 (by decide +kernel)
theorem dL_law_250 : decode cL_law 250 = .ok (.iadd, 1) := q_o96 (by decide +kernel)
theorem dL_law_251 : decode cL_law 251 = .ok (.iaload, 1) := q_o46 (by decide +kernel)
theorem dL_law_252 : decode cL_law 252 = .ok (.aload_n 0, 1) := q_o42 (by decide +kernel)
theorem dL_law_253 : decode cL_law 253 = .ok (.iload 4, 2) := q_o21 (a := 4) (by decide +kernel)
theorem dL_law_255 : decode cL_law 255 = .ok (.iconst 3, 1) := q_o6 (by decide +kernel)
theorem dL_law_256 : decode cL_law 256 = .ok (.iadd, 1) := q_o96 (by decide +kernel)
theorem dL_law_257 : decode cL_law 257 = .ok (.iaload, 1) := q_o46 (by decide +kernel)
theorem dL_law_258 : decode cL_law 258 = .ok (.aload_n 0, 1) := q_o42 (by decide +kernel)
theorem dL_law_259 : decode cL_law 259 = .ok (.iload 4, 2) := q_o21 (a := 4) (by decide +kernel)
theorem dL_law_261 : decode cL_law 261 = .ok (.iconst 4, 1) := q_o7 (by decide +kernel)
theorem dL_law_262 : decode cL_law 262 = .ok (.iadd, 1) := q_o96 (by decide +kernel)
theorem dL_law_263 : decode cL_law 263 = .ok (.iaload, 1) := q_o46 (by decide +kernel)
theorem dL_law_264 : decode cL_law 264 = .ok (.aload_n 0, 1) := q_o42 (by decide +kernel)
theorem dL_law_265 : decode cL_law 265 = .ok (.iload 4, 2) := q_o21 (a := 4) (by decide +kernel)
theorem dL_law_267 : decode cL_law 267 = .ok (.iconst 5, 1) := q_o8 (by decide +kernel)
theorem dL_law_268 : decode cL_law 268 = .ok (.iadd, 1) := q_o96 (by decide +kernel)
theorem dL_law_269 : decode cL_law 269 = .ok (.iaload, 1) := q_o46 (by decide +kernel)
theorem dL_law_270 : decode cL_law 270 = .ok (.invokevirtual 23, 3) := q_o182 (a := 0) (b := 23) (by decide +kernel)
theorem dL_law_273 : decode cL_law 273 = .ok (.pop, 1) := q_o87 (by decide +kernel)
theorem dL_law_274 : decode cL_law 274 = .ok (.goto 1070, 3) := q_o167 (a := 4) (b := 46) (by decide +kernel) rfl
theorem dL_law_277 : decode cL_law 277 = .ok (.aload_n 1, 1) := q_o43 (by decide +kernel)
theorem dL_law_278 : decode cL_law 278 = .ok (.aload_n 0, 1) := q_o42 (by decide +kernel)
theorem dL_law_279 : decode cL_law 279 = .ok (.iload 4, 2) := q_o21 (a := 4) (by decide +kernel)
theorem dL_law_281 : decode cL_law 281 = .ok (.iconst 1, 1) := q_o4 (by decide +kernel)
theorem dL_law_282 : decode cL_law 282 = .ok (.iadd, 1) := q_o96 (by decide +kernel)
theorem dL_law_283 : decode cL_law 283 = .ok (.iaload, 1) := q_o46 (by decide +kernel)
theorem dL_law_284 : decode cL_law 284 = .ok (.invokevirtual 24, 3) := q_o182 (a := 0) (b := 24) (by decide +kernel)
theorem dL_law_287 : decode cL_law 287 = .ok (.pop, 1) := q_o87 (by decide +kernel)
theorem dL_law_288 : decode cL_law 288 = .ok (.aload_n 2, 1) := q_o44 (by decide +kernel)
theorem dL_law_289 : decode cL_law 289 = .ok (.aload_n 0, 1) := q_o42 (by decide +kernel)
theorem dL_law_290 : decode cL_law 290 = .ok (.iload 4, 2) := q_o21 (a := 4) (by decide +kernel)
theorem dL_law_292 : decode cL_law 292 = .ok (.iconst 1, 1) := q_o4 (by decide +kernel)
theorem dL_law_293 : decode cL_law 293 = .ok (.iadd, 1) := q_o96 (by decide +kernel)
theorem dL_law_294 : decode cL_law 294 = .ok (.iaload, 1) := q_o46 (by decide +kernel)
theorem dL_law_295 : decode cL_law 295 = .ok (.invokevirtual 28, 3) := q_o182 (a := 0) (b := 28) (by decide +kernel)
theorem dL_law_298 : decode cL_law 298 = .ok (.pop, 1) := q_o87 (by decide +kernel)
theorem dL_law_299 : decode cL_law 299 = .ok (.goto 1045, 3) := q_o167 (a := 4) (b := 21) (by decide +kernel) rfl
theorem dL_law_302 : decode cL_law 302 = .ok (.aload_n 1, 1) := q_o43 (by decide +kernel)
theorem dL_law_303 : decode cL_law 303 = .ok (.aload_n 0, 1) := q_o42 (by decide +kernel)
theorem dL_law_304 : decode cL_law 304 = .ok (.iload 4, 2) := q_o21 (a := 4) (by decide +kernel)
theorem dL_law_306 : decode cL_law 306 = .ok (.iconst 1, 1) := q_o4 (by decide +kernel)
theorem dL_law_307 : decode cL_law 307 = .ok (.iadd, 1) := q_o96 (by decide +kernel)
theorem dL_law_308 : decode cL_law 308 = .ok (.iaload, 1) := q_o46 (by decide +kernel)
theorem dL_law_309 : decode cL_law 309 = .ok (.invokevirtual 29, 3) := q_o182 (a := 0) (b := 29) (by decide +kernel)
theorem dL_law_312 : decode cL_law 312 = .ok (.pop, 1) := q_o87 (by decide +kernel)
theorem dL_law_313 : decode cL_law 313 = .ok (.aload_n 2, 1) := q_o44 (by decide +kernel)
theorem dL_law_314 : decode cL_law 314 = .ok (.aload_n 0, 1) := q_o42 (by decide +kernel)
theorem dL_law_315 : decode cL_law 315 = .ok (.iload 4, 2) := q_o21 (a := 4) (by decide +kernel)
theorem dL_law_317 : decode cL_law 317 = .ok (.iconst 1, 1) := q_o4 (by decide +kernel)
theorem dL_law_318 : decode cL_law 318 = .ok (.iadd, 1) := q_o96 (by decide +kernel)
theorem dL_law_319 : decode cL_law 319 = .ok (.iaload, 1) := q_o46 (by decide +kernel)
theorem dL_law_320 : decode cL_law 320 = .ok (.invokevirtual 33, 3) := q_o182 (a := 0) (b := 33) (by decide +kernel)
theorem dL_law_323 : decode cL_law 323 = .ok (.pop, 1) := q_o87 (by decide +kernel)
theorem dL_law_324 : decode cL_law 324 = .ok (.goto 1020, 3) := q_o167 (a := 3) (b := 252) (by decide +kernel) rfl
theorem dL_law_352 : decode cL_law 352 = .ok (.aload_n 1, 1) := q_o43 (by decide +kernel)
theorem dL_law_353 : decode cL_law 353 = .ok (.aload_n 0, 1) := q_o42 (by decide +kernel)
theorem dL_law_354 : decode cL_law 354 = .ok (.iload 4, 2) := q_o21 (a := 4) (by decide +kernel)
theorem dL_law_356 : decode cL_law 356 = .ok (.iconst 1, 1) := q_o4 (by decide +kernel)
theorem dL_law_357 : decode cL_law 357 = .ok (.iadd, 1) := q_o96 (by decide +kernel)
theorem dL_law_358 : decode cL_law 358 = .ok (.iaload, 1) := q_o46 (by decide +kernel)
theorem dL_law_359 : decode cL_law 359 = .ok (.invokevirtual 38, 3) := q_o182 (a := 0) (b := 38) (by decide +kernel)
theorem dL_law_362 : decode cL_law 362 = .ok (.pop, 1) := q_o87 (by decide +kernel)
theorem dL_law_363 : decode cL_law 363 = .ok (.aload_n 2, 1) := q_o44 (by decide +kernel)
theorem dL_law_364 : decode cL_law 364 = .ok (.aload_n 0, 1) := q_o42 (by decide +kernel)
theorem dL_law_365 : decode cL_law 365 = .ok (.iload 4, 2) := q_o21 (a := 4) (by decide +kernel)
theorem dL_law_367 : decode cL_law 367 = .ok (.iconst 1, 1) := q_o4 (by decide +kernel)
theorem dL_law_368 : decode cL_law 368 = .ok (.iadd, 1) := q_o96 (by decide +kernel)
theorem dL_law_369 : decode cL_law 369 = .ok (.iaload, 1) := q_o46 (by decide +kernel)
theorem dL_law_370 : decode cL_law 370 = .ok (.invokevirtual 41, 3) := q_o182 (a := 0) (b := 41) (by decide +kernel)
theorem dL_law_373 : decode cL_law 373 = .ok (.pop, 1) := q_o87 (by decide +kernel)
theorem dL_law_374 : decode cL_law 374 = .ok (.goto 970, 3) := q_o167 (a := 3) (b := 202) (by decide +kernel) rfl
theorem dL_law_377 : decode cL_law 377 = .ok (.aload_n 1, 1) := q_o43 (by decide +kernel)
theorem dL_law_378 : decode cL_law 378 = .ok (.aload_n 0, 1) := q_o42 (by decide +kernel)
theorem dL_law_379 : decode cL_law 379 = .ok (.iload 4, 2) := q_o21 (a := 4) (by decide +kernel)
theorem dL_law_381 : decode cL_law 381 = .ok (.iconst 1, 1) := q_o4 (by decide +kernel)
theorem dL_law_382 : decode cL_law 382 = .ok (.iadd, 1) := q_o96 (by decide +kernel)
theorem dL_law_383 : decode cL_law 383 = .ok (.iaload, 1) := q_o46 (by decide +kernel)
theorem dL_law_384 : decode cL_law 384 = .ok (.aload_n 0, 1) := q_o42 (by decide +kernel)
theorem dL_law_385 : decode cL_law 385 = .ok (.iload 4, 2) := q_o21 (a := 4) (by decide +kernel)
theorem dL_law_387 : decode cL_law 387 = .ok (.iconst 2, 1) := q_o5 (by decide +kernel)
theorem dL_law_388 : decode cL_law 388 = .ok (.iadd, 1) := q_o96 (by decide +kernel)
theorem dL_law_389 : decode cL_law 389 = .ok (.iaload, 1) := q_o46 (by decide +kernel)
theorem dL_law_390 : decode cL_law 390 = .ok (.invokevirtual 42, 3) := q_o182 (a := 0) (b := 42) (by decide +kernel)
theorem dL_law_393 : decode cL_law 393 = .ok (.pop, 1) := q_o87 (by decide +kernel)
theorem dL_law_394 : decode cL_law 394 = .ok (.aload_n 2, 1) := q_o44 (by decide +kernel)
theorem dL_law_395 : decode cL_law 395 = .ok (.aload_n 0, 1) := q_o42 (by decide +kernel)
theorem dL_law_396 : decode cL_law 396 = .ok (.iload 4, 2) := q_o21 (a := 4) (by decide +kernel)
theorem dL_law_398 : decode cL_law 398 = .ok (.iconst 1, 1) := q_o4 (by decide +kernel)
theorem dL_law_399 : decode cL_law 399 = .ok (.iadd, 1) := q_o96 (by decide +kernel)
theorem dL_law_400 : decode cL_law 400 = .ok (.iaload, 1) := q_o46 (by decide +kernel)
theorem dL_law_401 : decode cL_law 401 = .ok (.aload_n 0, 1) := q_o42 (by decide +kernel)
theorem dL_law_402 : decode cL_law 402 = .ok (.iload 4, 2) := q_o21 (a := 4) (by decide +kernel)
theorem dL_law_404 : decode cL_law 404 = .ok (.iconst 2, 1) := q_o5 (by decide +kernel)
theorem dL_law_405 : decode cL_law 405 = .ok (.iadd, 1) := q_o96 (by decide +kernel)
theorem dL_law_406 : decode cL_law 406 = .ok (.iaload, 1) := q_o46 (by decide +kernel)
theorem dL_law_407 : decode cL_law 407 = .ok (.invokevirtual 45, 3) := q_o182 (a := 0) (b := 45) (by decide +kernel)
theorem dL_law_410 : decode cL_law 410 = .ok (.pop, 1) := q_o87 (by decide +kernel)
theorem dL_law_411 : decode cL_law 411 = .ok (.goto 933, 3) := q_o167 (a := 3) (b := 165) (by decide +kernel) rfl
theorem dL_law_414 : decode cL_law 414 = .ok (.aload_n 1, 1) := q_o43 (by decide +kernel)
theorem dL_law_415 : decode cL_law 415 = .ok (.aload_n 0, 1) := q_o42 (by decide +kernel)
theorem dL_law_416 : decode cL_law 416 = .ok (.iload 4, 2) := q_o21 (a := 4) (by decide +kernel)
theorem dL_law_418 : decode cL_law 418 = .ok (.iconst 1, 1) := q_o4 (by decide +kernel)
theorem dL_law_419 : decode cL_law 419 = .ok (.iadd, 1) := q_o96 (by decide +kernel)
theorem dL_law_420 : decode cL_law 420 = .ok (.iaload, 1) := q_o46 (by decide +kernel)
theorem dL_law_421 : decode cL_law 421 = .ok (.aload_n 0, 1) := q_o42 (by decide +kernel)
theorem dL_law_422 : decode cL_law 422 = .ok (.iload 4, 2) := q_o21 (a := 4) (by decide +kernel)
theorem dL_law_424 : decode cL_law 424 = .ok (.iconst 2, 1) := q_o5 (by decide +kernel)
theorem dL_law_425 : decode cL_law 425 = .ok (.iadd, 1) := q_o96 (by decide +kernel)
theorem dL_law_426 : decode cL_law 426 = .ok (.iaload, 1) := q_o46 (by decide +kernel)
theorem dL_law_427 : decode cL_law 427 = .ok (.aload_n 3, 1) := by decide +kernel
theorem dL_law_428 : decode cL_law 428 = .ok (.invokestatic 46, 3) := q_o184 (a := 0) (b := 46) (by decide +kernel)
theorem dL_law_431 : decode cL_law 431 = .ok (.istore 5, 2) := q_o54 (a := 5) (by decide +kernel)
theorem dL_law_433 : decode cL_law 433 = .ok (.aload_n 2, 1) := q_o44 (by decide +kernel)
theorem dL_law_434 : decode cL_law 434 = .ok (.aload_n 0, 1) := q_o42 (by decide +kernel)
theorem dL_law_435 : decode cL_law 435 = .ok (.iload 4, 2) := q_o21 (a := 4) (by decide +kernel)
theorem dL_law_437 : decode cL_law 437 = .ok (.iconst 1, 1) := q_o4 (by decide +kernel)
theorem dL_law_438 : decode cL_law 438 = .ok (.iadd, 1) := q_o96 (by decide +kernel)
theorem dL_law_439 : decode cL_law 439 = .ok (.iaload, 1) := q_o46 (by decide +kernel)
theorem dL_law_440 : decode cL_law 440 = .ok (.aload_n 0, 1) := q_o42 (by decide +kernel)
theorem dL_law_441 : decode cL_law 441 = .ok (.iload 4, 2) := q_o21 (a := 4) (by decide +kernel)
theorem dL_law_443 : decode cL_law 443 = .ok (.iconst 2, 1) := q_o5 (by decide +kernel)
theorem dL_law_444 : decode cL_law 444 = .ok (.iadd, 1) := q_o96 (by decide +kernel)
theorem dL_law_445 : decode cL_law 445 = .ok (.iaload, 1) := q_o46 (by decide +kernel)
theorem dL_law_446 : decode cL_law 446 = .ok (.invokevirtual 51, 3) := q_o182 (a := 0) (b := 51) (by decide +kernel)
theorem dL_law_449 : decode cL_law 449 = .ok (.istore 6, 2) := q_o54 (a := 6) (by decide +kernel)
theorem dL_law_451 : decode cL_law 451 = .ok (.goto 893, 3) := q_o167 (a := 3) (b := 125) (by decide +kernel) rfl
theorem dL_law_454 : decode cL_law 454 = .ok (.aload_n 1, 1) := q_o43 (by decide +kernel)
theorem dL_law_455 : decode cL_law 455 = .ok (.aload_n 0, 1) := q_o42 (by decide +kernel)
theorem dL_law_456 : decode cL_law 456 = .ok (.iload 4, 2) := q_o21 (a := 4) (by decide +kernel)
theorem dL_law_458 : decode cL_law 458 = .ok (.iconst 1, 1) := q_o4 (by decide +kernel)
theorem dL_law_459 : decode cL_law 459 = .ok (.iadd, 1) := q_o96 (by decide +kernel)
theorem dL_law_460 : decode cL_law 460 = .ok (.iaload, 1) := q_o46 (by decide +kernel)
theorem dL_law_461 : decode cL_law 461 = .ok (.aload_n 0, 1) := q_o42 (by decide +kernel)
theorem dL_law_462 : decode cL_law 462 = .ok (.iload 4, 2) := q_o21 (a := 4) (by decide +kernel)
theorem dL_law_464 : decode cL_law 464 = .ok (.iconst 2, 1) := q_o5 (by decide +kernel)
theorem dL_law_465 : decode cL_law 465 = .ok (.iadd, 1) := q_o96 (by decide +kernel)
theorem dL_law_466 : decode cL_law 466 = .ok (.iaload, 1) := q_o46 (by decide +kernel)
theorem dL_law_467 : decode cL_law 467 = .ok (.invokevirtual 52, 3) := q_o182 (a := 0) (b := 52) (by decide +kernel)
theorem dL_law_470 : decode cL_law 470 = .ok (.pop, 1) := q_o87 (by decide +kernel)
theorem dL_law_471 : decode cL_law 471 = .ok (.aload_n 2, 1) := q_o44 (by decide +kernel)
theorem dL_law_472 : decode cL_law 472 = .ok (.aload_n 0, 1) := q_o42 (by decide +kernel)
theorem dL_law_473 : decode cL_law 473 = .ok (.iload 4, 2) := q_o21 (a := 4) (by decide +kernel)
theorem dL_law_475 : decode cL_law 475 = .ok (.iconst 1, 1) := q_o4 (by decide +kernel)
theorem dL_law_476 : decode cL_law 476 = .ok (.iadd, 1) := q_o96 (by decide +kernel)
theorem dL_law_477 : decode cL_law 477 = .ok (.iaload, 1) := q_o46 (by decide +kernel)
theorem dL_law_478 : decode cL_law 478 = .ok (.aload_n 0, 1) := q_o42 (by decide +kernel)
theorem dL_law_479 : decode cL_law 479 = .ok (.iload 4, 2) := q_o21 (a := 4) (by decide +kernel)
theorem dL_law_481 : decode cL_law 481 = .ok (.iconst 2, 1) := q_o5 (by decide +kernel)
theorem dL_law_482 : decode cL_law 482 = .ok (.iadd, 1) := q_o96 (by decide +kernel)
theorem dL_law_483 : decode cL_law 483 = .ok (.iaload, 1) := q_o46 (by decide +kernel)
theorem dL_law_484 : decode cL_law 484 = .ok (.invokevirtual 55, 3) := q_o182 (a := 0) (b := 55) (by decide +kernel)
theorem dL_law_487 : decode cL_law 487 = .ok (.pop, 1) := q_o87 (by decide +kernel)
theorem dL_law_488 : decode cL_law 488 = .ok (.goto 856, 3) := q_o167 (a := 3) (b := 88) (by decide +kernel) rfl
theorem dL_law_491 : decode cL_law 491 = .ok (.aload_n 1, 1) := q_o43 (by decide +kernel)
theorem dL_law_492 : decode cL_law 492 = .ok (.aload_n 0, 1) := q_o42 (by decide +kernel)
theorem dL_law_493 : decode cL_law 493 = .ok (.iload 4, 2) := q_o21 (a := 4) (by decide +kernel)
theorem dL_law_495 : decode cL_law 495 = .ok (.iconst 1, 1) := q_o4 (by decide +kernel)
theorem dL_law_496 : decode cL_law 496 = .ok (.iadd, 1) := q_o96 (by decide +kernel)
theorem dL_law_497 : decode cL_law 497 = .ok (.iaload, 1) := q_o46 (by decide +kernel)
theorem dL_law_498 : decode cL_law 498 = .ok (.aload_n 0, 1) := q_o42 (by decide +kernel)
theorem dL_law_499 : decode cL_law 499 = .ok (.iload 4, 2) := q_o21 (a := 4) (by decide +kernel)
theorem dL_law_501 : decode cL_law 501 = .ok (.iconst 2, 1) := q_o5 (by decide +kernel)
theorem dL_law_502 : decode cL_law 502 = .ok (.iadd, 1) := q_o96 (by decide +kernel)
theorem dL_law_503 : decode cL_law 503 = .ok (.iaload, 1) := q_o46 (by decide +kernel)
theorem dL_law_504 : decode cL_law 504 = .ok (.invokevirtual 56, 3) := q_o182 (a := 0) (b := 56) (by decide +kernel)
theorem dL_law_507 : decode cL_law 507 = .ok (.pop, 1) := q_o87 (by decide +kernel)
theorem dL_law_508 : decode cL_law 508 = .ok (.aload_n 2, 1) := q_o44 (by decide +kernel)
theorem dL_law_509 : decode cL_law 509 = .ok (.aload_n 0, 1) := q_o42 (by decide +kernel)
theorem dL_law_510 : decode cL_law 510 = .ok (.iload 4, 2) := q_o21 (a := 4) (by decide +kernel)
theorem dL_law_512 : decode cL_law 512 = .ok (.iconst 1, 1) := q_o4 (by decide +kernel)
theorem dL_law_513 : decode cL_law 513 = .ok (.iadd, 1) := q_o96 (by decide +kernel)
theorem dL_law_514 : decode cL_law 514 = .ok (.iaload, 1) := q_o46 (by decide +kernel)
theorem dL_law_515 : decode cL_law 515 = .ok (.aload_n 0, 1) := q_o42 (by decide +kernel)
theorem dL_law_516 : decode cL_law 516 = .ok (.iload 4, 2) := q_o21 (a := 4) (by decide +kernel)
theorem dL_law_518 : decode cL_law 518 = .ok (.iconst 2, 1) := q_o5 (by decide +kernel)
theorem dL_law_519 : decode cL_law 519 = .ok (.iadd, 1) := q_o96 (by decide +kernel)
theorem dL_law_520 : decode cL_law 520 = .ok (.iaload, 1) := q_o46 (by decide +kernel)
theorem dL_law_521 : decode cL_law 521 = .ok (.invokevirtual 59, 3) := q_o182 (a := 0) (b := 59) (by decide +kernel)
theorem dL_law_524 : decode cL_law 524 = .ok (.pop, 1) := q_o87 (by decide +kernel)
theorem dL_law_525 : decode cL_law 525 = .ok (.goto 819, 3) := q_o167 (a := 3) (b := 51) (by decide +kernel) rfl
theorem dL_law_528 : decode cL_law 528 = .ok (.aload_n 1, 1) := q_o43 (by decide +kernel)
theorem dL_law_529 : decode cL_law 529 = .ok (.aload_n 0, 1) := q_o42 (by decide +kernel)
theorem dL_law_530 : decode cL_law 530 = .ok (.iload 4, 2) := q_o21 (a := 4) (by decide +kernel)
theorem dL_law_532 : decode cL_law 532 = .ok (.iconst 1, 1) := q_o4 (by decide +kernel)
theorem dL_law_533 : decode cL_law 533 = .ok (.iadd, 1) := q_o96 (by decide +kernel)
theorem dL_law_534 : decode cL_law 534 = .ok (.iaload, 1) := q_o46 (by decide +kernel)
theorem dL_law_535 : decode cL_law 535 = .ok (.aload_n 0, 1) := q_o42 (by decide +kernel)
theorem dL_law_536 : decode cL_law 536 = .ok (.iload 4, 2) := q_o21 (a := 4) (by decide +kernel)
theorem dL_law_538 : decode cL_law 538 = .ok (.iconst 2, 1) := q_o5 (by decide +kernel)
theorem dL_law_539 : decode cL_law 539 = .ok (.iadd, 1) := q_o96 (by decide +kernel)
theorem dL_law_540 : decode cL_law 540 = .ok (.iaload, 1) := q_o46 (by decide +kernel)
theorem dL_law_541 : decode cL_law 541 = .ok (.invokevirtual 60, 3) := q_o182 (a := 0) (b := 60) (by decide +kernel)
theorem dL_law_544 : decode cL_law 544 = .ok (.pop, 1) := q_o87 (by decide +kernel)
theorem dL_law_545 : decode cL_law 545 = .ok (.aload_n 2, 1) := q_o44 (by decide +kernel)
theorem dL_law_546 : decode cL_law 546 = .ok (.aload_n 0, 1) := q_o42 (by decide +kernel)
theorem dL_law_547 : decode cL_law 547 = .ok (.iload 4, 2) := q_o21 (a := 4) (by decide +kernel)
theorem dL_law_549 : decode cL_law 549 = .ok (.iconst 1, 1) := q_o4 (by decide +kernel)
theorem dL_law_550 : decode cL_law 550 = .ok (.iadd, 1) := q_o96 (by decide +kernel)
theorem dL_law_551 : decode cL_law 551 = .ok (.iaload, 1) := q_o46 (by decide +kernel)
theorem dL_law_552 : decode cL_law 552 = .ok (.aload_n 0, 1) := q_o42 (by decide +kernel)
theorem dL_law_553 : decode cL_law 553 = .ok (.iload 4, 2) := q_o21 (a := 4) (by decide +kernel)
theorem dL_law_555 : decode cL_law 555 = .ok (.iconst 2, 1) := q_o5 (by decide +kernel)
theorem dL_law_556 : decode cL_law 556 = .ok (.iadd, 1) := q_o96 (by decide +kernel)
theorem dL_law_557 : decode cL_law 557 = .ok (.iaload, 1) := q_o46 (by decide +kernel)
theorem dL_law_558 : decode cL_law 558 = .ok (.invokevirtual 63, 3) := q_o182 (a := 0) (b := 63) (by decide +kernel)
theorem dL_law_561 : decode cL_law 561 = .ok (.pop, 1) := q_o87 (by decide +kernel)
theorem dL_law_562 : decode cL_law 562 = .ok (.goto 782, 3) := q_o167 (a := 3) (b := 14) (by decide +kernel) rfl
theorem dL_law_565 : decode cL_law 565 = .ok (.aload_n 1, 1) := q_o43 (by decide +kernel)
theorem dL_law_566 : decode cL_law 566 = .ok (.aload_n 0, 1) := q_o42 (by decide +kernel)
theorem dL_law_567 : decode cL_law 567 = .ok (.iload 4, 2) := q_o21 (a := 4) (by decide +kernel)
theorem dL_law_569 : decode cL_law 569 = .ok (.iconst 1, 1) := q_o4 (by decide +kernel)
theorem dL_law_570 : decode cL_law 570 = .ok (.iadd, 1) := q_o96 (by decide +kernel)
theorem dL_law_571 : decode cL_law 571 = .ok (.iaload, 1) := q_o46 (by decide +kernel)
theorem dL_law_572 : decode cL_law 572 = .ok (.invokevirtual 64, 3) := q_o182 (a := 0) (b := 64) (by decide +kernel)
theorem dL_law_575 : decode cL_law 575 = .ok (.pop, 1) := q_o87 (by decide +kernel)
theorem dL_law_576 : decode cL_law 576 = .ok (.aload_n 2, 1) := q_o44 (by decide +kernel)
theorem dL_law_577 : decode cL_law 577 = .ok (.aload_n 0, 1) := q_o42 (by decide +kernel)
theorem dL_law_578 : decode cL_law 578 = .ok (.iload 4, 2) := q_o21 (a := 4) (by decide +kernel)
theorem dL_law_580 : decode cL_law 580 = .ok (.iconst 1, 1) := q_o4 (by decide +kernel)
theorem dL_law_581 : decode cL_law 581 = .ok (.iadd, 1) := q_o96 (by decide +kernel)
theorem dL_law_582 : decode cL_law 582 = .ok (.iaload, 1) := q_o46 (by decide +kernel)
theorem dL_law_583 : decode cL_law 583 = .ok (.invokevirtual 67, 3) := q_o182 (a := 0) (b := 67) (by decide +kernel)
theorem dL_law_586 : decode cL_law 586 = .ok (.pop, 1) := q_o87 (by decide +kernel)
theorem dL_law_587 : decode cL_law 587 = .ok (.goto 757, 3) := q_o167 (a := 2) (b := 245) (by decide +kernel) rfl
theorem dL_law_590 : decode cL_law 590 = .ok (.aload_n 1, 1) := q_o43 (by decide +kernel)
theorem dL_law_591 : decode cL_law 591 = .ok (.aload_n 0, 1) := q_o42 (by decide +kernel)
theorem dL_law_592 : decode cL_law 592 = .ok (.iload 4, 2) := q_o21 (a := 4) (by decide +kernel)
theorem dL_law_594 : decode cL_law 594 = .ok (.iconst 1, 1) := q_o4 (by decide +kernel)
theorem dL_law_595 : decode cL_law 595 = .ok (.iadd, 1) := q_o96 (by decide +kernel)
theorem dL_law_596 : decode cL_law 596 = .ok (.iaload, 1) := q_o46 (by decide +kernel)
theorem dL_law_597 : decode cL_law 597 = .ok (.invokevirtual 68, 3) := q_o182 (a := 0) (b := 68) (by decide +kernel)
theorem dL_law_600 : decode cL_law 600 = .ok (.pop, 1) := q_o87 (by decide +kernel)
theorem dL_law_601 : decode cL_law 601 = .ok (.aload_n 2, 1) := q_o44 (by decide +kernel)
theorem dL_law_602 : decode cL_law 602 = .ok (.aload_n 0, 1) := q_o42 (by decide +kernel)
theorem dL_law_603 : decode cL_law 603 = .ok (.iload 4, 2) := q_o21 (a := 4) (by decide +kernel)
theorem dL_law_605 : decode cL_law 605 = .ok (.iconst 1, 1) := q_o4 (by decide +kernel)
theorem dL_law_606 : decode cL_law 606 = .ok (.iadd, 1) := q_o96 (by decide +kernel)
theorem dL_law_607 : decode cL_law 607 = .ok (.iaload, 1) := q_o46 (by decide +kernel)
theorem dL_law_608 : decode cL_law 608 = .ok (.invokevirtual 71, 3) := q_o182 (a := 0) (b := 71) (by decide +kernel)
theorem dL_law_611 : decode cL_law 611 = .ok (.pop, 1) := q_o87 (by decide +kernel)
theorem dL_law_612 : decode cL_law 612 = .ok (.goto 732, 3) := q_o167 (a := 2) (b := 220) (by decide +kernel) rfl
theorem dL_law_615 : decode cL_law 615 = .ok (.aload_n 1, 1) := q_o43 (by decide +kernel)
theorem dL_law_616 : decode cL_law 616 = .ok (.aload_n 0, 1) := q_o42 (by decide +kernel)
theorem dL_law_617 : decode cL_law 617 = .ok (.iload 4, 2) := q_o21 (a := 4) (by decide +kernel)
theorem dL_law_619 : decode cL_law 619 = .ok (.iconst 1, 1) := q_o4 (by decide +kernel)
theorem dL_law_620 : decode cL_law 620 = .ok (.iadd, 1) := q_o96 (by decide +kernel)
theorem dL_law_621 : decode cL_law 621 = .ok (.iaload, 1) := q_o46 (by decide +kernel)
theorem dL_law_622 : decode cL_law 622 = .ok (.aload_n 0, 1) := q_o42 (by decide +kernel)
theorem dL_law_623 : decode cL_law 623 = .ok (.iload 4, 2) := q_o21 (a := 4) (by decide +kernel)
theorem dL_law_625 : decode cL_law 625 = .ok (.iconst 2, 1) := q_o5 (by decide +kernel)
theorem dL_law_626 : decode cL_law 626 = .ok (.iadd, 1) := q_o96 (by decide +kernel)
theorem dL_law_627 : decode cL_law 627 = .ok (.iaload, 1) := q_o46 (by decide +kernel)
theorem dL_law_628 : decode cL_law 628 = .ok (.aload_n 0, 1) := q_o42 (by decide +kernel)
theorem dL_law_629 : decode cL_law 629 = .ok (.iload 4, 2) := q_o21 (a := 4) (by decide +kernel)
theorem dL_law_631 : decode cL_law 631 = .ok (.iconst 3, 1) := q_o6 (by decide +kernel)
theorem dL_law_632 : decode cL_law 632 = .ok (.iadd, 1) := q_o96 (by decide +kernel)
theorem dL_law_633 : decode cL_law 633 = .ok (.iaload, 1) := q_o46 (by decide +kernel)
theorem dL_law_634 : decode cL_law 634 = .ok (.invokevirtual 72, 3) := q_o182 (a := 0) (b := 72) (by decide +kernel)
theorem dL_law_637 : decode cL_law 637 = .ok (.pop, 1) := q_o87 (by decide +kernel)
theorem dL_law_638 : decode cL_law 638 = .ok (.aload_n 2, 1) := q_o44 (by decide +kernel)
theorem dL_law_639 : decode cL_law 639 = .ok (.aload_n 0, 1) := q_o42 (by decide +kernel)
theorem dL_law_640 : decode cL_law 640 = .ok (.iload 4, 2) := q_o21 (a := 4) (by decide +kernel)
theorem dL_law_642 : decode cL_law 642 = .ok (.iconst 1, 1) := q_o4 (by decide +kernel)
theorem dL_law_643 : decode cL_law 643 = .ok (.iadd, 1) := q_o96 (by decide +kernel)
theorem dL_law_644 : decode cL_law 644 = .ok (.iaload, 1) := q_o46 (by decide +kernel)
theorem dL_law_645 : decode cL_law 645 = .ok (.aload_n 0, 1) := q_o42 (by decide +kernel)
theorem dL_law_646 : decode cL_law 646 = .ok (.iload 4, 2) := q_o21 (a := 4) (by decide +kernel)
theorem dL_law_648 : decode cL_law 648 = .ok (.iconst 2, 1) := q_o5 (by decide +kernel)
theorem dL_law_649 : decode cL_law 649 = .ok (.iadd, 1) := q_o96 (by decide +kernel)
theorem dL_law_650 : decode cL_law 650 = .ok (.iaload, 1) := q_o46 (by decide +kernel)
theorem dL_law_651 : decode cL_law 651 = .ok (.aload_n 0, 1) := q_o42 (by decide +kernel)
theorem dL_law_652 : decode cL_law 652 = .ok (.iload 4, 2) := q_o21 (a := 4) (by decide +kernel)
theorem dL_law_654 : decode cL_law 654 = .ok (.iconst 3, 1) := q_o6 (by decide +kernel)
theorem dL_law_655 : decode cL_law 655 = .ok (.iadd, 1) := q_o96 (by decide +kernel)
theorem dL_law_656 : decode cL_law 656 = .ok (.iaload, 1) := q_o46 (by decide +kernel)
theorem dL_law_657 : decode cL_law 657 = .ok (.invokevirtual 76, 3) := q_o182 (a := 0) (b := 76) (by decide +kernel)
theorem dL_law_660 : decode cL_law 660 = .ok (.pop, 1) := q_o87 (by decide +kernel)
theorem dL_law_661 : decode cL_law 661 = .ok (.goto 683, 3) := q_o167 (a := 2) (b := 171) (by decide +kernel) rfl
theorem hdV_yX10_at_1 : yX10_at.cls = RX10 ∧ yX10_at.cls ≠ "java/lang/invoke/MethodHandle" ∧ yX10_at.cls ≠ "java/lang/invoke/VarHandle" ∧ (parseMethodDescriptor yX10_at.desc).map (fun d => d.parameters.length) = some 1 := by decide +kernel
theorem hdV_yX10_device_2 : yX10_device.cls = RX10 ∧ yX10_device.cls ≠ "java/lang/invoke/MethodHandle" ∧ yX10_device.cls ≠ "java/lang/invoke/VarHandle" ∧ (parseMethodDescriptor yX10_device.desc).map (fun d => d.parameters.length) = some 2 := by decide +kernel
theorem hdV_yX10_end_1 : yX10_end.cls = RX10 ∧ yX10_end.cls ≠ "java/lang/invoke/MethodHandle" ∧ yX10_end.cls ≠ "java/lang/invoke/VarHandle" ∧ (parseMethodDescriptor yX10_end.desc).map (fun d => d.parameters.length) = some 1 := by decide +kernel
theorem hdV_yX10_fault_1 : yX10_fault.cls = RX10 ∧ yX10_fault.cls ≠ "java/lang/invoke/MethodHandle" ∧ yX10_fault.cls ≠ "java/lang/invoke/VarHandle" ∧ (parseMethodDescriptor yX10_fault.desc).map (fun d => d.parameters.length) = some 1 := by decide +kernel
theorem hdV_yX10_feed_5 : yX10_feed.cls = RX10 ∧ yX10_feed.cls ≠ "java/lang/invoke/MethodHandle" ∧ yX10_feed.cls ≠ "java/lang/invoke/VarHandle" ∧ (parseMethodDescriptor yX10_feed.desc).map (fun d => d.parameters.length) = some 5 := by decide +kernel
theorem hdV_yX10_helper_1 : yX10_helper.cls = RX10 ∧ yX10_helper.cls ≠ "java/lang/invoke/MethodHandle" ∧ yX10_helper.cls ≠ "java/lang/invoke/VarHandle" ∧ (parseMethodDescriptor yX10_helper.desc).map (fun d => d.parameters.length) = some 1 := by decide +kernel
theorem hdV_yX10_hub_2 : yX10_hub.cls = RX10 ∧ yX10_hub.cls ≠ "java/lang/invoke/MethodHandle" ∧ yX10_hub.cls ≠ "java/lang/invoke/VarHandle" ∧ (parseMethodDescriptor yX10_hub.desc).map (fun d => d.parameters.length) = some 2 := by decide +kernel
theorem hdV_yX10_octet_2 : yX10_octet.cls = RX10 ∧ yX10_octet.cls ≠ "java/lang/invoke/MethodHandle" ∧ yX10_octet.cls ≠ "java/lang/invoke/VarHandle" ∧ (parseMethodDescriptor yX10_octet.desc).map (fun d => d.parameters.length) = some 2 := by decide +kernel
theorem hdV_yX10_plug_3 : yX10_plug.cls = RX10 ∧ yX10_plug.cls ≠ "java/lang/invoke/MethodHandle" ∧ yX10_plug.cls ≠ "java/lang/invoke/VarHandle" ∧ (parseMethodDescriptor yX10_plug.desc).map (fun d => d.parameters.length) = some 3 := by decide +kernel
theorem hdV_yX10_port_2 : yX10_port.cls = RX10 ∧ yX10_port.cls ≠ "java/lang/invoke/MethodHandle" ∧ yX10_port.cls ≠ "java/lang/invoke/VarHandle" ∧ (parseMethodDescriptor yX10_port.desc).map (fun d => d.parameters.length) = some 2 := by decide +kernel
theorem hdV_yX10_rule_1 : yX10_rule.cls = RX10 ∧ yX10_rule.cls ≠ "java/lang/invoke/MethodHandle" ∧ yX10_rule.cls ≠ "java/lang/invoke/VarHandle" ∧ (parseMethodDescriptor yX10_rule.desc).map (fun d => d.parameters.length) = some 1 := by decide +kernel
theorem hdV_yX10_told_2 : yX10_told.cls = RX10 ∧ yX10_told.cls ≠ "java/lang/invoke/MethodHandle" ∧ yX10_told.cls ≠ "java/lang/invoke/VarHandle" ∧ (parseMethodDescriptor yX10_told.desc).map (fun d => d.parameters.length) = some 2 := by decide +kernel
theorem hdV_yX9_at_1 : yX9_at.cls = RX9 ∧ yX9_at.cls ≠ "java/lang/invoke/MethodHandle" ∧ yX9_at.cls ≠ "java/lang/invoke/VarHandle" ∧ (parseMethodDescriptor yX9_at.desc).map (fun d => d.parameters.length) = some 1 := by decide +kernel
theorem hdV_yX9_end_1 : yX9_end.cls = RX9 ∧ yX9_end.cls ≠ "java/lang/invoke/MethodHandle" ∧ yX9_end.cls ≠ "java/lang/invoke/VarHandle" ∧ (parseMethodDescriptor yX9_end.desc).map (fun d => d.parameters.length) = some 1 := by decide +kernel
theorem hdV_yX9_fault_1 : yX9_fault.cls = RX9 ∧ yX9_fault.cls ≠ "java/lang/invoke/MethodHandle" ∧ yX9_fault.cls ≠ "java/lang/invoke/VarHandle" ∧ (parseMethodDescriptor yX9_fault.desc).map (fun d => d.parameters.length) = some 1 := by decide +kernel
theorem hdV_yX9_feed_5 : yX9_feed.cls = RX9 ∧ yX9_feed.cls ≠ "java/lang/invoke/MethodHandle" ∧ yX9_feed.cls ≠ "java/lang/invoke/VarHandle" ∧ (parseMethodDescriptor yX9_feed.desc).map (fun d => d.parameters.length) = some 5 := by decide +kernel
theorem hdV_yX9_helper_1 : yX9_helper.cls = RX9 ∧ yX9_helper.cls ≠ "java/lang/invoke/MethodHandle" ∧ yX9_helper.cls ≠ "java/lang/invoke/VarHandle" ∧ (parseMethodDescriptor yX9_helper.desc).map (fun d => d.parameters.length) = some 1 := by decide +kernel
theorem hdV_yX9_hub_2 : yX9_hub.cls = RX9 ∧ yX9_hub.cls ≠ "java/lang/invoke/MethodHandle" ∧ yX9_hub.cls ≠ "java/lang/invoke/VarHandle" ∧ (parseMethodDescriptor yX9_hub.desc).map (fun d => d.parameters.length) = some 2 := by decide +kernel
theorem hdV_yX9_octet_2 : yX9_octet.cls = RX9 ∧ yX9_octet.cls ≠ "java/lang/invoke/MethodHandle" ∧ yX9_octet.cls ≠ "java/lang/invoke/VarHandle" ∧ (parseMethodDescriptor yX9_octet.desc).map (fun d => d.parameters.length) = some 2 := by decide +kernel
theorem hdV_yX9_plug_3 : yX9_plug.cls = RX9 ∧ yX9_plug.cls ≠ "java/lang/invoke/MethodHandle" ∧ yX9_plug.cls ≠ "java/lang/invoke/VarHandle" ∧ (parseMethodDescriptor yX9_plug.desc).map (fun d => d.parameters.length) = some 3 := by decide +kernel
theorem hdV_yX9_port_2 : yX9_port.cls = RX9 ∧ yX9_port.cls ≠ "java/lang/invoke/MethodHandle" ∧ yX9_port.cls ≠ "java/lang/invoke/VarHandle" ∧ (parseMethodDescriptor yX9_port.desc).map (fun d => d.parameters.length) = some 2 := by decide +kernel
theorem hdV_yX9_rule_1 : yX9_rule.cls = RX9 ∧ yX9_rule.cls ≠ "java/lang/invoke/MethodHandle" ∧ yX9_rule.cls ≠ "java/lang/invoke/VarHandle" ∧ (parseMethodDescriptor yX9_rule.desc).map (fun d => d.parameters.length) = some 1 := by decide +kernel
theorem hdV_yX9_told_2 : yX9_told.cls = RX9 ∧ yX9_told.cls ≠ "java/lang/invoke/MethodHandle" ∧ yX9_told.cls ≠ "java/lang/invoke/VarHandle" ∧ (parseMethodDescriptor yX9_told.desc).map (fun d => d.parameters.length) = some 2 := by decide +kernel
set_option maxHeartbeats 4000000 in
set_option maxRecDepth 100000 in
theorem lw_case_0 {p : Program} {l : Launch} {e : Env} {s : State} {m : MethodId} {below : List Frame} {meth : Method} {c : Code} {dC : Nat → ClassId} {dI : Nat → Nat → Nat} {b L : Nat} {xs : Nat → Int32} (C0 : lw_At p s m meth c b L xs) (ts ks kv : Nat → Nat) (sa : Nat) (hE : q_S ts ks kv (fun q : Nat => s.heap.size ≤ q) s) (hEX : q_X sa s) (hlt : l.stackTraces = false) {a : Nat → Nat} {k : Nat → ClassId} {bm : Nat → Nat} {km : Nat → ClassId} {q3 : Nat} {k3 : ClassId} {j : Nat} (hj : 6 * j + 6 ≤ L) (hL : L ≤ 3072) {z : Nat → Int32} (hz : ∀ q, z q = xs (6 * j + q)) {x y : XS} {p1 p2 : Int32 × XS} (h1 : SX_0 x z = some p1) (h2 : SY_0 y z = some p2) {fo : Nat → Int64} {H : Heap} {locs : List Loc} {ls : Array Slot} (hK : va_K (dC, dI) vwCl (lw_T k km k3) s) (hP : va_P (dC, dI) vwCl (lw_W a k bm km q3 k3 x y fo) H) (hD : va_D (fun q : Nat => s.heap.size ≤ q) (lw_W a k bm km q3 k3 x y fo)) (hS : va_S (fun q : Nat => s.heap.size ≤ q) s.heap H locs) (hl : lv_has ls 7 [(4, .int (nI (6 * j))), (3, .ref q3), (2, .ref (bm 0)), (1, .ref (a 0)), (0, .ref b)]) (kont : ∀ (fo : Nat → Int64) (H : Heap) (locs : List Loc) (ls : Array Slot), va_P (dC, dI) vwCl (lw_W a k bm km q3 k3 p1.2 p2.2 fo) H → va_D (fun q : Nat => s.heap.size ≤ q) (lw_W a k bm km q3 k3 p1.2 p2.2 fo) → va_S (fun q : Nat => s.heap.size ≤ q) s.heap H locs → lv_has ls 7 [(4, .int (nI (6 * j))), (3, .ref q3), (2, .ref (bm 0)), (1, .ref (a 0)), (0, .ref b)] → W p l e room_1 s m #[Value.ref b] below meth c H locs (45 + j + 1) (18169 + 6 * j + 6) (lw_Z below #[Value.ref b] s) (F0 m 1344 ls [])) : W p l e room_1 s m #[Value.ref b] below meth c H locs (45 + j) (18169 + 6 * j) (lw_Z below #[Value.ref b] s) (F0 m 204 ls []) := by
  obtain ⟨hx, hb, hr, hml, hown, hts, hX, hbl, hlocks, hgv⟩ := C0
  have hown : s.vm.findClass RL = some m.cls := hown
  have hA : ∀ q : Nat, s.heap.size ≤ q → (fun q : Nat => s.heap.size ≤ q) q := fun _ h => h
  have hbA : ¬ (fun q : Nat => s.heap.size ≤ q) b := Nat.not_le.mpr hbl
  unfold SX_0 at h1
  unfold SY_0 at h2
  obtain ⟨o1, hF1, h1⟩ := q_bi h1
  have hp1 := Option.some.inj h1
  obtain ⟨o2, hF2, h2⟩ := q_bi h2
  have hp2 := Option.some.inj h2
  refine lv_aload_n hx hb dL_law_204 rfl (lv_at hl 3 rfl) ?_
  refine lv_aload_n hx hb dL_law_205 rfl (lv_at hl 4 rfl) ?_
  refine lv_iload hx hb dL_law_206 (lv_at hl 0 rfl) ?_
  refine lv_iconst (v := 1) hx hb dL_law_208 (by decide) ?_
  refine lv_iadd hx hb dL_law_209 ?_
  refine q_top (y := nI (6 * j + 1)) (nI_add (6 * j) 1) ?_
  refine va_sld hx hb hX hbl hbA hS (i := (nI (6 * j + 1))) (vp_in_nI (by omega) (by omega)) dL_law_210 ?_
  refine q_top (y := z 1) (by rw [nI_clamp (by omega), hz]) ?_
  refine lv_aload_n hx hb dL_law_211 rfl (lv_at hl 4 rfl) ?_
  refine lv_iload hx hb dL_law_212 (lv_at hl 0 rfl) ?_
  refine lv_iconst (v := 2) hx hb dL_law_214 (by decide) ?_
  refine lv_iadd hx hb dL_law_215 ?_
  refine q_top (y := nI (6 * j + 2)) (nI_add (6 * j) 2) ?_
  refine va_sld hx hb hX hbl hbA hS (i := (nI (6 * j + 2))) (vp_in_nI (by omega) (by omega)) dL_law_216 ?_
  refine q_top (y := z 2) (by rw [nI_clamp (by omega), hz]) ?_
  refine lv_aload_n hx hb dL_law_217 rfl (lv_at hl 4 rfl) ?_
  refine lv_iload hx hb dL_law_218 (lv_at hl 0 rfl) ?_
  refine lv_iconst (v := 3) hx hb dL_law_220 (by decide) ?_
  refine lv_iadd hx hb dL_law_221 ?_
  refine q_top (y := nI (6 * j + 3)) (nI_add (6 * j) 3) ?_
  refine va_sld hx hb hX hbl hbA hS (i := (nI (6 * j + 3))) (vp_in_nI (by omega) (by omega)) dL_law_222 ?_
  refine q_top (y := z 3) (by rw [nI_clamp (by omega), hz]) ?_
  refine lv_aload_n hx hb dL_law_223 rfl (lv_at hl 4 rfl) ?_
  refine lv_iload hx hb dL_law_224 (lv_at hl 0 rfl) ?_
  refine lv_iconst (v := 4) hx hb dL_law_226 (by decide) ?_
  refine lv_iadd hx hb dL_law_227 ?_
  refine q_top (y := nI (6 * j + 4)) (nI_add (6 * j) 4) ?_
  refine va_sld hx hb hX hbl hbA hS (i := (nI (6 * j + 4))) (vp_in_nI (by omega) (by omega)) dL_law_228 ?_
  refine q_top (y := z 4) (by rw [nI_clamp (by omega), hz]) ?_
  refine lv_aload_n hx hb dL_law_229 rfl (lv_at hl 4 rfl) ?_
  refine lv_iload hx hb dL_law_230 (lv_at hl 0 rfl) ?_
  refine lv_iconst (v := 5) hx hb dL_law_232 (by decide) ?_
  refine lv_iadd hx hb dL_law_233 ?_
  refine q_top (y := nI (6 * j + 5)) (nI_add (6 * j) 5) ?_
  refine va_sld hx hb hX hbl hbA hS (i := (nI (6 * j + 5))) (vp_in_nI (by omega) (by omega)) dL_law_234 ?_
  refine q_top (y := z 5) (by rw [nI_clamp (by omega), hz]) ?_
  have qxa2 : p1.2.1 2 = o1.2.2 := by rw [← hp1]; try rfl
  have qxa5 : p1.2.1 5 = x.1 5 := by rw [← hp1]; try rfl
  have qxa6 : p1.2.1 6 = x.1 6 := by rw [← hp1]; try rfl
  have qxa8 : p1.2.1 8 = x.1 8 := by rw [← hp1]; try rfl
  have qxa9 : p1.2.1 9 = x.1 9 := by rw [← hp1]; try rfl
  have qxa11 : p1.2.1 11 = x.1 11 := by rw [← hp1]; try rfl
  have qxa12 : p1.2.1 12 = x.1 12 := by rw [← hp1]; try rfl
  have qxa13 : p1.2.1 13 = x.1 13 := by rw [← hp1]; try rfl
  have qxa15 : p1.2.1 15 = x.1 15 := by rw [← hp1]; try rfl
  have qxa17 : p1.2.1 17 = x.1 17 := by rw [← hp1]; try rfl
  have qxa20 : p1.2.1 20 = x.1 20 := by rw [← hp1]; try rfl
  have qxa22 : p1.2.1 22 = x.1 22 := by rw [← hp1]; try rfl
  have qxa24 : p1.2.1 24 = x.1 24 := by rw [← hp1]; try rfl
  have qxa26 : p1.2.1 26 = x.1 26 := by rw [← hp1]; try rfl
  have qxa28 : p1.2.1 28 = x.1 28 := by rw [← hp1]; try rfl
  have qxi0 : p1.2.2.1 0 = o1.2.1 := by rw [← hp1]; try rfl
  have qxi1 : p1.2.2.1 1 = x.2.1 1 := by rw [← hp1]; try rfl
  have qxi2 : p1.2.2.1 2 = x.2.1 2 := by rw [← hp1]; try rfl
  have qxi3 : p1.2.2.1 3 = x.2.1 3 := by rw [← hp1]; try rfl
  have qxi4 : p1.2.2.1 4 = x.2.1 4 := by rw [← hp1]; try rfl
  have qxi5 : p1.2.2.1 5 = x.2.1 5 := by rw [← hp1]; try rfl
  have qxi6 : p1.2.2.1 6 = x.2.1 6 := by rw [← hp1]; try rfl
  have qxi7 : p1.2.2.1 7 = x.2.1 7 := by rw [← hp1]; try rfl
  have qxi8 : p1.2.2.1 8 = x.2.1 8 := by rw [← hp1]; try rfl
  have qxi9 : p1.2.2.1 9 = x.2.1 9 := by rw [← hp1]; try rfl
  have qxi10 : p1.2.2.1 10 = x.2.1 10 := by rw [← hp1]; try rfl
  have qxi11 : p1.2.2.1 11 = x.2.1 11 := by rw [← hp1]; try rfl
  have qxl : p1.2.2.2 = x.2.2 := by rw [← hp1]; try rfl
  refine q_goi5 (v := o1.1) (lw_W a k bm km q3 k3 p1.2 y fo) [some 0, some 1, some 2, none, none, none, none, none, none, none, none, none, none, none, none, none, none, none, none, none, none, none, none, none, none, none, none, none, none, none, none, none, none, none, none, none, none, none, none, none, none, none, none, none, none] (va_runV (As := [.int (z 1), .int (z 2), .int (z 3), .int (z 4), .int (z 5)]) (rest := []) ⟨hx, hb, hml, hown, hts⟩ (c_X9_feed l dC dI a k (x.2.1 0) (x.2.1 11) (x.1 2) (z 1) (z 2) (z 3) (z 4) (z 5) (va_A [((a 0), .inr (9, [.ref (a 1), .ref (a 3), .ref (a 4), .ref (a 7), .ref (a 10), .ref (a 14), .ref (a 16), .ref (a 18), .ref (a 19), .ref (a 21), .ref (a 23), .ref (a 25), .ref (a 27), .ref (a 28), .int (x.2.1 11)])), ((a 1), .inr (8, [.ref (a 2), .int (x.2.1 0)])), ((a 2), .inl ((k 2), 240, .inl (x.1 2)))] H.size) o1 hF1) (cwV 5 hts (q_lV m_129 m_130 m_131 m_2 m_132) rfl rfl rfl hdV_yX9_feed_5 ⟨Nat.le_of_ble_eq_true rfl, Nat.le_of_ble_eq_true rfl⟩) (q_preWV hK hP hD (q := (RX9, TX9, 15)) (ci := 9) (q0 := 0) rfl rfl [0, 1, 2] (by decide) rfl rfl [0] rfl) rfl rfl hl.1 rfl (lv_room (Nat.le_of_ble_eq_true rfl)) dL_law_235 ⟨by show 45 + j + 0 ≤ 1070; omega, by show 18169 + 6 * j + 0 ≤ 26367; omega⟩) hP hD hS hA [0, 1, 2] rfl (by unfold lw_W; simp only [qxa2, qxa5, qxa6, qxa8, qxa9, qxa11, qxa12, qxa13, qxa15, qxa17, qxa20, qxa22, qxa24, qxa26, qxa28, qxi0, qxi1, qxi2, qxi3, qxi4, qxi5, qxi6, qxi7, qxi8, qxi9, qxi10, qxi11, qxl]; rfl) rfl (by decide) (fun H locs hP hD hS => ?_)
  refine lv_pop hx hb dL_law_238 rfl ?_
  refine lv_aload_n hx hb dL_law_239 rfl (lv_at hl 2 rfl) ?_
  refine lv_aload_n hx hb dL_law_240 rfl (lv_at hl 4 rfl) ?_
  refine lv_iload hx hb dL_law_241 (lv_at hl 0 rfl) ?_
  refine lv_iconst (v := 1) hx hb dL_law_243 (by decide) ?_
  refine lv_iadd hx hb dL_law_244 ?_
  refine q_top (y := nI (6 * j + 1)) (nI_add (6 * j) 1) ?_
  refine va_sld hx hb hX hbl hbA hS (i := (nI (6 * j + 1))) (vp_in_nI (by omega) (by omega)) dL_law_245 ?_
  refine q_top (y := z 1) (by rw [nI_clamp (by omega), hz]) ?_
  refine lv_aload_n hx hb dL_law_246 rfl (lv_at hl 4 rfl) ?_
  refine lv_iload hx hb dL_law_247 (lv_at hl 0 rfl) ?_
  refine lv_iconst (v := 2) hx hb dL_law_249 (by decide) ?_
  refine lv_iadd hx hb dL_law_250 ?_
  refine q_top (y := nI (6 * j + 2)) (nI_add (6 * j) 2) ?_
  refine va_sld hx hb hX hbl hbA hS (i := (nI (6 * j + 2))) (vp_in_nI (by omega) (by omega)) dL_law_251 ?_
  refine q_top (y := z 2) (by rw [nI_clamp (by omega), hz]) ?_
  refine lv_aload_n hx hb dL_law_252 rfl (lv_at hl 4 rfl) ?_
  refine lv_iload hx hb dL_law_253 (lv_at hl 0 rfl) ?_
  refine lv_iconst (v := 3) hx hb dL_law_255 (by decide) ?_
  refine lv_iadd hx hb dL_law_256 ?_
  refine q_top (y := nI (6 * j + 3)) (nI_add (6 * j) 3) ?_
  refine va_sld hx hb hX hbl hbA hS (i := (nI (6 * j + 3))) (vp_in_nI (by omega) (by omega)) dL_law_257 ?_
  refine q_top (y := z 3) (by rw [nI_clamp (by omega), hz]) ?_
  refine lv_aload_n hx hb dL_law_258 rfl (lv_at hl 4 rfl) ?_
  refine lv_iload hx hb dL_law_259 (lv_at hl 0 rfl) ?_
  refine lv_iconst (v := 4) hx hb dL_law_261 (by decide) ?_
  refine lv_iadd hx hb dL_law_262 ?_
  refine q_top (y := nI (6 * j + 4)) (nI_add (6 * j) 4) ?_
  refine va_sld hx hb hX hbl hbA hS (i := (nI (6 * j + 4))) (vp_in_nI (by omega) (by omega)) dL_law_263 ?_
  refine q_top (y := z 4) (by rw [nI_clamp (by omega), hz]) ?_
  refine lv_aload_n hx hb dL_law_264 rfl (lv_at hl 4 rfl) ?_
  refine lv_iload hx hb dL_law_265 (lv_at hl 0 rfl) ?_
  refine lv_iconst (v := 5) hx hb dL_law_267 (by decide) ?_
  refine lv_iadd hx hb dL_law_268 ?_
  refine q_top (y := nI (6 * j + 5)) (nI_add (6 * j) 5) ?_
  refine va_sld hx hb hX hbl hbA hS (i := (nI (6 * j + 5))) (vp_in_nI (by omega) (by omega)) dL_law_269 ?_
  refine q_top (y := z 5) (by rw [nI_clamp (by omega), hz]) ?_
  have qya1 : p2.2.1 1 = o2.2.2 := by rw [← hp2]; try rfl
  have qya2 : p2.2.1 2 = y.1 2 := by rw [← hp2]; try rfl
  have qya3 : p2.2.1 3 = y.1 3 := by rw [← hp2]; try rfl
  have qya4 : p2.2.1 4 = y.1 4 := by rw [← hp2]; try rfl
  have qya5 : p2.2.1 5 = y.1 5 := by rw [← hp2]; try rfl
  have qya6 : p2.2.1 6 = y.1 6 := by rw [← hp2]; try rfl
  have qya7 : p2.2.1 7 = y.1 7 := by rw [← hp2]; try rfl
  have qya8 : p2.2.1 8 = y.1 8 := by rw [← hp2]; try rfl
  have qya9 : p2.2.1 9 = y.1 9 := by rw [← hp2]; try rfl
  have qya10 : p2.2.1 10 = y.1 10 := by rw [← hp2]; try rfl
  have qya11 : p2.2.1 11 = y.1 11 := by rw [← hp2]; try rfl
  have qya12 : p2.2.1 12 = y.1 12 := by rw [← hp2]; try rfl
  have qya13 : p2.2.1 13 = y.1 13 := by rw [← hp2]; try rfl
  have qya14 : p2.2.1 14 = y.1 14 := by rw [← hp2]; try rfl
  have qyi0 : p2.2.2.1 0 = y.2.1 0 := by rw [← hp2]; try rfl
  have qyi1 : p2.2.2.1 1 = o2.2.1 := by rw [← hp2]; try rfl
  have qyi2 : p2.2.2.1 2 = y.2.1 2 := by rw [← hp2]; try rfl
  have qyi3 : p2.2.2.1 3 = y.2.1 3 := by rw [← hp2]; try rfl
  have qyi4 : p2.2.2.1 4 = y.2.1 4 := by rw [← hp2]; try rfl
  have qyi5 : p2.2.2.1 5 = y.2.1 5 := by rw [← hp2]; try rfl
  have qyi6 : p2.2.2.1 6 = y.2.1 6 := by rw [← hp2]; try rfl
  have qyi7 : p2.2.2.1 7 = y.2.1 7 := by rw [← hp2]; try rfl
  have qyi8 : p2.2.2.1 8 = y.2.1 8 := by rw [← hp2]; try rfl
  have qyl : p2.2.2.2 = y.2.2 := by rw [← hp2]; try rfl
  refine q_goi5 (v := o2.1) (lw_W a k bm km q3 k3 p1.2 p2.2 fo) [none, none, none, none, none, none, none, none, none, none, none, none, none, none, none, none, none, none, none, none, none, none, none, none, none, none, none, none, none, some 0, some 1, none, none, none, none, none, none, none, none, none, none, none, none, none, none] (va_runV (As := [.int (z 1), .int (z 2), .int (z 3), .int (z 4), .int (z 5)]) (rest := []) ⟨hx, hb, hml, hown, hts⟩ (c_X10_feed l dC dI bm km (y.2.1 0) (y.2.1 1) (y.2.1 2) (y.2.1 3) (y.2.1 4) (y.2.1 5) (y.2.1 6) (y.2.1 7) (y.2.1 8) (y.2.2) (y.1 1) (z 1) (z 2) (z 3) (z 4) (z 5) (va_A [((bm 0), .inr (10, [.int (y.2.1 0), .ref (bm 1), .int (y.2.1 1), .int (y.2.1 2), .int (y.2.1 3), .ref (bm 2), .ref (bm 3), .int (y.2.1 4), .ref (bm 4), .ref (bm 5), .int (y.2.1 5), .ref (bm 6), .ref (bm 7), .int (y.2.1 6), .ref (bm 8), .ref (bm 9), .ref (bm 10), .int (y.2.1 7), .long (y.2.2), .ref (bm 11), .ref (bm 12), .ref (bm 13), .ref (bm 14), .int (y.2.1 8)])), ((bm 1), .inl ((km 1), 240, .inl (y.1 1)))] H.size) o2 hF2) (cwV 5 hts (q_lV m_141 m_142 m_143 m_5 m_144) rfl rfl rfl hdV_yX10_feed_5 ⟨Nat.le_of_ble_eq_true rfl, Nat.le_of_ble_eq_true rfl⟩) (q_preWV hK hP hD (q := (RX10, TX10, 24)) (ci := 10) (q0 := 29) rfl rfl [29, 30] (by decide) rfl rfl [15] rfl) rfl rfl hl.1 rfl (lv_room (Nat.le_of_ble_eq_true rfl)) dL_law_270 ⟨by show 45 + j + 0 ≤ 1070; omega, by show 18169 + 6 * j + 0 ≤ 26367; omega⟩) hP hD hS hA [29, 30] rfl (by unfold lw_W; simp only [qya1, qya2, qya3, qya4, qya5, qya6, qya7, qya8, qya9, qya10, qya11, qya12, qya13, qya14, qyi0, qyi1, qyi2, qyi3, qyi4, qyi5, qyi6, qyi7, qyi8, qyl]; rfl) rfl (by decide) (fun H locs hP hD hS => ?_)
  refine lv_pop hx hb dL_law_273 rfl ?_
  refine lv_goto (tgt := 1344) hx hb dL_law_274 (by decide) ?_
  refine W.widen (k := 45 + j + 1) (n := 18169 + 6 * j + 6) (by omega) (by omega) ?_
  exact kont _ H locs ls hP hD hS (lv_sub hl [0, 1, 2, 3, 4] rfl)

set_option maxHeartbeats 4000000 in
set_option maxRecDepth 100000 in
theorem lw_case_1 {p : Program} {l : Launch} {e : Env} {s : State} {m : MethodId} {below : List Frame} {meth : Method} {c : Code} {dC : Nat → ClassId} {dI : Nat → Nat → Nat} {b L : Nat} {xs : Nat → Int32} (C0 : lw_At p s m meth c b L xs) (ts ks kv : Nat → Nat) (sa : Nat) (hE : q_S ts ks kv (fun q : Nat => s.heap.size ≤ q) s) (hEX : q_X sa s) (hlt : l.stackTraces = false) {a : Nat → Nat} {k : Nat → ClassId} {bm : Nat → Nat} {km : Nat → ClassId} {q3 : Nat} {k3 : ClassId} {j : Nat} (hj : 6 * j + 6 ≤ L) (hL : L ≤ 3072) {z : Nat → Int32} (hz : ∀ q, z q = xs (6 * j + q)) {x y : XS} {p1 p2 : Int32 × XS} (h1 : SX_1 x z = some p1) (h2 : SY_1 y z = some p2) {fo : Nat → Int64} {H : Heap} {locs : List Loc} {ls : Array Slot} (hK : va_K (dC, dI) vwCl (lw_T k km k3) s) (hP : va_P (dC, dI) vwCl (lw_W a k bm km q3 k3 x y fo) H) (hD : va_D (fun q : Nat => s.heap.size ≤ q) (lw_W a k bm km q3 k3 x y fo)) (hS : va_S (fun q : Nat => s.heap.size ≤ q) s.heap H locs) (hl : lv_has ls 7 [(4, .int (nI (6 * j))), (3, .ref q3), (2, .ref (bm 0)), (1, .ref (a 0)), (0, .ref b)]) (kont : ∀ (fo : Nat → Int64) (H : Heap) (locs : List Loc) (ls : Array Slot), va_P (dC, dI) vwCl (lw_W a k bm km q3 k3 p1.2 p2.2 fo) H → va_D (fun q : Nat => s.heap.size ≤ q) (lw_W a k bm km q3 k3 p1.2 p2.2 fo) → va_S (fun q : Nat => s.heap.size ≤ q) s.heap H locs → lv_has ls 7 [(4, .int (nI (6 * j))), (3, .ref q3), (2, .ref (bm 0)), (1, .ref (a 0)), (0, .ref b)] → W p l e room_1 s m #[Value.ref b] below meth c H locs (45 + j + 1) (18169 + 6 * j + 6) (lw_Z below #[Value.ref b] s) (F0 m 1344 ls [])) : W p l e room_1 s m #[Value.ref b] below meth c H locs (45 + j) (18169 + 6 * j) (lw_Z below #[Value.ref b] s) (F0 m 277 ls []) := by
  obtain ⟨hx, hb, hr, hml, hown, hts, hX, hbl, hlocks, hgv⟩ := C0
  have hown : s.vm.findClass RL = some m.cls := hown
  have hA : ∀ q : Nat, s.heap.size ≤ q → (fun q : Nat => s.heap.size ≤ q) q := fun _ h => h
  have hbA : ¬ (fun q : Nat => s.heap.size ≤ q) b := Nat.not_le.mpr hbl
  unfold SX_1 at h1
  unfold SY_1 at h2
  obtain ⟨o1, hF1, h1⟩ := q_bi h1
  have hp1 := Option.some.inj h1
  obtain ⟨o2, hF2, h2⟩ := q_bi h2
  have hp2 := Option.some.inj h2
  refine lv_aload_n hx hb dL_law_277 rfl (lv_at hl 3 rfl) ?_
  refine lv_aload_n hx hb dL_law_278 rfl (lv_at hl 4 rfl) ?_
  refine lv_iload hx hb dL_law_279 (lv_at hl 0 rfl) ?_
  refine lv_iconst (v := 1) hx hb dL_law_281 (by decide) ?_
  refine lv_iadd hx hb dL_law_282 ?_
  refine q_top (y := nI (6 * j + 1)) (nI_add (6 * j) 1) ?_
  refine va_sld hx hb hX hbl hbA hS (i := (nI (6 * j + 1))) (vp_in_nI (by omega) (by omega)) dL_law_283 ?_
  refine q_top (y := z 1) (by rw [nI_clamp (by omega), hz]) ?_
  have qxa2 : p1.2.1 2 = x.1 2 := by rw [← hp1]; try rfl
  have qxa5 : p1.2.1 5 = x.1 5 := by rw [← hp1]; try rfl
  have qxa6 : p1.2.1 6 = x.1 6 := by rw [← hp1]; try rfl
  have qxa8 : p1.2.1 8 = x.1 8 := by rw [← hp1]; try rfl
  have qxa9 : p1.2.1 9 = x.1 9 := by rw [← hp1]; try rfl
  have qxa11 : p1.2.1 11 = x.1 11 := by rw [← hp1]; try rfl
  have qxa12 : p1.2.1 12 = x.1 12 := by rw [← hp1]; try rfl
  have qxa13 : p1.2.1 13 = x.1 13 := by rw [← hp1]; try rfl
  have qxa15 : p1.2.1 15 = x.1 15 := by rw [← hp1]; try rfl
  have qxa17 : p1.2.1 17 = x.1 17 := by rw [← hp1]; try rfl
  have qxa20 : p1.2.1 20 = x.1 20 := by rw [← hp1]; try rfl
  have qxa22 : p1.2.1 22 = x.1 22 := by rw [← hp1]; try rfl
  have qxa24 : p1.2.1 24 = x.1 24 := by rw [← hp1]; try rfl
  have qxa26 : p1.2.1 26 = x.1 26 := by rw [← hp1]; try rfl
  have qxa28 : p1.2.1 28 = x.1 28 := by rw [← hp1]; try rfl
  have qxi0 : p1.2.2.1 0 = o1.2 := by rw [← hp1]; try rfl
  have qxi1 : p1.2.2.1 1 = x.2.1 1 := by rw [← hp1]; try rfl
  have qxi2 : p1.2.2.1 2 = x.2.1 2 := by rw [← hp1]; try rfl
  have qxi3 : p1.2.2.1 3 = x.2.1 3 := by rw [← hp1]; try rfl
  have qxi4 : p1.2.2.1 4 = x.2.1 4 := by rw [← hp1]; try rfl
  have qxi5 : p1.2.2.1 5 = x.2.1 5 := by rw [← hp1]; try rfl
  have qxi6 : p1.2.2.1 6 = x.2.1 6 := by rw [← hp1]; try rfl
  have qxi7 : p1.2.2.1 7 = x.2.1 7 := by rw [← hp1]; try rfl
  have qxi8 : p1.2.2.1 8 = x.2.1 8 := by rw [← hp1]; try rfl
  have qxi9 : p1.2.2.1 9 = x.2.1 9 := by rw [← hp1]; try rfl
  have qxi10 : p1.2.2.1 10 = x.2.1 10 := by rw [← hp1]; try rfl
  have qxi11 : p1.2.2.1 11 = x.2.1 11 := by rw [← hp1]; try rfl
  have qxl : p1.2.2.2 = x.2.2 := by rw [← hp1]; try rfl
  refine q_goi5 (v := o1.1) (lw_W a k bm km q3 k3 p1.2 y fo) [some 0, some 1, none, none, none, none, none, none, none, none, none, none, none, none, none, none, none, none, none, none, none, none, none, none, none, none, none, none, none, none, none, none, none, none, none, none, none, none, none, none, none, none, none, none, none] (va_runV (As := [.int (z 1)]) (rest := []) ⟨hx, hb, hml, hown, hts⟩ (c_X9_end l dC dI a k (x.2.1 0) (x.2.1 11) (z 1) (va_A [((a 0), .inr (9, [.ref (a 1), .ref (a 3), .ref (a 4), .ref (a 7), .ref (a 10), .ref (a 14), .ref (a 16), .ref (a 18), .ref (a 19), .ref (a 21), .ref (a 23), .ref (a 25), .ref (a 27), .ref (a 28), .int (x.2.1 11)])), ((a 1), .inr (8, [.ref (a 2), .int (x.2.1 0)]))] H.size) o1 hF1) (cwV 1 hts (q_lV m_149 m_150 m_151 m_2 m_152) rfl rfl rfl hdV_yX9_end_1 ⟨Nat.le_of_ble_eq_true rfl, Nat.le_of_ble_eq_true rfl⟩) (q_preWV hK hP hD (q := (RX9, TX9, 15)) (ci := 9) (q0 := 0) rfl rfl [0, 1] (by decide) rfl rfl [] rfl) rfl rfl hl.1 rfl (lv_room (Nat.le_of_ble_eq_true rfl)) dL_law_284 ⟨by show 45 + j + 0 ≤ 1070; omega, by show 18169 + 6 * j + 0 ≤ 26367; omega⟩) hP hD hS hA [0, 1] rfl (by unfold lw_W; simp only [qxa2, qxa5, qxa6, qxa8, qxa9, qxa11, qxa12, qxa13, qxa15, qxa17, qxa20, qxa22, qxa24, qxa26, qxa28, qxi0, qxi1, qxi2, qxi3, qxi4, qxi5, qxi6, qxi7, qxi8, qxi9, qxi10, qxi11, qxl]; rfl) rfl (by decide) (fun H locs hP hD hS => ?_)
  refine lv_pop hx hb dL_law_287 rfl ?_
  refine lv_aload_n hx hb dL_law_288 rfl (lv_at hl 2 rfl) ?_
  refine lv_aload_n hx hb dL_law_289 rfl (lv_at hl 4 rfl) ?_
  refine lv_iload hx hb dL_law_290 (lv_at hl 0 rfl) ?_
  refine lv_iconst (v := 1) hx hb dL_law_292 (by decide) ?_
  refine lv_iadd hx hb dL_law_293 ?_
  refine q_top (y := nI (6 * j + 1)) (nI_add (6 * j) 1) ?_
  refine va_sld hx hb hX hbl hbA hS (i := (nI (6 * j + 1))) (vp_in_nI (by omega) (by omega)) dL_law_294 ?_
  refine q_top (y := z 1) (by rw [nI_clamp (by omega), hz]) ?_
  have qya1 : p2.2.1 1 = y.1 1 := by rw [← hp2]; try rfl
  have qya2 : p2.2.1 2 = y.1 2 := by rw [← hp2]; try rfl
  have qya3 : p2.2.1 3 = y.1 3 := by rw [← hp2]; try rfl
  have qya4 : p2.2.1 4 = y.1 4 := by rw [← hp2]; try rfl
  have qya5 : p2.2.1 5 = y.1 5 := by rw [← hp2]; try rfl
  have qya6 : p2.2.1 6 = y.1 6 := by rw [← hp2]; try rfl
  have qya7 : p2.2.1 7 = y.1 7 := by rw [← hp2]; try rfl
  have qya8 : p2.2.1 8 = y.1 8 := by rw [← hp2]; try rfl
  have qya9 : p2.2.1 9 = y.1 9 := by rw [← hp2]; try rfl
  have qya10 : p2.2.1 10 = y.1 10 := by rw [← hp2]; try rfl
  have qya11 : p2.2.1 11 = y.1 11 := by rw [← hp2]; try rfl
  have qya12 : p2.2.1 12 = y.1 12 := by rw [← hp2]; try rfl
  have qya13 : p2.2.1 13 = y.1 13 := by rw [← hp2]; try rfl
  have qya14 : p2.2.1 14 = y.1 14 := by rw [← hp2]; try rfl
  have qyi0 : p2.2.2.1 0 = y.2.1 0 := by rw [← hp2]; try rfl
  have qyi1 : p2.2.2.1 1 = o2.2 := by rw [← hp2]; try rfl
  have qyi2 : p2.2.2.1 2 = y.2.1 2 := by rw [← hp2]; try rfl
  have qyi3 : p2.2.2.1 3 = y.2.1 3 := by rw [← hp2]; try rfl
  have qyi4 : p2.2.2.1 4 = y.2.1 4 := by rw [← hp2]; try rfl
  have qyi5 : p2.2.2.1 5 = y.2.1 5 := by rw [← hp2]; try rfl
  have qyi6 : p2.2.2.1 6 = y.2.1 6 := by rw [← hp2]; try rfl
  have qyi7 : p2.2.2.1 7 = y.2.1 7 := by rw [← hp2]; try rfl
  have qyi8 : p2.2.2.1 8 = y.2.1 8 := by rw [← hp2]; try rfl
  have qyl : p2.2.2.2 = y.2.2 := by rw [← hp2]; try rfl
  refine q_goi5 (v := o2.1) (lw_W a k bm km q3 k3 p1.2 p2.2 fo) [none, none, none, none, none, none, none, none, none, none, none, none, none, none, none, none, none, none, none, none, none, none, none, none, none, none, none, none, none, some 0, none, none, none, none, none, none, none, none, none, none, none, none, none, none, none] (va_runV (As := [.int (z 1)]) (rest := []) ⟨hx, hb, hml, hown, hts⟩ (c_X10_end l dC dI bm km (y.2.1 0) (y.2.1 1) (y.2.1 2) (y.2.1 3) (y.2.1 4) (y.2.1 5) (y.2.1 6) (y.2.1 7) (y.2.1 8) (y.2.2) (z 1) (va_A [((bm 0), .inr (10, [.int (y.2.1 0), .ref (bm 1), .int (y.2.1 1), .int (y.2.1 2), .int (y.2.1 3), .ref (bm 2), .ref (bm 3), .int (y.2.1 4), .ref (bm 4), .ref (bm 5), .int (y.2.1 5), .ref (bm 6), .ref (bm 7), .int (y.2.1 6), .ref (bm 8), .ref (bm 9), .ref (bm 10), .int (y.2.1 7), .long (y.2.2), .ref (bm 11), .ref (bm 12), .ref (bm 13), .ref (bm 14), .int (y.2.1 8)]))] H.size) o2 hF2) (cwV 1 hts (q_lV m_153 m_154 m_155 m_5 m_156) rfl rfl rfl hdV_yX10_end_1 ⟨Nat.le_of_ble_eq_true rfl, Nat.le_of_ble_eq_true rfl⟩) (q_preWV hK hP hD (q := (RX10, TX10, 24)) (ci := 10) (q0 := 29) rfl rfl [29] (by decide) rfl rfl [] rfl) rfl rfl hl.1 rfl (lv_room (Nat.le_of_ble_eq_true rfl)) dL_law_295 ⟨by show 45 + j + 0 ≤ 1070; omega, by show 18169 + 6 * j + 0 ≤ 26367; omega⟩) hP hD hS hA [29] rfl (by unfold lw_W; simp only [qya1, qya2, qya3, qya4, qya5, qya6, qya7, qya8, qya9, qya10, qya11, qya12, qya13, qya14, qyi0, qyi1, qyi2, qyi3, qyi4, qyi5, qyi6, qyi7, qyi8, qyl]; rfl) rfl (by decide) (fun H locs hP hD hS => ?_)
  refine lv_pop hx hb dL_law_298 rfl ?_
  refine lv_goto (tgt := 1344) hx hb dL_law_299 (by decide) ?_
  refine W.widen (k := 45 + j + 1) (n := 18169 + 6 * j + 6) (by omega) (by omega) ?_
  exact kont _ H locs ls hP hD hS (lv_sub hl [0, 1, 2, 3, 4] rfl)

set_option maxHeartbeats 4000000 in
set_option maxRecDepth 100000 in
theorem lw_case_2 {p : Program} {l : Launch} {e : Env} {s : State} {m : MethodId} {below : List Frame} {meth : Method} {c : Code} {dC : Nat → ClassId} {dI : Nat → Nat → Nat} {b L : Nat} {xs : Nat → Int32} (C0 : lw_At p s m meth c b L xs) (ts ks kv : Nat → Nat) (sa : Nat) (hE : q_S ts ks kv (fun q : Nat => s.heap.size ≤ q) s) (hEX : q_X sa s) (hlt : l.stackTraces = false) {a : Nat → Nat} {k : Nat → ClassId} {bm : Nat → Nat} {km : Nat → ClassId} {q3 : Nat} {k3 : ClassId} {j : Nat} (hj : 6 * j + 6 ≤ L) (hL : L ≤ 3072) {z : Nat → Int32} (hz : ∀ q, z q = xs (6 * j + q)) {x y : XS} {p1 p2 : Int32 × XS} (h1 : SX_2 x z = some p1) (h2 : SY_2 y z = some p2) {fo : Nat → Int64} {H : Heap} {locs : List Loc} {ls : Array Slot} (hK : va_K (dC, dI) vwCl (lw_T k km k3) s) (hP : va_P (dC, dI) vwCl (lw_W a k bm km q3 k3 x y fo) H) (hD : va_D (fun q : Nat => s.heap.size ≤ q) (lw_W a k bm km q3 k3 x y fo)) (hS : va_S (fun q : Nat => s.heap.size ≤ q) s.heap H locs) (hl : lv_has ls 7 [(4, .int (nI (6 * j))), (3, .ref q3), (2, .ref (bm 0)), (1, .ref (a 0)), (0, .ref b)]) (kont : ∀ (fo : Nat → Int64) (H : Heap) (locs : List Loc) (ls : Array Slot), va_P (dC, dI) vwCl (lw_W a k bm km q3 k3 p1.2 p2.2 fo) H → va_D (fun q : Nat => s.heap.size ≤ q) (lw_W a k bm km q3 k3 p1.2 p2.2 fo) → va_S (fun q : Nat => s.heap.size ≤ q) s.heap H locs → lv_has ls 7 [(4, .int (nI (6 * j))), (3, .ref q3), (2, .ref (bm 0)), (1, .ref (a 0)), (0, .ref b)] → W p l e room_1 s m #[Value.ref b] below meth c H locs (45 + j + 1) (18169 + 6 * j + 6) (lw_Z below #[Value.ref b] s) (F0 m 1344 ls [])) : W p l e room_1 s m #[Value.ref b] below meth c H locs (45 + j) (18169 + 6 * j) (lw_Z below #[Value.ref b] s) (F0 m 302 ls []) := by
  obtain ⟨hx, hb, hr, hml, hown, hts, hX, hbl, hlocks, hgv⟩ := C0
  have hown : s.vm.findClass RL = some m.cls := hown
  have hA : ∀ q : Nat, s.heap.size ≤ q → (fun q : Nat => s.heap.size ≤ q) q := fun _ h => h
  have hbA : ¬ (fun q : Nat => s.heap.size ≤ q) b := Nat.not_le.mpr hbl
  unfold SX_2 at h1
  unfold SY_2 at h2
  obtain ⟨o1, hF1, h1⟩ := q_bi h1
  have hp1 := Option.some.inj h1
  obtain ⟨o2, hF2, h2⟩ := q_bi h2
  have hp2 := Option.some.inj h2
  refine lv_aload_n hx hb dL_law_302 rfl (lv_at hl 3 rfl) ?_
  refine lv_aload_n hx hb dL_law_303 rfl (lv_at hl 4 rfl) ?_
  refine lv_iload hx hb dL_law_304 (lv_at hl 0 rfl) ?_
  refine lv_iconst (v := 1) hx hb dL_law_306 (by decide) ?_
  refine lv_iadd hx hb dL_law_307 ?_
  refine q_top (y := nI (6 * j + 1)) (nI_add (6 * j) 1) ?_
  refine va_sld hx hb hX hbl hbA hS (i := (nI (6 * j + 1))) (vp_in_nI (by omega) (by omega)) dL_law_308 ?_
  refine q_top (y := z 1) (by rw [nI_clamp (by omega), hz]) ?_
  have qxa2 : p1.2.1 2 = x.1 2 := by rw [← hp1]; try rfl
  have qxa5 : p1.2.1 5 = o1.2.2.2.2.2.1 := by rw [← hp1]; try rfl
  have qxa6 : p1.2.1 6 = o1.2.2.2.2.2.2.1 := by rw [← hp1]; try rfl
  have qxa8 : p1.2.1 8 = x.1 8 := by rw [← hp1]; try rfl
  have qxa9 : p1.2.1 9 = x.1 9 := by rw [← hp1]; try rfl
  have qxa11 : p1.2.1 11 = x.1 11 := by rw [← hp1]; try rfl
  have qxa12 : p1.2.1 12 = x.1 12 := by rw [← hp1]; try rfl
  have qxa13 : p1.2.1 13 = o1.2.2.2.2.2.2.2 := by rw [← hp1]; try rfl
  have qxa15 : p1.2.1 15 = x.1 15 := by rw [← hp1]; try rfl
  have qxa17 : p1.2.1 17 = x.1 17 := by rw [← hp1]; try rfl
  have qxa20 : p1.2.1 20 = x.1 20 := by rw [← hp1]; try rfl
  have qxa22 : p1.2.1 22 = x.1 22 := by rw [← hp1]; try rfl
  have qxa24 : p1.2.1 24 = x.1 24 := by rw [← hp1]; try rfl
  have qxa26 : p1.2.1 26 = x.1 26 := by rw [← hp1]; try rfl
  have qxa28 : p1.2.1 28 = x.1 28 := by rw [← hp1]; try rfl
  have qxi0 : p1.2.2.1 0 = x.2.1 0 := by rw [← hp1]; try rfl
  have qxi1 : p1.2.2.1 1 = o1.2.1 := by rw [← hp1]; try rfl
  have qxi2 : p1.2.2.1 2 = o1.2.2.1 := by rw [← hp1]; try rfl
  have qxi3 : p1.2.2.1 3 = o1.2.2.2.1 := by rw [← hp1]; try rfl
  have qxi4 : p1.2.2.1 4 = x.2.1 4 := by rw [← hp1]; try rfl
  have qxi5 : p1.2.2.1 5 = o1.2.2.2.2.1 := by rw [← hp1]; try rfl
  have qxi6 : p1.2.2.1 6 = x.2.1 6 := by rw [← hp1]; try rfl
  have qxi7 : p1.2.2.1 7 = x.2.1 7 := by rw [← hp1]; try rfl
  have qxi8 : p1.2.2.1 8 = x.2.1 8 := by rw [← hp1]; try rfl
  have qxi9 : p1.2.2.1 9 = x.2.1 9 := by rw [← hp1]; try rfl
  have qxi10 : p1.2.2.1 10 = x.2.1 10 := by rw [← hp1]; try rfl
  have qxi11 : p1.2.2.1 11 = x.2.1 11 := by rw [← hp1]; try rfl
  have qxl : p1.2.2.2 = x.2.2 := by rw [← hp1]; try rfl
  refine q_goi5 (v := o1.1) (lw_W a k bm km q3 k3 p1.2 y fo) [some 0, some 1, some 2, some 3, some 4, some 5, some 6, none, none, none, some 7, some 8, some 9, some 10, none, none, none, none, none, none, none, none, none, none, none, none, none, none, none, none, none, none, none, none, none, none, none, none, none, none, none, none, none, none, none] (va_runV (As := [.int (z 1)]) (rest := []) ⟨hx, hb, hml, hown, hts⟩ (c_X9_fault l dC dI ts ks kv a k (x.2.1 0) (x.2.1 1) (x.2.1 2) (x.2.1 3) (x.2.1 5) (x.2.1 6) (x.2.1 11) (x.1 2) (x.1 5) (x.1 6) (x.1 11) (x.1 12) (x.1 13) (z 1) (va_A [((a 0), .inr (9, [.ref (a 1), .ref (a 3), .ref (a 4), .ref (a 7), .ref (a 10), .ref (a 14), .ref (a 16), .ref (a 18), .ref (a 19), .ref (a 21), .ref (a 23), .ref (a 25), .ref (a 27), .ref (a 28), .int (x.2.1 11)])), ((a 1), .inr (8, [.ref (a 2), .int (x.2.1 0)])), ((a 2), .inl ((k 2), 240, .inl (x.1 2))), ((a 3), .inr (6, [.ref (a 1), .int (x.2.1 1), .int (x.2.1 2)])), ((a 4), .inr (5, [.ref (a 5), .ref (a 6), .int (x.2.1 3)])), ((a 5), .inl ((k 5), 8, .inl (x.1 5))), ((a 6), .inl ((k 6), 48, .inl (x.1 6))), ((a 10), .inr (7, [.ref (a 11), .ref (a 12), .ref (a 13), .int (x.2.1 5), .int (x.2.1 6)])), ((a 11), .inl ((k 11), 256, .inl (x.1 11))), ((a 12), .inl ((k 12), 4, .inl (x.1 12))), ((a 13), .inl ((k 13), 64, .inl (x.1 13)))] H.size) o1 hF1) (cwV 1 hts (q_lV m_160 m_161 m_162 m_2 m_163) rfl rfl rfl hdV_yX9_fault_1 ⟨Nat.le_of_ble_eq_true rfl, Nat.le_of_ble_eq_true rfl⟩) (q_preWVE hK hP hD (q := (RX9, TX9, 15)) (ci := 9) (q0 := 0) rfl rfl [0, 1, 2, 3, 4, 5, 6, 10, 11, 12, 13] (by decide) rfl rfl [0, 1, 2, 5, 6, 7] rfl q_S_bl (q_S_give hE hS (va_free (wc := [((a 0), .inr (9, [.ref (a 1), .ref (a 3), .ref (a 4), .ref (a 7), .ref (a 10), .ref (a 14), .ref (a 16), .ref (a 18), .ref (a 19), .ref (a 21), .ref (a 23), .ref (a 25), .ref (a 27), .ref (a 28), .int (x.2.1 11)])), ((a 1), .inr (8, [.ref (a 2), .int (x.2.1 0)])), ((a 2), .inl ((k 2), 240, .inl (x.1 2))), ((a 3), .inr (6, [.ref (a 1), .int (x.2.1 1), .int (x.2.1 2)])), ((a 4), .inr (5, [.ref (a 5), .ref (a 6), .int (x.2.1 3)])), ((a 5), .inl ((k 5), 8, .inl (x.1 5))), ((a 6), .inl ((k 6), 48, .inl (x.1 6))), ((a 10), .inr (7, [.ref (a 11), .ref (a 12), .ref (a 13), .int (x.2.1 5), .int (x.2.1 6)])), ((a 11), .inl ((k 11), 256, .inl (x.1 11))), ((a 12), .inl ((k 12), 4, .inl (x.1 12))), ((a 13), .inl ((k 13), 64, .inl (x.1 13)))]) hD hS hA [0, 1, 2, 3, 4, 5, 6, 10, 11, 12, 13] rfl))) rfl rfl hl.1 rfl (lv_room (Nat.le_of_ble_eq_true rfl)) dL_law_309 ⟨by show 45 + j + 0 ≤ 1070; omega, by show 18169 + 6 * j + 0 ≤ 26367; omega⟩) hP hD hS hA [0, 1, 2, 3, 4, 5, 6, 10, 11, 12, 13] rfl (by unfold lw_W; simp only [qxa2, qxa5, qxa6, qxa8, qxa9, qxa11, qxa12, qxa13, qxa15, qxa17, qxa20, qxa22, qxa24, qxa26, qxa28, qxi0, qxi1, qxi2, qxi3, qxi4, qxi5, qxi6, qxi7, qxi8, qxi9, qxi10, qxi11, qxl]; rfl) rfl (by decide) (fun H locs hP hD hS => ?_)
  refine lv_pop hx hb dL_law_312 rfl ?_
  refine lv_aload_n hx hb dL_law_313 rfl (lv_at hl 2 rfl) ?_
  refine lv_aload_n hx hb dL_law_314 rfl (lv_at hl 4 rfl) ?_
  refine lv_iload hx hb dL_law_315 (lv_at hl 0 rfl) ?_
  refine lv_iconst (v := 1) hx hb dL_law_317 (by decide) ?_
  refine lv_iadd hx hb dL_law_318 ?_
  refine q_top (y := nI (6 * j + 1)) (nI_add (6 * j) 1) ?_
  refine va_sld hx hb hX hbl hbA hS (i := (nI (6 * j + 1))) (vp_in_nI (by omega) (by omega)) dL_law_319 ?_
  refine q_top (y := z 1) (by rw [nI_clamp (by omega), hz]) ?_
  have qya1 : p2.2.1 1 = y.1 1 := by rw [← hp2]; try rfl
  have qya2 : p2.2.1 2 = o2.2.2.2.2.1 := by rw [← hp2]; try rfl
  have qya3 : p2.2.1 3 = o2.2.2.2.2.2.1 := by rw [← hp2]; try rfl
  have qya4 : p2.2.1 4 = y.1 4 := by rw [← hp2]; try rfl
  have qya5 : p2.2.1 5 = y.1 5 := by rw [← hp2]; try rfl
  have qya6 : p2.2.1 6 = o2.2.2.2.2.2.2.1 := by rw [← hp2]; try rfl
  have qya7 : p2.2.1 7 = o2.2.2.2.2.2.2.2 := by rw [← hp2]; try rfl
  have qya8 : p2.2.1 8 = y.1 8 := by rw [← hp2]; try rfl
  have qya9 : p2.2.1 9 = y.1 9 := by rw [← hp2]; try rfl
  have qya10 : p2.2.1 10 = y.1 10 := by rw [← hp2]; try rfl
  have qya11 : p2.2.1 11 = y.1 11 := by rw [← hp2]; try rfl
  have qya12 : p2.2.1 12 = y.1 12 := by rw [← hp2]; try rfl
  have qya13 : p2.2.1 13 = y.1 13 := by rw [← hp2]; try rfl
  have qya14 : p2.2.1 14 = y.1 14 := by rw [← hp2]; try rfl
  have qyi0 : p2.2.2.1 0 = y.2.1 0 := by rw [← hp2]; try rfl
  have qyi1 : p2.2.2.1 1 = y.2.1 1 := by rw [← hp2]; try rfl
  have qyi2 : p2.2.2.1 2 = o2.2.1 := by rw [← hp2]; try rfl
  have qyi3 : p2.2.2.1 3 = o2.2.2.1 := by rw [← hp2]; try rfl
  have qyi4 : p2.2.2.1 4 = o2.2.2.2.1 := by rw [← hp2]; try rfl
  have qyi5 : p2.2.2.1 5 = y.2.1 5 := by rw [← hp2]; try rfl
  have qyi6 : p2.2.2.1 6 = y.2.1 6 := by rw [← hp2]; try rfl
  have qyi7 : p2.2.2.1 7 = y.2.1 7 := by rw [← hp2]; try rfl
  have qyi8 : p2.2.2.1 8 = y.2.1 8 := by rw [← hp2]; try rfl
  have qyl : p2.2.2.2 = y.2.2 := by rw [← hp2]; try rfl
  refine q_goi5 (v := o2.1) (lw_W a k bm km q3 k3 p1.2 p2.2 fo) [none, none, none, none, none, none, none, none, none, none, none, none, none, none, none, none, none, none, none, none, none, none, none, none, none, none, none, none, none, some 0, some 1, some 2, some 3, none, none, some 4, some 5, none, none, none, none, none, none, none, none] (va_runV (As := [.int (z 1)]) (rest := []) ⟨hx, hb, hml, hown, hts⟩ (c_X10_fault l dC dI bm km (y.2.1 0) (y.2.1 1) (y.2.1 2) (y.2.1 3) (y.2.1 4) (y.2.1 5) (y.2.1 6) (y.2.1 7) (y.2.1 8) (y.2.2) (y.1 1) (y.1 2) (y.1 3) (y.1 6) (y.1 7) (z 1) (va_A [((bm 0), .inr (10, [.int (y.2.1 0), .ref (bm 1), .int (y.2.1 1), .int (y.2.1 2), .int (y.2.1 3), .ref (bm 2), .ref (bm 3), .int (y.2.1 4), .ref (bm 4), .ref (bm 5), .int (y.2.1 5), .ref (bm 6), .ref (bm 7), .int (y.2.1 6), .ref (bm 8), .ref (bm 9), .ref (bm 10), .int (y.2.1 7), .long (y.2.2), .ref (bm 11), .ref (bm 12), .ref (bm 13), .ref (bm 14), .int (y.2.1 8)])), ((bm 1), .inl ((km 1), 240, .inl (y.1 1))), ((bm 2), .inl ((km 2), 8, .inl (y.1 2))), ((bm 3), .inl ((km 3), 48, .inl (y.1 3))), ((bm 6), .inl ((km 6), 320, .inl (y.1 6))), ((bm 7), .inl ((km 7), 5, .inl (y.1 7)))] H.size) o2 hF2) (cwV 1 hts (q_lV m_317 m_318 m_319 m_5 m_320) rfl rfl rfl hdV_yX10_fault_1 ⟨Nat.le_of_ble_eq_true rfl, Nat.le_of_ble_eq_true rfl⟩) (q_preWV hK hP hD (q := (RX10, TX10, 24)) (ci := 10) (q0 := 29) rfl rfl [29, 30, 31, 32, 35, 36] (by decide) rfl rfl [15, 16, 17, 20, 21] rfl) rfl rfl hl.1 rfl (lv_room (Nat.le_of_ble_eq_true rfl)) dL_law_320 ⟨by show 45 + j + 0 ≤ 1070; omega, by show 18169 + 6 * j + 0 ≤ 26367; omega⟩) hP hD hS hA [29, 30, 31, 32, 35, 36] rfl (by unfold lw_W; simp only [qya1, qya2, qya3, qya4, qya5, qya6, qya7, qya8, qya9, qya10, qya11, qya12, qya13, qya14, qyi0, qyi1, qyi2, qyi3, qyi4, qyi5, qyi6, qyi7, qyi8, qyl]; rfl) rfl (by decide) (fun H locs hP hD hS => ?_)
  refine lv_pop hx hb dL_law_323 rfl ?_
  refine lv_goto (tgt := 1344) hx hb dL_law_324 (by decide) ?_
  refine W.widen (k := 45 + j + 1) (n := 18169 + 6 * j + 6) (by omega) (by omega) ?_
  exact kont _ H locs ls hP hD hS (lv_sub hl [0, 1, 2, 3, 4] rfl)

set_option maxHeartbeats 4000000 in
set_option maxRecDepth 100000 in
theorem lw_case_4 {p : Program} {l : Launch} {e : Env} {s : State} {m : MethodId} {below : List Frame} {meth : Method} {c : Code} {dC : Nat → ClassId} {dI : Nat → Nat → Nat} {b L : Nat} {xs : Nat → Int32} (C0 : lw_At p s m meth c b L xs) (ts ks kv : Nat → Nat) (sa : Nat) (hE : q_S ts ks kv (fun q : Nat => s.heap.size ≤ q) s) (hEX : q_X sa s) (hlt : l.stackTraces = false) {a : Nat → Nat} {k : Nat → ClassId} {bm : Nat → Nat} {km : Nat → ClassId} {q3 : Nat} {k3 : ClassId} {j : Nat} (hj : 6 * j + 6 ≤ L) (hL : L ≤ 3072) {z : Nat → Int32} (hz : ∀ q, z q = xs (6 * j + q)) {x y : XS} {p1 p2 : Int32 × XS} (h1 : SX_4 x z = some p1) (h2 : SY_4 y z = some p2) {fo : Nat → Int64} {H : Heap} {locs : List Loc} {ls : Array Slot} (hK : va_K (dC, dI) vwCl (lw_T k km k3) s) (hP : va_P (dC, dI) vwCl (lw_W a k bm km q3 k3 x y fo) H) (hD : va_D (fun q : Nat => s.heap.size ≤ q) (lw_W a k bm km q3 k3 x y fo)) (hS : va_S (fun q : Nat => s.heap.size ≤ q) s.heap H locs) (hl : lv_has ls 7 [(4, .int (nI (6 * j))), (3, .ref q3), (2, .ref (bm 0)), (1, .ref (a 0)), (0, .ref b)]) (kont : ∀ (fo : Nat → Int64) (H : Heap) (locs : List Loc) (ls : Array Slot), va_P (dC, dI) vwCl (lw_W a k bm km q3 k3 p1.2 p2.2 fo) H → va_D (fun q : Nat => s.heap.size ≤ q) (lw_W a k bm km q3 k3 p1.2 p2.2 fo) → va_S (fun q : Nat => s.heap.size ≤ q) s.heap H locs → lv_has ls 7 [(4, .int (nI (6 * j))), (3, .ref q3), (2, .ref (bm 0)), (1, .ref (a 0)), (0, .ref b)] → W p l e room_1 s m #[Value.ref b] below meth c H locs (45 + j + 1) (18169 + 6 * j + 6) (lw_Z below #[Value.ref b] s) (F0 m 1344 ls [])) : W p l e room_1 s m #[Value.ref b] below meth c H locs (45 + j) (18169 + 6 * j) (lw_Z below #[Value.ref b] s) (F0 m 352 ls []) := by
  obtain ⟨hx, hb, hr, hml, hown, hts, hX, hbl, hlocks, hgv⟩ := C0
  have hown : s.vm.findClass RL = some m.cls := hown
  have hA : ∀ q : Nat, s.heap.size ≤ q → (fun q : Nat => s.heap.size ≤ q) q := fun _ h => h
  have hbA : ¬ (fun q : Nat => s.heap.size ≤ q) b := Nat.not_le.mpr hbl
  unfold SX_4 at h1
  unfold SY_4 at h2
  obtain ⟨o1, hF1, h1⟩ := q_bi h1
  have hp1 := Option.some.inj h1
  obtain ⟨o2, hF2, h2⟩ := q_bi h2
  have hp2 := Option.some.inj h2
  refine lv_aload_n hx hb dL_law_352 rfl (lv_at hl 3 rfl) ?_
  refine lv_aload_n hx hb dL_law_353 rfl (lv_at hl 4 rfl) ?_
  refine lv_iload hx hb dL_law_354 (lv_at hl 0 rfl) ?_
  refine lv_iconst (v := 1) hx hb dL_law_356 (by decide) ?_
  refine lv_iadd hx hb dL_law_357 ?_
  refine q_top (y := nI (6 * j + 1)) (nI_add (6 * j) 1) ?_
  refine va_sld hx hb hX hbl hbA hS (i := (nI (6 * j + 1))) (vp_in_nI (by omega) (by omega)) dL_law_358 ?_
  refine q_top (y := z 1) (by rw [nI_clamp (by omega), hz]) ?_
  refine q_goi (v := o1) (va_runV (As := [.int (z 1)]) (rest := []) ⟨hx, hb, hml, hown, hts⟩ (c_X9_rule l dC dI a k (x.2.1 4) (x.2.1 11) (x.1 8) (x.1 9) (z 1) o1 hF1) (cwV 1 hts (q_lV m_444 m_445 m_446 m_2 m_447) rfl rfl rfl hdV_yX9_rule_1 ⟨Nat.le_of_ble_eq_true rfl, Nat.le_of_ble_eq_true rfl⟩) (q_preV hK hP (q := (RX9, TX9, 15)) (ci := 9) (q0 := 0) rfl rfl [0, 7, 8, 9] rfl [3, 4] rfl) rfl rfl hl.1 rfl (lv_room (Nat.le_of_ble_eq_true rfl)) dL_law_359 ⟨by show 45 + j + 0 ≤ 1070; omega, by show 18169 + 6 * j + 0 ≤ 26367; omega⟩) hP hS (fun H locs hP hS => ?_)
  have hP : va_P (dC, dI) vwCl (lw_W a k bm km q3 k3 p1.2 y fo) H := by rw [← hp1]; exact hP
  have hD : va_D (fun q : Nat => s.heap.size ≤ q) (lw_W a k bm km q3 k3 p1.2 y fo) := by rw [← hp1]; exact hD
  refine lv_pop hx hb dL_law_362 rfl ?_
  refine lv_aload_n hx hb dL_law_363 rfl (lv_at hl 2 rfl) ?_
  refine lv_aload_n hx hb dL_law_364 rfl (lv_at hl 4 rfl) ?_
  refine lv_iload hx hb dL_law_365 (lv_at hl 0 rfl) ?_
  refine lv_iconst (v := 1) hx hb dL_law_367 (by decide) ?_
  refine lv_iadd hx hb dL_law_368 ?_
  refine q_top (y := nI (6 * j + 1)) (nI_add (6 * j) 1) ?_
  refine va_sld hx hb hX hbl hbA hS (i := (nI (6 * j + 1))) (vp_in_nI (by omega) (by omega)) dL_law_369 ?_
  refine q_top (y := z 1) (by rw [nI_clamp (by omega), hz]) ?_
  refine q_goi (v := o2) (va_runV (As := [.int (z 1)]) (rest := []) ⟨hx, hb, hml, hown, hts⟩ (c_X10_rule l dC dI bm km (y.2.1 0) (y.2.1 1) (y.2.1 2) (y.2.1 3) (y.2.1 4) (y.2.1 5) (y.2.1 6) (y.2.1 7) (y.2.1 8) (y.2.2) (y.1 4) (z 1) o2 hF2) (cwV 1 hts (q_lV m_450 m_451 m_452 m_5 m_453) rfl rfl rfl hdV_yX10_rule_1 ⟨Nat.le_of_ble_eq_true rfl, Nat.le_of_ble_eq_true rfl⟩) (q_preV hK hP (q := (RX10, TX10, 24)) (ci := 10) (q0 := 29) rfl rfl [29, 33] rfl [18] rfl) rfl rfl hl.1 rfl (lv_room (Nat.le_of_ble_eq_true rfl)) dL_law_370 ⟨by show 45 + j + 0 ≤ 1070; omega, by show 18169 + 6 * j + 0 ≤ 26367; omega⟩) hP hS (fun H locs hP hS => ?_)
  have hP : va_P (dC, dI) vwCl (lw_W a k bm km q3 k3 p1.2 p2.2 fo) H := by rw [← hp2]; exact hP
  have hD : va_D (fun q : Nat => s.heap.size ≤ q) (lw_W a k bm km q3 k3 p1.2 p2.2 fo) := by rw [← hp2]; exact hD
  refine lv_pop hx hb dL_law_373 rfl ?_
  refine lv_goto (tgt := 1344) hx hb dL_law_374 (by decide) ?_
  refine W.widen (k := 45 + j + 1) (n := 18169 + 6 * j + 6) (by omega) (by omega) ?_
  exact kont _ H locs ls hP hD hS (lv_sub hl [0, 1, 2, 3, 4] rfl)

set_option maxHeartbeats 4000000 in
set_option maxRecDepth 100000 in
theorem lw_case_5 {p : Program} {l : Launch} {e : Env} {s : State} {m : MethodId} {below : List Frame} {meth : Method} {c : Code} {dC : Nat → ClassId} {dI : Nat → Nat → Nat} {b L : Nat} {xs : Nat → Int32} (C0 : lw_At p s m meth c b L xs) (ts ks kv : Nat → Nat) (sa : Nat) (hE : q_S ts ks kv (fun q : Nat => s.heap.size ≤ q) s) (hEX : q_X sa s) (hlt : l.stackTraces = false) {a : Nat → Nat} {k : Nat → ClassId} {bm : Nat → Nat} {km : Nat → ClassId} {q3 : Nat} {k3 : ClassId} {j : Nat} (hj : 6 * j + 6 ≤ L) (hL : L ≤ 3072) {z : Nat → Int32} (hz : ∀ q, z q = xs (6 * j + q)) {x y : XS} {p1 p2 : Int32 × XS} (h1 : SX_5 x z = some p1) (h2 : SY_5 y z = some p2) {fo : Nat → Int64} {H : Heap} {locs : List Loc} {ls : Array Slot} (hK : va_K (dC, dI) vwCl (lw_T k km k3) s) (hP : va_P (dC, dI) vwCl (lw_W a k bm km q3 k3 x y fo) H) (hD : va_D (fun q : Nat => s.heap.size ≤ q) (lw_W a k bm km q3 k3 x y fo)) (hS : va_S (fun q : Nat => s.heap.size ≤ q) s.heap H locs) (hl : lv_has ls 7 [(4, .int (nI (6 * j))), (3, .ref q3), (2, .ref (bm 0)), (1, .ref (a 0)), (0, .ref b)]) (kont : ∀ (fo : Nat → Int64) (H : Heap) (locs : List Loc) (ls : Array Slot), va_P (dC, dI) vwCl (lw_W a k bm km q3 k3 p1.2 p2.2 fo) H → va_D (fun q : Nat => s.heap.size ≤ q) (lw_W a k bm km q3 k3 p1.2 p2.2 fo) → va_S (fun q : Nat => s.heap.size ≤ q) s.heap H locs → lv_has ls 7 [(4, .int (nI (6 * j))), (3, .ref q3), (2, .ref (bm 0)), (1, .ref (a 0)), (0, .ref b)] → W p l e room_1 s m #[Value.ref b] below meth c H locs (45 + j + 1) (18169 + 6 * j + 6) (lw_Z below #[Value.ref b] s) (F0 m 1344 ls [])) : W p l e room_1 s m #[Value.ref b] below meth c H locs (45 + j) (18169 + 6 * j) (lw_Z below #[Value.ref b] s) (F0 m 377 ls []) := by
  obtain ⟨hx, hb, hr, hml, hown, hts, hX, hbl, hlocks, hgv⟩ := C0
  have hown : s.vm.findClass RL = some m.cls := hown
  have hA : ∀ q : Nat, s.heap.size ≤ q → (fun q : Nat => s.heap.size ≤ q) q := fun _ h => h
  have hbA : ¬ (fun q : Nat => s.heap.size ≤ q) b := Nat.not_le.mpr hbl
  unfold SX_5 at h1
  unfold SY_5 at h2
  obtain ⟨o1, hF1, h1⟩ := q_bi h1
  have hp1 := Option.some.inj h1
  obtain ⟨o2, hF2, h2⟩ := q_bi h2
  have hp2 := Option.some.inj h2
  refine lv_aload_n hx hb dL_law_377 rfl (lv_at hl 3 rfl) ?_
  refine lv_aload_n hx hb dL_law_378 rfl (lv_at hl 4 rfl) ?_
  refine lv_iload hx hb dL_law_379 (lv_at hl 0 rfl) ?_
  refine lv_iconst (v := 1) hx hb dL_law_381 (by decide) ?_
  refine lv_iadd hx hb dL_law_382 ?_
  refine q_top (y := nI (6 * j + 1)) (nI_add (6 * j) 1) ?_
  refine va_sld hx hb hX hbl hbA hS (i := (nI (6 * j + 1))) (vp_in_nI (by omega) (by omega)) dL_law_383 ?_
  refine q_top (y := z 1) (by rw [nI_clamp (by omega), hz]) ?_
  refine lv_aload_n hx hb dL_law_384 rfl (lv_at hl 4 rfl) ?_
  refine lv_iload hx hb dL_law_385 (lv_at hl 0 rfl) ?_
  refine lv_iconst (v := 2) hx hb dL_law_387 (by decide) ?_
  refine lv_iadd hx hb dL_law_388 ?_
  refine q_top (y := nI (6 * j + 2)) (nI_add (6 * j) 2) ?_
  refine va_sld hx hb hX hbl hbA hS (i := (nI (6 * j + 2))) (vp_in_nI (by omega) (by omega)) dL_law_389 ?_
  refine q_top (y := z 2) (by rw [nI_clamp (by omega), hz]) ?_
  refine q_goi (v := o1) (va_runV (As := [.int (z 1), .int (z 2)]) (rest := []) ⟨hx, hb, hml, hown, hts⟩ (c_X9_told l dC dI a k (x.2.1 4) (x.2.1 11) (x.1 8) (x.1 9) (x.1 15) (z 1) (z 2) o1 hF1) (cwV 2 hts (q_lV m_458 m_459 m_460 m_2 m_461) rfl rfl rfl hdV_yX9_told_2 ⟨Nat.le_of_ble_eq_true rfl, Nat.le_of_ble_eq_true rfl⟩) (q_preV hK hP (q := (RX9, TX9, 15)) (ci := 9) (q0 := 0) rfl rfl [0, 14, 15, 7, 8, 9] rfl [8, 3, 4] rfl) rfl rfl hl.1 rfl (lv_room (Nat.le_of_ble_eq_true rfl)) dL_law_390 ⟨by show 45 + j + 0 ≤ 1070; omega, by show 18169 + 6 * j + 0 ≤ 26367; omega⟩) hP hS (fun H locs hP hS => ?_)
  have hP : va_P (dC, dI) vwCl (lw_W a k bm km q3 k3 p1.2 y fo) H := by rw [← hp1]; exact hP
  have hD : va_D (fun q : Nat => s.heap.size ≤ q) (lw_W a k bm km q3 k3 p1.2 y fo) := by rw [← hp1]; exact hD
  refine lv_pop hx hb dL_law_393 rfl ?_
  refine lv_aload_n hx hb dL_law_394 rfl (lv_at hl 2 rfl) ?_
  refine lv_aload_n hx hb dL_law_395 rfl (lv_at hl 4 rfl) ?_
  refine lv_iload hx hb dL_law_396 (lv_at hl 0 rfl) ?_
  refine lv_iconst (v := 1) hx hb dL_law_398 (by decide) ?_
  refine lv_iadd hx hb dL_law_399 ?_
  refine q_top (y := nI (6 * j + 1)) (nI_add (6 * j) 1) ?_
  refine va_sld hx hb hX hbl hbA hS (i := (nI (6 * j + 1))) (vp_in_nI (by omega) (by omega)) dL_law_400 ?_
  refine q_top (y := z 1) (by rw [nI_clamp (by omega), hz]) ?_
  refine lv_aload_n hx hb dL_law_401 rfl (lv_at hl 4 rfl) ?_
  refine lv_iload hx hb dL_law_402 (lv_at hl 0 rfl) ?_
  refine lv_iconst (v := 2) hx hb dL_law_404 (by decide) ?_
  refine lv_iadd hx hb dL_law_405 ?_
  refine q_top (y := nI (6 * j + 2)) (nI_add (6 * j) 2) ?_
  refine va_sld hx hb hX hbl hbA hS (i := (nI (6 * j + 2))) (vp_in_nI (by omega) (by omega)) dL_law_406 ?_
  refine q_top (y := z 2) (by rw [nI_clamp (by omega), hz]) ?_
  refine q_goi (v := o2) (va_runV (As := [.int (z 1), .int (z 2)]) (rest := []) ⟨hx, hb, hml, hown, hts⟩ (c_X10_told l dC dI bm km (y.2.1 0) (y.2.1 1) (y.2.1 2) (y.2.1 3) (y.2.1 4) (y.2.1 5) (y.2.1 6) (y.2.1 7) (y.2.1 8) (y.2.2) (y.1 5) (y.1 8) (z 1) (z 2) o2 hF2) (cwV 2 hts (q_lV m_468 m_469 m_470 m_5 m_471) rfl rfl rfl hdV_yX10_told_2 ⟨Nat.le_of_ble_eq_true rfl, Nat.le_of_ble_eq_true rfl⟩) (q_preV hK hP (q := (RX10, TX10, 24)) (ci := 10) (q0 := 29) rfl rfl [29, 34, 37] rfl [19, 22] rfl) rfl rfl hl.1 rfl (lv_room (Nat.le_of_ble_eq_true rfl)) dL_law_407 ⟨by show 45 + j + 0 ≤ 1070; omega, by show 18169 + 6 * j + 0 ≤ 26367; omega⟩) hP hS (fun H locs hP hS => ?_)
  have hP : va_P (dC, dI) vwCl (lw_W a k bm km q3 k3 p1.2 p2.2 fo) H := by rw [← hp2]; exact hP
  have hD : va_D (fun q : Nat => s.heap.size ≤ q) (lw_W a k bm km q3 k3 p1.2 p2.2 fo) := by rw [← hp2]; exact hD
  refine lv_pop hx hb dL_law_410 rfl ?_
  refine lv_goto (tgt := 1344) hx hb dL_law_411 (by decide) ?_
  refine W.widen (k := 45 + j + 1) (n := 18169 + 6 * j + 6) (by omega) (by omega) ?_
  exact kont _ H locs ls hP hD hS (lv_sub hl [0, 1, 2, 3, 4] rfl)

set_option maxHeartbeats 4000000 in
set_option maxRecDepth 100000 in
theorem lw_case_6 {p : Program} {l : Launch} {e : Env} {s : State} {m : MethodId} {below : List Frame} {meth : Method} {c : Code} {dC : Nat → ClassId} {dI : Nat → Nat → Nat} {b L : Nat} {xs : Nat → Int32} (C0 : lw_At p s m meth c b L xs) (ts ks kv : Nat → Nat) (sa : Nat) (hE : q_S ts ks kv (fun q : Nat => s.heap.size ≤ q) s) (hEX : q_X sa s) (hlt : l.stackTraces = false) {a : Nat → Nat} {k : Nat → ClassId} {bm : Nat → Nat} {km : Nat → ClassId} {q3 : Nat} {k3 : ClassId} {j : Nat} (hj : 6 * j + 6 ≤ L) (hL : L ≤ 3072) {z : Nat → Int32} (hz : ∀ q, z q = xs (6 * j + q)) {x y : XS} {p1 p2 : Int32 × XS} (h1 : SX_6 x z = some p1) (h2 : SY_6 y z = some p2) {fo : Nat → Int64} {H : Heap} {locs : List Loc} {ls : Array Slot} (hK : va_K (dC, dI) vwCl (lw_T k km k3) s) (hP : va_P (dC, dI) vwCl (lw_W a k bm km q3 k3 x y fo) H) (hD : va_D (fun q : Nat => s.heap.size ≤ q) (lw_W a k bm km q3 k3 x y fo)) (hS : va_S (fun q : Nat => s.heap.size ≤ q) s.heap H locs) (hl : lv_has ls 7 [(4, .int (nI (6 * j))), (3, .ref q3), (2, .ref (bm 0)), (1, .ref (a 0)), (0, .ref b)]) (kont : ∀ (fo : Nat → Int64) (H : Heap) (locs : List Loc) (ls : Array Slot), va_P (dC, dI) vwCl (lw_W a k bm km q3 k3 p1.2 p2.2 fo) H → va_D (fun q : Nat => s.heap.size ≤ q) (lw_W a k bm km q3 k3 p1.2 p2.2 fo) → va_S (fun q : Nat => s.heap.size ≤ q) s.heap H locs → lv_has ls 7 [(4, .int (nI (6 * j))), (3, .ref q3), (2, .ref (bm 0)), (1, .ref (a 0)), (0, .ref b)] → W p l e room_1 s m #[Value.ref b] below meth c H locs (45 + j + 1) (18169 + 6 * j + 6) (lw_Z below #[Value.ref b] s) (F0 m 1344 ls [])) : W p l e room_1 s m #[Value.ref b] below meth c H locs (45 + j) (18169 + 6 * j) (lw_Z below #[Value.ref b] s) (F0 m 414 ls []) := by
  obtain ⟨hx, hb, hr, hml, hown, hts, hX, hbl, hlocks, hgv⟩ := C0
  have hown : s.vm.findClass RL = some m.cls := hown
  have hA : ∀ q : Nat, s.heap.size ≤ q → (fun q : Nat => s.heap.size ≤ q) q := fun _ h => h
  have hbA : ¬ (fun q : Nat => s.heap.size ≤ q) b := Nat.not_le.mpr hbl
  unfold SX_6 at h1
  unfold SY_6 at h2
  obtain ⟨o1, hF1, h1⟩ := q_bi h1
  have hp1 := Option.some.inj h1
  obtain ⟨o2, hF2, h2⟩ := q_bi h2
  have hp2 := Option.some.inj h2
  refine lv_aload_n hx hb dL_law_414 rfl (lv_at hl 3 rfl) ?_
  refine lv_aload_n hx hb dL_law_415 rfl (lv_at hl 4 rfl) ?_
  refine lv_iload hx hb dL_law_416 (lv_at hl 0 rfl) ?_
  refine lv_iconst (v := 1) hx hb dL_law_418 (by decide) ?_
  refine lv_iadd hx hb dL_law_419 ?_
  refine q_top (y := nI (6 * j + 1)) (nI_add (6 * j) 1) ?_
  refine va_sld hx hb hX hbl hbA hS (i := (nI (6 * j + 1))) (vp_in_nI (by omega) (by omega)) dL_law_420 ?_
  refine q_top (y := z 1) (by rw [nI_clamp (by omega), hz]) ?_
  refine lv_aload_n hx hb dL_law_421 rfl (lv_at hl 4 rfl) ?_
  refine lv_iload hx hb dL_law_422 (lv_at hl 0 rfl) ?_
  refine lv_iconst (v := 2) hx hb dL_law_424 (by decide) ?_
  refine lv_iadd hx hb dL_law_425 ?_
  refine q_top (y := nI (6 * j + 2)) (nI_add (6 * j) 2) ?_
  refine va_sld hx hb hX hbl hbA hS (i := (nI (6 * j + 2))) (vp_in_nI (by omega) (by omega)) dL_law_426 ?_
  refine q_top (y := z 2) (by rw [nI_clamp (by omega), hz]) ?_
  refine lv_aload_n hx hb dL_law_427 rfl (lv_at hl 1 rfl) ?_
  refine q_goi4 (v := o1.1) (vx_runSW (hh := [(0, 10, 13, 13)]) (As := [.ref (a 0), .int (z 1), .int (z 2), .ref q3]) (rest := []) ⟨hx, hb, hml, hown, hts⟩ (c_L_device l hlt dC dI sa a k (x.2.1 11) (x.2.1 4) (x.1 15) (x.1 8) (x.1 9) (z 1) (z 2) q3 k3 fo (va_A [((a 0), .inr (9, [.ref (a 1), .ref (a 3), .ref (a 4), .ref (a 7), .ref (a 10), .ref (a 14), .ref (a 16), .ref (a 18), .ref (a 19), .ref (a 21), .ref (a 23), .ref (a 25), .ref (a 27), .ref (a 28), .int (x.2.1 11)])), ((a 14), .inr (0, [.ref (a 15), .ref (a 7)])), ((a 15), .inl ((k 15), 98, .inl (x.1 15))), ((a 7), .inr (5, [.ref (a 8), .ref (a 9), .int (x.2.1 4)])), ((a 8), .inl ((k 8), 8, .inl (x.1 8))), ((a 9), .inl ((k 9), 48, .inl (x.1 9))), (q3, .inl (k3, 1, .inr (.inl fo)))] H.size) o1 hF1) (vx_cwSW 4 hts g_law_L_device rfl rfl rfl (by decide +kernel) ⟨Nat.le_of_ble_eq_true rfl, Nat.le_of_ble_eq_true rfl⟩) (q_preWE hK hP hD [0, 14, 15, 7, 8, 9, 44] (by decide) rfl rfl [8, 3, 4, 29] rfl q_X_bl (q_X_give hEX (fun q h => hS.2.1 q h (Nat.not_le.mpr h)))) rfl rfl hl.1 rfl (lv_room (Nat.le_of_ble_eq_true rfl)) dL_law_428 ⟨by show 45 + j + 1 ≤ 1070; omega, by show 18169 + 6 * j + 6 ≤ 26367; omega⟩) hP hD hS hA [0, 14, 15, 7, 8, 9, 44] rfl rfl (fun H locs hP hD hS => ?_)
  have hP : va_P (dC, dI) vwCl (lw_W a k bm km q3 k3 x y (if o1.1 = 0 then vp_updL fo 0 (o1.2).toInt64 else fo)) H := hP
  have hD : va_D (fun q : Nat => s.heap.size ≤ q) (lw_W a k bm km q3 k3 x y (if o1.1 = 0 then vp_updL fo 0 (o1.2).toInt64 else fo)) := hD
  have hP : va_P (dC, dI) vwCl (lw_W a k bm km q3 k3 p1.2 y (if o1.1 = 0 then vp_updL fo 0 (o1.2).toInt64 else fo)) H := by rw [← hp1]; exact hP
  have hD : va_D (fun q : Nat => s.heap.size ≤ q) (lw_W a k bm km q3 k3 p1.2 y (if o1.1 = 0 then vp_updL fo 0 (o1.2).toInt64 else fo)) := by rw [← hp1]; exact hD
  generalize (if o1.1 = 0 then vp_updL fo 0 (o1.2).toInt64 else fo) = fo9 at hP hD
  refine lv_istore (lv' := [(5, .int o1.1), (4, .int (nI (6 * j))), (3, .ref q3), (2, .ref (bm 0)), (1, .ref (a 0)), (0, .ref b)]) hx hb dL_law_431 hl (by decide) rfl (fun ls hl => ?_)
  refine lv_aload_n hx hb dL_law_433 rfl (lv_at hl 3 rfl) ?_
  refine lv_aload_n hx hb dL_law_434 rfl (lv_at hl 5 rfl) ?_
  refine lv_iload hx hb dL_law_435 (lv_at hl 1 rfl) ?_
  refine lv_iconst (v := 1) hx hb dL_law_437 (by decide) ?_
  refine lv_iadd hx hb dL_law_438 ?_
  refine q_top (y := nI (6 * j + 1)) (nI_add (6 * j) 1) ?_
  refine va_sld hx hb hX hbl hbA hS (i := (nI (6 * j + 1))) (vp_in_nI (by omega) (by omega)) dL_law_439 ?_
  refine q_top (y := z 1) (by rw [nI_clamp (by omega), hz]) ?_
  refine lv_aload_n hx hb dL_law_440 rfl (lv_at hl 5 rfl) ?_
  refine lv_iload hx hb dL_law_441 (lv_at hl 1 rfl) ?_
  refine lv_iconst (v := 2) hx hb dL_law_443 (by decide) ?_
  refine lv_iadd hx hb dL_law_444 ?_
  refine q_top (y := nI (6 * j + 2)) (nI_add (6 * j) 2) ?_
  refine va_sld hx hb hX hbl hbA hS (i := (nI (6 * j + 2))) (vp_in_nI (by omega) (by omega)) dL_law_445 ?_
  refine q_top (y := z 2) (by rw [nI_clamp (by omega), hz]) ?_
  have qya1 : p2.2.1 1 = y.1 1 := by rw [← hp2]; try rfl
  have qya2 : p2.2.1 2 = y.1 2 := by rw [← hp2]; try rfl
  have qya3 : p2.2.1 3 = y.1 3 := by rw [← hp2]; try rfl
  have qya4 : p2.2.1 4 = y.1 4 := by rw [← hp2]; try rfl
  have qya5 : p2.2.1 5 = y.1 5 := by rw [← hp2]; try rfl
  have qya6 : p2.2.1 6 = y.1 6 := by rw [← hp2]; try rfl
  have qya7 : p2.2.1 7 = y.1 7 := by rw [← hp2]; try rfl
  have qya8 : p2.2.1 8 = y.1 8 := by rw [← hp2]; try rfl
  have qya9 : p2.2.1 9 = y.1 9 := by rw [← hp2]; try rfl
  have qya10 : p2.2.1 10 = y.1 10 := by rw [← hp2]; try rfl
  have qya11 : p2.2.1 11 = y.1 11 := by rw [← hp2]; try rfl
  have qya12 : p2.2.1 12 = y.1 12 := by rw [← hp2]; try rfl
  have qya13 : p2.2.1 13 = y.1 13 := by rw [← hp2]; try rfl
  have qya14 : p2.2.1 14 = y.1 14 := by rw [← hp2]; try rfl
  have qyi0 : p2.2.2.1 0 = o2.2 := by rw [← hp2]; try rfl
  have qyi1 : p2.2.2.1 1 = y.2.1 1 := by rw [← hp2]; try rfl
  have qyi2 : p2.2.2.1 2 = y.2.1 2 := by rw [← hp2]; try rfl
  have qyi3 : p2.2.2.1 3 = y.2.1 3 := by rw [← hp2]; try rfl
  have qyi4 : p2.2.2.1 4 = y.2.1 4 := by rw [← hp2]; try rfl
  have qyi5 : p2.2.2.1 5 = y.2.1 5 := by rw [← hp2]; try rfl
  have qyi6 : p2.2.2.1 6 = y.2.1 6 := by rw [← hp2]; try rfl
  have qyi7 : p2.2.2.1 7 = y.2.1 7 := by rw [← hp2]; try rfl
  have qyi8 : p2.2.2.1 8 = y.2.1 8 := by rw [← hp2]; try rfl
  have qyl : p2.2.2.2 = y.2.2 := by rw [← hp2]; try rfl
  refine q_goi5 (v := o2.1) (lw_W a k bm km q3 k3 p1.2 p2.2 fo9) [none, none, none, none, none, none, none, none, none, none, none, none, none, none, none, none, none, none, none, none, none, none, none, none, none, none, none, none, none, some 0, none, none, none, none, some 1, none, none, some 2, none, none, none, none, none, none, none] (va_runV (As := [.int (z 1), .int (z 2)]) (rest := []) ⟨hx, hb, hml, hown, hts⟩ (c_X10_device l dC dI bm km (y.2.1 0) (y.2.1 1) (y.2.1 2) (y.2.1 3) (y.2.1 4) (y.2.1 5) (y.2.1 6) (y.2.1 7) (y.2.1 8) (y.2.2) (y.1 5) (y.1 8) (z 1) (z 2) (va_A [((bm 0), .inr (10, [.int (y.2.1 0), .ref (bm 1), .int (y.2.1 1), .int (y.2.1 2), .int (y.2.1 3), .ref (bm 2), .ref (bm 3), .int (y.2.1 4), .ref (bm 4), .ref (bm 5), .int (y.2.1 5), .ref (bm 6), .ref (bm 7), .int (y.2.1 6), .ref (bm 8), .ref (bm 9), .ref (bm 10), .int (y.2.1 7), .long (y.2.2), .ref (bm 11), .ref (bm 12), .ref (bm 13), .ref (bm 14), .int (y.2.1 8)])), ((bm 5), .inl ((km 5), 48, .inl (y.1 5))), ((bm 8), .inl ((km 8), 279, .inl (y.1 8)))] H.size) o2 hF2) (cwV 2 hts (q_lV m_495 m_496 m_497 m_5 m_498) rfl rfl rfl hdV_yX10_device_2 ⟨Nat.le_of_ble_eq_true rfl, Nat.le_of_ble_eq_true rfl⟩) (q_preWV hK hP hD (q := (RX10, TX10, 24)) (ci := 10) (q0 := 29) rfl rfl [29, 34, 37] (by decide) rfl rfl [19, 22] rfl) rfl rfl hl.1 rfl (lv_room (Nat.le_of_ble_eq_true rfl)) dL_law_446 ⟨by show 45 + j + 1 + 0 ≤ 1070; omega, by show 18169 + 6 * j + 6 + 0 ≤ 26367; omega⟩) hP hD hS hA [29, 34, 37] rfl (by unfold lw_W; simp only [qya1, qya2, qya3, qya4, qya5, qya6, qya7, qya8, qya9, qya10, qya11, qya12, qya13, qya14, qyi0, qyi1, qyi2, qyi3, qyi4, qyi5, qyi6, qyi7, qyi8, qyl]; rfl) rfl (by decide) (fun H locs hP hD hS => ?_)
  refine lv_istore (lv' := [(6, .int o2.1), (5, .int o1.1), (4, .int (nI (6 * j))), (3, .ref q3), (2, .ref (bm 0)), (1, .ref (a 0)), (0, .ref b)]) hx hb dL_law_449 hl (by decide) rfl (fun ls hl => ?_)
  refine lv_goto (tgt := 1344) hx hb dL_law_451 (by decide) ?_
  refine W.widen (k := 45 + j + 1) (n := 18169 + 6 * j + 6) (by omega) (by omega) ?_
  exact kont _ H locs ls hP hD hS (lv_sub hl [2, 3, 4, 5, 6] rfl)

set_option maxHeartbeats 4000000 in
set_option maxRecDepth 100000 in
theorem lw_case_7 {p : Program} {l : Launch} {e : Env} {s : State} {m : MethodId} {below : List Frame} {meth : Method} {c : Code} {dC : Nat → ClassId} {dI : Nat → Nat → Nat} {b L : Nat} {xs : Nat → Int32} (C0 : lw_At p s m meth c b L xs) (ts ks kv : Nat → Nat) (sa : Nat) (hE : q_S ts ks kv (fun q : Nat => s.heap.size ≤ q) s) (hEX : q_X sa s) (hlt : l.stackTraces = false) {a : Nat → Nat} {k : Nat → ClassId} {bm : Nat → Nat} {km : Nat → ClassId} {q3 : Nat} {k3 : ClassId} {j : Nat} (hj : 6 * j + 6 ≤ L) (hL : L ≤ 3072) {z : Nat → Int32} (hz : ∀ q, z q = xs (6 * j + q)) {x y : XS} {p1 p2 : Int32 × XS} (h1 : SX_7 x z = some p1) (h2 : SY_7 y z = some p2) {fo : Nat → Int64} {H : Heap} {locs : List Loc} {ls : Array Slot} (hK : va_K (dC, dI) vwCl (lw_T k km k3) s) (hP : va_P (dC, dI) vwCl (lw_W a k bm km q3 k3 x y fo) H) (hD : va_D (fun q : Nat => s.heap.size ≤ q) (lw_W a k bm km q3 k3 x y fo)) (hS : va_S (fun q : Nat => s.heap.size ≤ q) s.heap H locs) (hl : lv_has ls 7 [(4, .int (nI (6 * j))), (3, .ref q3), (2, .ref (bm 0)), (1, .ref (a 0)), (0, .ref b)]) (kont : ∀ (fo : Nat → Int64) (H : Heap) (locs : List Loc) (ls : Array Slot), va_P (dC, dI) vwCl (lw_W a k bm km q3 k3 p1.2 p2.2 fo) H → va_D (fun q : Nat => s.heap.size ≤ q) (lw_W a k bm km q3 k3 p1.2 p2.2 fo) → va_S (fun q : Nat => s.heap.size ≤ q) s.heap H locs → lv_has ls 7 [(4, .int (nI (6 * j))), (3, .ref q3), (2, .ref (bm 0)), (1, .ref (a 0)), (0, .ref b)] → W p l e room_1 s m #[Value.ref b] below meth c H locs (45 + j + 1) (18169 + 6 * j + 6) (lw_Z below #[Value.ref b] s) (F0 m 1344 ls [])) : W p l e room_1 s m #[Value.ref b] below meth c H locs (45 + j) (18169 + 6 * j) (lw_Z below #[Value.ref b] s) (F0 m 454 ls []) := by
  obtain ⟨hx, hb, hr, hml, hown, hts, hX, hbl, hlocks, hgv⟩ := C0
  have hown : s.vm.findClass RL = some m.cls := hown
  have hA : ∀ q : Nat, s.heap.size ≤ q → (fun q : Nat => s.heap.size ≤ q) q := fun _ h => h
  have hbA : ¬ (fun q : Nat => s.heap.size ≤ q) b := Nat.not_le.mpr hbl
  unfold SX_7 at h1
  unfold SY_7 at h2
  obtain ⟨o1, hF1, h1⟩ := q_bi h1
  have hp1 := Option.some.inj h1
  obtain ⟨o2, hF2, h2⟩ := q_bi h2
  have hp2 := Option.some.inj h2
  refine lv_aload_n hx hb dL_law_454 rfl (lv_at hl 3 rfl) ?_
  refine lv_aload_n hx hb dL_law_455 rfl (lv_at hl 4 rfl) ?_
  refine lv_iload hx hb dL_law_456 (lv_at hl 0 rfl) ?_
  refine lv_iconst (v := 1) hx hb dL_law_458 (by decide) ?_
  refine lv_iadd hx hb dL_law_459 ?_
  refine q_top (y := nI (6 * j + 1)) (nI_add (6 * j) 1) ?_
  refine va_sld hx hb hX hbl hbA hS (i := (nI (6 * j + 1))) (vp_in_nI (by omega) (by omega)) dL_law_460 ?_
  refine q_top (y := z 1) (by rw [nI_clamp (by omega), hz]) ?_
  refine lv_aload_n hx hb dL_law_461 rfl (lv_at hl 4 rfl) ?_
  refine lv_iload hx hb dL_law_462 (lv_at hl 0 rfl) ?_
  refine lv_iconst (v := 2) hx hb dL_law_464 (by decide) ?_
  refine lv_iadd hx hb dL_law_465 ?_
  refine q_top (y := nI (6 * j + 2)) (nI_add (6 * j) 2) ?_
  refine va_sld hx hb hX hbl hbA hS (i := (nI (6 * j + 2))) (vp_in_nI (by omega) (by omega)) dL_law_466 ?_
  refine q_top (y := z 2) (by rw [nI_clamp (by omega), hz]) ?_
  refine q_goi (v := o1) (va_runV (As := [.int (z 1), .int (z 2)]) (rest := []) ⟨hx, hb, hml, hown, hts⟩ (c_X9_port l dC dI a k (x.2.1 4) (x.2.1 11) (x.1 8) (x.1 9) (x.1 15) (z 1) (z 2) o1 hF1) (cwV 2 hts (q_lV m_520 m_521 m_522 m_2 m_523) rfl rfl rfl hdV_yX9_port_2 ⟨Nat.le_of_ble_eq_true rfl, Nat.le_of_ble_eq_true rfl⟩) (q_preV hK hP (q := (RX9, TX9, 15)) (ci := 9) (q0 := 0) rfl rfl [0, 14, 15, 7, 8, 9] rfl [8, 3, 4] rfl) rfl rfl hl.1 rfl (lv_room (Nat.le_of_ble_eq_true rfl)) dL_law_467 ⟨by show 45 + j + 0 ≤ 1070; omega, by show 18169 + 6 * j + 0 ≤ 26367; omega⟩) hP hS (fun H locs hP hS => ?_)
  have hP : va_P (dC, dI) vwCl (lw_W a k bm km q3 k3 p1.2 y fo) H := by rw [← hp1]; exact hP
  have hD : va_D (fun q : Nat => s.heap.size ≤ q) (lw_W a k bm km q3 k3 p1.2 y fo) := by rw [← hp1]; exact hD
  refine lv_pop hx hb dL_law_470 rfl ?_
  refine lv_aload_n hx hb dL_law_471 rfl (lv_at hl 2 rfl) ?_
  refine lv_aload_n hx hb dL_law_472 rfl (lv_at hl 4 rfl) ?_
  refine lv_iload hx hb dL_law_473 (lv_at hl 0 rfl) ?_
  refine lv_iconst (v := 1) hx hb dL_law_475 (by decide) ?_
  refine lv_iadd hx hb dL_law_476 ?_
  refine q_top (y := nI (6 * j + 1)) (nI_add (6 * j) 1) ?_
  refine va_sld hx hb hX hbl hbA hS (i := (nI (6 * j + 1))) (vp_in_nI (by omega) (by omega)) dL_law_477 ?_
  refine q_top (y := z 1) (by rw [nI_clamp (by omega), hz]) ?_
  refine lv_aload_n hx hb dL_law_478 rfl (lv_at hl 4 rfl) ?_
  refine lv_iload hx hb dL_law_479 (lv_at hl 0 rfl) ?_
  refine lv_iconst (v := 2) hx hb dL_law_481 (by decide) ?_
  refine lv_iadd hx hb dL_law_482 ?_
  refine q_top (y := nI (6 * j + 2)) (nI_add (6 * j) 2) ?_
  refine va_sld hx hb hX hbl hbA hS (i := (nI (6 * j + 2))) (vp_in_nI (by omega) (by omega)) dL_law_483 ?_
  refine q_top (y := z 2) (by rw [nI_clamp (by omega), hz]) ?_
  refine q_goi (v := o2) (va_runV (As := [.int (z 1), .int (z 2)]) (rest := []) ⟨hx, hb, hml, hown, hts⟩ (c_X10_port l dC dI bm km (y.2.1 0) (y.2.1 1) (y.2.1 2) (y.2.1 3) (y.2.1 4) (y.2.1 5) (y.2.1 6) (y.2.1 7) (y.2.1 8) (y.2.2) (y.1 4) (y.1 5) (y.1 8) (z 1) (z 2) o2 hF2) (cwV 2 hts (q_lV m_536 m_537 m_538 m_5 m_539) rfl rfl rfl hdV_yX10_port_2 ⟨Nat.le_of_ble_eq_true rfl, Nat.le_of_ble_eq_true rfl⟩) (q_preV hK hP (q := (RX10, TX10, 24)) (ci := 10) (q0 := 29) rfl rfl [29, 33, 34, 37] rfl [18, 19, 22] rfl) rfl rfl hl.1 rfl (lv_room (Nat.le_of_ble_eq_true rfl)) dL_law_484 ⟨by show 45 + j + 0 ≤ 1070; omega, by show 18169 + 6 * j + 0 ≤ 26367; omega⟩) hP hS (fun H locs hP hS => ?_)
  have hP : va_P (dC, dI) vwCl (lw_W a k bm km q3 k3 p1.2 p2.2 fo) H := by rw [← hp2]; exact hP
  have hD : va_D (fun q : Nat => s.heap.size ≤ q) (lw_W a k bm km q3 k3 p1.2 p2.2 fo) := by rw [← hp2]; exact hD
  refine lv_pop hx hb dL_law_487 rfl ?_
  refine lv_goto (tgt := 1344) hx hb dL_law_488 (by decide) ?_
  refine W.widen (k := 45 + j + 1) (n := 18169 + 6 * j + 6) (by omega) (by omega) ?_
  exact kont _ H locs ls hP hD hS (lv_sub hl [0, 1, 2, 3, 4] rfl)

set_option maxHeartbeats 4000000 in
set_option maxRecDepth 100000 in
theorem lw_case_8 {p : Program} {l : Launch} {e : Env} {s : State} {m : MethodId} {below : List Frame} {meth : Method} {c : Code} {dC : Nat → ClassId} {dI : Nat → Nat → Nat} {b L : Nat} {xs : Nat → Int32} (C0 : lw_At p s m meth c b L xs) (ts ks kv : Nat → Nat) (sa : Nat) (hE : q_S ts ks kv (fun q : Nat => s.heap.size ≤ q) s) (hEX : q_X sa s) (hlt : l.stackTraces = false) {a : Nat → Nat} {k : Nat → ClassId} {bm : Nat → Nat} {km : Nat → ClassId} {q3 : Nat} {k3 : ClassId} {j : Nat} (hj : 6 * j + 6 ≤ L) (hL : L ≤ 3072) {z : Nat → Int32} (hz : ∀ q, z q = xs (6 * j + q)) {x y : XS} {p1 p2 : Int32 × XS} (h1 : SX_8 x z = some p1) (h2 : SY_8 y z = some p2) {fo : Nat → Int64} {H : Heap} {locs : List Loc} {ls : Array Slot} (hK : va_K (dC, dI) vwCl (lw_T k km k3) s) (hP : va_P (dC, dI) vwCl (lw_W a k bm km q3 k3 x y fo) H) (hD : va_D (fun q : Nat => s.heap.size ≤ q) (lw_W a k bm km q3 k3 x y fo)) (hS : va_S (fun q : Nat => s.heap.size ≤ q) s.heap H locs) (hl : lv_has ls 7 [(4, .int (nI (6 * j))), (3, .ref q3), (2, .ref (bm 0)), (1, .ref (a 0)), (0, .ref b)]) (kont : ∀ (fo : Nat → Int64) (H : Heap) (locs : List Loc) (ls : Array Slot), va_P (dC, dI) vwCl (lw_W a k bm km q3 k3 p1.2 p2.2 fo) H → va_D (fun q : Nat => s.heap.size ≤ q) (lw_W a k bm km q3 k3 p1.2 p2.2 fo) → va_S (fun q : Nat => s.heap.size ≤ q) s.heap H locs → lv_has ls 7 [(4, .int (nI (6 * j))), (3, .ref q3), (2, .ref (bm 0)), (1, .ref (a 0)), (0, .ref b)] → W p l e room_1 s m #[Value.ref b] below meth c H locs (45 + j + 1) (18169 + 6 * j + 6) (lw_Z below #[Value.ref b] s) (F0 m 1344 ls [])) : W p l e room_1 s m #[Value.ref b] below meth c H locs (45 + j) (18169 + 6 * j) (lw_Z below #[Value.ref b] s) (F0 m 491 ls []) := by
  obtain ⟨hx, hb, hr, hml, hown, hts, hX, hbl, hlocks, hgv⟩ := C0
  have hown : s.vm.findClass RL = some m.cls := hown
  have hA : ∀ q : Nat, s.heap.size ≤ q → (fun q : Nat => s.heap.size ≤ q) q := fun _ h => h
  have hbA : ¬ (fun q : Nat => s.heap.size ≤ q) b := Nat.not_le.mpr hbl
  unfold SX_8 at h1
  unfold SY_8 at h2
  obtain ⟨o1, hF1, h1⟩ := q_bi h1
  have hp1 := Option.some.inj h1
  obtain ⟨o2, hF2, h2⟩ := q_bi h2
  have hp2 := Option.some.inj h2
  refine lv_aload_n hx hb dL_law_491 rfl (lv_at hl 3 rfl) ?_
  refine lv_aload_n hx hb dL_law_492 rfl (lv_at hl 4 rfl) ?_
  refine lv_iload hx hb dL_law_493 (lv_at hl 0 rfl) ?_
  refine lv_iconst (v := 1) hx hb dL_law_495 (by decide) ?_
  refine lv_iadd hx hb dL_law_496 ?_
  refine q_top (y := nI (6 * j + 1)) (nI_add (6 * j) 1) ?_
  refine va_sld hx hb hX hbl hbA hS (i := (nI (6 * j + 1))) (vp_in_nI (by omega) (by omega)) dL_law_497 ?_
  refine q_top (y := z 1) (by rw [nI_clamp (by omega), hz]) ?_
  refine lv_aload_n hx hb dL_law_498 rfl (lv_at hl 4 rfl) ?_
  refine lv_iload hx hb dL_law_499 (lv_at hl 0 rfl) ?_
  refine lv_iconst (v := 2) hx hb dL_law_501 (by decide) ?_
  refine lv_iadd hx hb dL_law_502 ?_
  refine q_top (y := nI (6 * j + 2)) (nI_add (6 * j) 2) ?_
  refine va_sld hx hb hX hbl hbA hS (i := (nI (6 * j + 2))) (vp_in_nI (by omega) (by omega)) dL_law_503 ?_
  refine q_top (y := z 2) (by rw [nI_clamp (by omega), hz]) ?_
  refine q_goi (v := o1) (va_runV (As := [.int (z 1), .int (z 2)]) (rest := []) ⟨hx, hb, hml, hown, hts⟩ (c_X9_hub l dC dI a k (x.2.1 4) (x.2.1 11) (x.1 8) (x.1 9) (x.1 15) (z 1) (z 2) o1 hF1) (cwV 2 hts (q_lV m_552 m_553 m_554 m_2 m_555) rfl rfl rfl hdV_yX9_hub_2 ⟨Nat.le_of_ble_eq_true rfl, Nat.le_of_ble_eq_true rfl⟩) (q_preV hK hP (q := (RX9, TX9, 15)) (ci := 9) (q0 := 0) rfl rfl [0, 14, 15, 7, 8, 9] rfl [8, 3, 4] rfl) rfl rfl hl.1 rfl (lv_room (Nat.le_of_ble_eq_true rfl)) dL_law_504 ⟨by show 45 + j + 0 ≤ 1070; omega, by show 18169 + 6 * j + 0 ≤ 26367; omega⟩) hP hS (fun H locs hP hS => ?_)
  have hP : va_P (dC, dI) vwCl (lw_W a k bm km q3 k3 p1.2 y fo) H := by rw [← hp1]; exact hP
  have hD : va_D (fun q : Nat => s.heap.size ≤ q) (lw_W a k bm km q3 k3 p1.2 y fo) := by rw [← hp1]; exact hD
  refine lv_pop hx hb dL_law_507 rfl ?_
  refine lv_aload_n hx hb dL_law_508 rfl (lv_at hl 2 rfl) ?_
  refine lv_aload_n hx hb dL_law_509 rfl (lv_at hl 4 rfl) ?_
  refine lv_iload hx hb dL_law_510 (lv_at hl 0 rfl) ?_
  refine lv_iconst (v := 1) hx hb dL_law_512 (by decide) ?_
  refine lv_iadd hx hb dL_law_513 ?_
  refine q_top (y := nI (6 * j + 1)) (nI_add (6 * j) 1) ?_
  refine va_sld hx hb hX hbl hbA hS (i := (nI (6 * j + 1))) (vp_in_nI (by omega) (by omega)) dL_law_514 ?_
  refine q_top (y := z 1) (by rw [nI_clamp (by omega), hz]) ?_
  refine lv_aload_n hx hb dL_law_515 rfl (lv_at hl 4 rfl) ?_
  refine lv_iload hx hb dL_law_516 (lv_at hl 0 rfl) ?_
  refine lv_iconst (v := 2) hx hb dL_law_518 (by decide) ?_
  refine lv_iadd hx hb dL_law_519 ?_
  refine q_top (y := nI (6 * j + 2)) (nI_add (6 * j) 2) ?_
  refine va_sld hx hb hX hbl hbA hS (i := (nI (6 * j + 2))) (vp_in_nI (by omega) (by omega)) dL_law_520 ?_
  refine q_top (y := z 2) (by rw [nI_clamp (by omega), hz]) ?_
  refine q_goi (v := o2) (va_runV (As := [.int (z 1), .int (z 2)]) (rest := []) ⟨hx, hb, hml, hown, hts⟩ (c_X10_hub l dC dI bm km (y.2.1 0) (y.2.1 1) (y.2.1 2) (y.2.1 3) (y.2.1 4) (y.2.1 5) (y.2.1 6) (y.2.1 7) (y.2.1 8) (y.2.2) (y.1 4) (y.1 5) (y.1 8) (z 1) (z 2) o2 hF2) (cwV 2 hts (q_lV m_616 m_617 m_618 m_5 m_619) rfl rfl rfl hdV_yX10_hub_2 ⟨Nat.le_of_ble_eq_true rfl, Nat.le_of_ble_eq_true rfl⟩) (q_preV hK hP (q := (RX10, TX10, 24)) (ci := 10) (q0 := 29) rfl rfl [29, 33, 34, 37] rfl [18, 19, 22] rfl) rfl rfl hl.1 rfl (lv_room (Nat.le_of_ble_eq_true rfl)) dL_law_521 ⟨by show 45 + j + 0 ≤ 1070; omega, by show 18169 + 6 * j + 0 ≤ 26367; omega⟩) hP hS (fun H locs hP hS => ?_)
  have hP : va_P (dC, dI) vwCl (lw_W a k bm km q3 k3 p1.2 p2.2 fo) H := by rw [← hp2]; exact hP
  have hD : va_D (fun q : Nat => s.heap.size ≤ q) (lw_W a k bm km q3 k3 p1.2 p2.2 fo) := by rw [← hp2]; exact hD
  refine lv_pop hx hb dL_law_524 rfl ?_
  refine lv_goto (tgt := 1344) hx hb dL_law_525 (by decide) ?_
  refine W.widen (k := 45 + j + 1) (n := 18169 + 6 * j + 6) (by omega) (by omega) ?_
  exact kont _ H locs ls hP hD hS (lv_sub hl [0, 1, 2, 3, 4] rfl)

set_option maxHeartbeats 4000000 in
set_option maxRecDepth 100000 in
theorem lw_case_9 {p : Program} {l : Launch} {e : Env} {s : State} {m : MethodId} {below : List Frame} {meth : Method} {c : Code} {dC : Nat → ClassId} {dI : Nat → Nat → Nat} {b L : Nat} {xs : Nat → Int32} (C0 : lw_At p s m meth c b L xs) (ts ks kv : Nat → Nat) (sa : Nat) (hE : q_S ts ks kv (fun q : Nat => s.heap.size ≤ q) s) (hEX : q_X sa s) (hlt : l.stackTraces = false) {a : Nat → Nat} {k : Nat → ClassId} {bm : Nat → Nat} {km : Nat → ClassId} {q3 : Nat} {k3 : ClassId} {j : Nat} (hj : 6 * j + 6 ≤ L) (hL : L ≤ 3072) {z : Nat → Int32} (hz : ∀ q, z q = xs (6 * j + q)) {x y : XS} {p1 p2 : Int32 × XS} (h1 : SX_9 x z = some p1) (h2 : SY_9 y z = some p2) {fo : Nat → Int64} {H : Heap} {locs : List Loc} {ls : Array Slot} (hK : va_K (dC, dI) vwCl (lw_T k km k3) s) (hP : va_P (dC, dI) vwCl (lw_W a k bm km q3 k3 x y fo) H) (hD : va_D (fun q : Nat => s.heap.size ≤ q) (lw_W a k bm km q3 k3 x y fo)) (hS : va_S (fun q : Nat => s.heap.size ≤ q) s.heap H locs) (hl : lv_has ls 7 [(4, .int (nI (6 * j))), (3, .ref q3), (2, .ref (bm 0)), (1, .ref (a 0)), (0, .ref b)]) (kont : ∀ (fo : Nat → Int64) (H : Heap) (locs : List Loc) (ls : Array Slot), va_P (dC, dI) vwCl (lw_W a k bm km q3 k3 p1.2 p2.2 fo) H → va_D (fun q : Nat => s.heap.size ≤ q) (lw_W a k bm km q3 k3 p1.2 p2.2 fo) → va_S (fun q : Nat => s.heap.size ≤ q) s.heap H locs → lv_has ls 7 [(4, .int (nI (6 * j))), (3, .ref q3), (2, .ref (bm 0)), (1, .ref (a 0)), (0, .ref b)] → W p l e room_1 s m #[Value.ref b] below meth c H locs (45 + j + 1) (18169 + 6 * j + 6) (lw_Z below #[Value.ref b] s) (F0 m 1344 ls [])) : W p l e room_1 s m #[Value.ref b] below meth c H locs (45 + j) (18169 + 6 * j) (lw_Z below #[Value.ref b] s) (F0 m 528 ls []) := by
  obtain ⟨hx, hb, hr, hml, hown, hts, hX, hbl, hlocks, hgv⟩ := C0
  have hown : s.vm.findClass RL = some m.cls := hown
  have hA : ∀ q : Nat, s.heap.size ≤ q → (fun q : Nat => s.heap.size ≤ q) q := fun _ h => h
  have hbA : ¬ (fun q : Nat => s.heap.size ≤ q) b := Nat.not_le.mpr hbl
  unfold SX_9 at h1
  unfold SY_9 at h2
  obtain ⟨o1, hF1, h1⟩ := q_bi h1
  have hp1 := Option.some.inj h1
  obtain ⟨o2, hF2, h2⟩ := q_bi h2
  have hp2 := Option.some.inj h2
  refine lv_aload_n hx hb dL_law_528 rfl (lv_at hl 3 rfl) ?_
  refine lv_aload_n hx hb dL_law_529 rfl (lv_at hl 4 rfl) ?_
  refine lv_iload hx hb dL_law_530 (lv_at hl 0 rfl) ?_
  refine lv_iconst (v := 1) hx hb dL_law_532 (by decide) ?_
  refine lv_iadd hx hb dL_law_533 ?_
  refine q_top (y := nI (6 * j + 1)) (nI_add (6 * j) 1) ?_
  refine va_sld hx hb hX hbl hbA hS (i := (nI (6 * j + 1))) (vp_in_nI (by omega) (by omega)) dL_law_534 ?_
  refine q_top (y := z 1) (by rw [nI_clamp (by omega), hz]) ?_
  refine lv_aload_n hx hb dL_law_535 rfl (lv_at hl 4 rfl) ?_
  refine lv_iload hx hb dL_law_536 (lv_at hl 0 rfl) ?_
  refine lv_iconst (v := 2) hx hb dL_law_538 (by decide) ?_
  refine lv_iadd hx hb dL_law_539 ?_
  refine q_top (y := nI (6 * j + 2)) (nI_add (6 * j) 2) ?_
  refine va_sld hx hb hX hbl hbA hS (i := (nI (6 * j + 2))) (vp_in_nI (by omega) (by omega)) dL_law_540 ?_
  refine q_top (y := z 2) (by rw [nI_clamp (by omega), hz]) ?_
  refine q_goi (v := o1) (va_runV (As := [.int (z 1), .int (z 2)]) (rest := []) ⟨hx, hb, hml, hown, hts⟩ (c_X9_octet l dC dI a k (x.2.1 4) (x.2.1 11) (x.1 8) (x.1 9) (x.1 15) (z 1) (z 2) o1 hF1) (cwV 2 hts (q_lV m_661 m_662 m_663 m_2 m_664) rfl rfl rfl hdV_yX9_octet_2 ⟨Nat.le_of_ble_eq_true rfl, Nat.le_of_ble_eq_true rfl⟩) (q_preV hK hP (q := (RX9, TX9, 15)) (ci := 9) (q0 := 0) rfl rfl [0, 14, 15, 7, 8, 9] rfl [8, 3, 4] rfl) rfl rfl hl.1 rfl (lv_room (Nat.le_of_ble_eq_true rfl)) dL_law_541 ⟨by show 45 + j + 0 ≤ 1070; omega, by show 18169 + 6 * j + 0 ≤ 26367; omega⟩) hP hS (fun H locs hP hS => ?_)
  have hP : va_P (dC, dI) vwCl (lw_W a k bm km q3 k3 p1.2 y fo) H := by rw [← hp1]; exact hP
  have hD : va_D (fun q : Nat => s.heap.size ≤ q) (lw_W a k bm km q3 k3 p1.2 y fo) := by rw [← hp1]; exact hD
  refine lv_pop hx hb dL_law_544 rfl ?_
  refine lv_aload_n hx hb dL_law_545 rfl (lv_at hl 2 rfl) ?_
  refine lv_aload_n hx hb dL_law_546 rfl (lv_at hl 4 rfl) ?_
  refine lv_iload hx hb dL_law_547 (lv_at hl 0 rfl) ?_
  refine lv_iconst (v := 1) hx hb dL_law_549 (by decide) ?_
  refine lv_iadd hx hb dL_law_550 ?_
  refine q_top (y := nI (6 * j + 1)) (nI_add (6 * j) 1) ?_
  refine va_sld hx hb hX hbl hbA hS (i := (nI (6 * j + 1))) (vp_in_nI (by omega) (by omega)) dL_law_551 ?_
  refine q_top (y := z 1) (by rw [nI_clamp (by omega), hz]) ?_
  refine lv_aload_n hx hb dL_law_552 rfl (lv_at hl 4 rfl) ?_
  refine lv_iload hx hb dL_law_553 (lv_at hl 0 rfl) ?_
  refine lv_iconst (v := 2) hx hb dL_law_555 (by decide) ?_
  refine lv_iadd hx hb dL_law_556 ?_
  refine q_top (y := nI (6 * j + 2)) (nI_add (6 * j) 2) ?_
  refine va_sld hx hb hX hbl hbA hS (i := (nI (6 * j + 2))) (vp_in_nI (by omega) (by omega)) dL_law_557 ?_
  refine q_top (y := z 2) (by rw [nI_clamp (by omega), hz]) ?_
  refine q_goi (v := o2) (va_runV (As := [.int (z 1), .int (z 2)]) (rest := []) ⟨hx, hb, hml, hown, hts⟩ (c_X10_octet l dC dI bm km (y.2.1 0) (y.2.1 1) (y.2.1 2) (y.2.1 3) (y.2.1 4) (y.2.1 5) (y.2.1 6) (y.2.1 7) (y.2.1 8) (y.2.2) (y.1 5) (y.1 8) (z 1) (z 2) o2 hF2) (cwV 2 hts (q_lV m_677 m_678 m_679 m_5 m_680) rfl rfl rfl hdV_yX10_octet_2 ⟨Nat.le_of_ble_eq_true rfl, Nat.le_of_ble_eq_true rfl⟩) (q_preV hK hP (q := (RX10, TX10, 24)) (ci := 10) (q0 := 29) rfl rfl [29, 34, 37] rfl [19, 22] rfl) rfl rfl hl.1 rfl (lv_room (Nat.le_of_ble_eq_true rfl)) dL_law_558 ⟨by show 45 + j + 0 ≤ 1070; omega, by show 18169 + 6 * j + 0 ≤ 26367; omega⟩) hP hS (fun H locs hP hS => ?_)
  have hP : va_P (dC, dI) vwCl (lw_W a k bm km q3 k3 p1.2 p2.2 fo) H := by rw [← hp2]; exact hP
  have hD : va_D (fun q : Nat => s.heap.size ≤ q) (lw_W a k bm km q3 k3 p1.2 p2.2 fo) := by rw [← hp2]; exact hD
  refine lv_pop hx hb dL_law_561 rfl ?_
  refine lv_goto (tgt := 1344) hx hb dL_law_562 (by decide) ?_
  refine W.widen (k := 45 + j + 1) (n := 18169 + 6 * j + 6) (by omega) (by omega) ?_
  exact kont _ H locs ls hP hD hS (lv_sub hl [0, 1, 2, 3, 4] rfl)

set_option maxHeartbeats 4000000 in
set_option maxRecDepth 100000 in
theorem lw_case_10 {p : Program} {l : Launch} {e : Env} {s : State} {m : MethodId} {below : List Frame} {meth : Method} {c : Code} {dC : Nat → ClassId} {dI : Nat → Nat → Nat} {b L : Nat} {xs : Nat → Int32} (C0 : lw_At p s m meth c b L xs) (ts ks kv : Nat → Nat) (sa : Nat) (hE : q_S ts ks kv (fun q : Nat => s.heap.size ≤ q) s) (hEX : q_X sa s) (hlt : l.stackTraces = false) {a : Nat → Nat} {k : Nat → ClassId} {bm : Nat → Nat} {km : Nat → ClassId} {q3 : Nat} {k3 : ClassId} {j : Nat} (hj : 6 * j + 6 ≤ L) (hL : L ≤ 3072) {z : Nat → Int32} (hz : ∀ q, z q = xs (6 * j + q)) {x y : XS} {p1 p2 : Int32 × XS} (h1 : SX_10 x z = some p1) (h2 : SY_10 y z = some p2) {fo : Nat → Int64} {H : Heap} {locs : List Loc} {ls : Array Slot} (hK : va_K (dC, dI) vwCl (lw_T k km k3) s) (hP : va_P (dC, dI) vwCl (lw_W a k bm km q3 k3 x y fo) H) (hD : va_D (fun q : Nat => s.heap.size ≤ q) (lw_W a k bm km q3 k3 x y fo)) (hS : va_S (fun q : Nat => s.heap.size ≤ q) s.heap H locs) (hl : lv_has ls 7 [(4, .int (nI (6 * j))), (3, .ref q3), (2, .ref (bm 0)), (1, .ref (a 0)), (0, .ref b)]) (kont : ∀ (fo : Nat → Int64) (H : Heap) (locs : List Loc) (ls : Array Slot), va_P (dC, dI) vwCl (lw_W a k bm km q3 k3 p1.2 p2.2 fo) H → va_D (fun q : Nat => s.heap.size ≤ q) (lw_W a k bm km q3 k3 p1.2 p2.2 fo) → va_S (fun q : Nat => s.heap.size ≤ q) s.heap H locs → lv_has ls 7 [(4, .int (nI (6 * j))), (3, .ref q3), (2, .ref (bm 0)), (1, .ref (a 0)), (0, .ref b)] → W p l e room_1 s m #[Value.ref b] below meth c H locs (45 + j + 1) (18169 + 6 * j + 6) (lw_Z below #[Value.ref b] s) (F0 m 1344 ls [])) : W p l e room_1 s m #[Value.ref b] below meth c H locs (45 + j) (18169 + 6 * j) (lw_Z below #[Value.ref b] s) (F0 m 565 ls []) := by
  obtain ⟨hx, hb, hr, hml, hown, hts, hX, hbl, hlocks, hgv⟩ := C0
  have hown : s.vm.findClass RL = some m.cls := hown
  have hA : ∀ q : Nat, s.heap.size ≤ q → (fun q : Nat => s.heap.size ≤ q) q := fun _ h => h
  have hbA : ¬ (fun q : Nat => s.heap.size ≤ q) b := Nat.not_le.mpr hbl
  unfold SX_10 at h1
  unfold SY_10 at h2
  obtain ⟨o1, hF1, h1⟩ := q_bi h1
  have hp1 := Option.some.inj h1
  obtain ⟨o2, hF2, h2⟩ := q_bi h2
  have hp2 := Option.some.inj h2
  refine lv_aload_n hx hb dL_law_565 rfl (lv_at hl 3 rfl) ?_
  refine lv_aload_n hx hb dL_law_566 rfl (lv_at hl 4 rfl) ?_
  refine lv_iload hx hb dL_law_567 (lv_at hl 0 rfl) ?_
  refine lv_iconst (v := 1) hx hb dL_law_569 (by decide) ?_
  refine lv_iadd hx hb dL_law_570 ?_
  refine q_top (y := nI (6 * j + 1)) (nI_add (6 * j) 1) ?_
  refine va_sld hx hb hX hbl hbA hS (i := (nI (6 * j + 1))) (vp_in_nI (by omega) (by omega)) dL_law_571 ?_
  refine q_top (y := z 1) (by rw [nI_clamp (by omega), hz]) ?_
  refine q_goi (v := o1) (va_runV (As := [.int (z 1)]) (rest := []) ⟨hx, hb, hml, hown, hts⟩ (c_X9_at l dC dI a k (x.2.1 4) (x.2.1 11) (x.1 8) (x.1 9) (x.1 15) (z 1) o1 hF1) (cwV 1 hts (q_lV m_693 m_694 m_695 m_2 m_696) rfl rfl rfl hdV_yX9_at_1 ⟨Nat.le_of_ble_eq_true rfl, Nat.le_of_ble_eq_true rfl⟩) (q_preV hK hP (q := (RX9, TX9, 15)) (ci := 9) (q0 := 0) rfl rfl [0, 14, 15, 7, 8, 9] rfl [8, 3, 4] rfl) rfl rfl hl.1 rfl (lv_room (Nat.le_of_ble_eq_true rfl)) dL_law_572 ⟨by show 45 + j + 0 ≤ 1070; omega, by show 18169 + 6 * j + 0 ≤ 26367; omega⟩) hP hS (fun H locs hP hS => ?_)
  have hP : va_P (dC, dI) vwCl (lw_W a k bm km q3 k3 p1.2 y fo) H := by rw [← hp1]; exact hP
  have hD : va_D (fun q : Nat => s.heap.size ≤ q) (lw_W a k bm km q3 k3 p1.2 y fo) := by rw [← hp1]; exact hD
  refine lv_pop hx hb dL_law_575 rfl ?_
  refine lv_aload_n hx hb dL_law_576 rfl (lv_at hl 2 rfl) ?_
  refine lv_aload_n hx hb dL_law_577 rfl (lv_at hl 4 rfl) ?_
  refine lv_iload hx hb dL_law_578 (lv_at hl 0 rfl) ?_
  refine lv_iconst (v := 1) hx hb dL_law_580 (by decide) ?_
  refine lv_iadd hx hb dL_law_581 ?_
  refine q_top (y := nI (6 * j + 1)) (nI_add (6 * j) 1) ?_
  refine va_sld hx hb hX hbl hbA hS (i := (nI (6 * j + 1))) (vp_in_nI (by omega) (by omega)) dL_law_582 ?_
  refine q_top (y := z 1) (by rw [nI_clamp (by omega), hz]) ?_
  refine q_goi (v := o2) (va_runV (As := [.int (z 1)]) (rest := []) ⟨hx, hb, hml, hown, hts⟩ (c_X10_at l dC dI bm km (y.2.1 0) (y.2.1 1) (y.2.1 2) (y.2.1 3) (y.2.1 4) (y.2.1 5) (y.2.1 6) (y.2.1 7) (y.2.1 8) (y.2.2) (y.1 8) (z 1) o2 hF2) (cwV 1 hts (q_lV m_701 m_702 m_703 m_5 m_704) rfl rfl rfl hdV_yX10_at_1 ⟨Nat.le_of_ble_eq_true rfl, Nat.le_of_ble_eq_true rfl⟩) (q_preV hK hP (q := (RX10, TX10, 24)) (ci := 10) (q0 := 29) rfl rfl [29, 37] rfl [22] rfl) rfl rfl hl.1 rfl (lv_room (Nat.le_of_ble_eq_true rfl)) dL_law_583 ⟨by show 45 + j + 0 ≤ 1070; omega, by show 18169 + 6 * j + 0 ≤ 26367; omega⟩) hP hS (fun H locs hP hS => ?_)
  have hP : va_P (dC, dI) vwCl (lw_W a k bm km q3 k3 p1.2 p2.2 fo) H := by rw [← hp2]; exact hP
  have hD : va_D (fun q : Nat => s.heap.size ≤ q) (lw_W a k bm km q3 k3 p1.2 p2.2 fo) := by rw [← hp2]; exact hD
  refine lv_pop hx hb dL_law_586 rfl ?_
  refine lv_goto (tgt := 1344) hx hb dL_law_587 (by decide) ?_
  refine W.widen (k := 45 + j + 1) (n := 18169 + 6 * j + 6) (by omega) (by omega) ?_
  exact kont _ H locs ls hP hD hS (lv_sub hl [0, 1, 2, 3, 4] rfl)

set_option maxHeartbeats 4000000 in
set_option maxRecDepth 100000 in
theorem lw_case_11 {p : Program} {l : Launch} {e : Env} {s : State} {m : MethodId} {below : List Frame} {meth : Method} {c : Code} {dC : Nat → ClassId} {dI : Nat → Nat → Nat} {b L : Nat} {xs : Nat → Int32} (C0 : lw_At p s m meth c b L xs) (ts ks kv : Nat → Nat) (sa : Nat) (hE : q_S ts ks kv (fun q : Nat => s.heap.size ≤ q) s) (hEX : q_X sa s) (hlt : l.stackTraces = false) {a : Nat → Nat} {k : Nat → ClassId} {bm : Nat → Nat} {km : Nat → ClassId} {q3 : Nat} {k3 : ClassId} {j : Nat} (hj : 6 * j + 6 ≤ L) (hL : L ≤ 3072) {z : Nat → Int32} (hz : ∀ q, z q = xs (6 * j + q)) {x y : XS} {p1 p2 : Int32 × XS} (h1 : SX_11 x z = some p1) (h2 : SY_11 y z = some p2) {fo : Nat → Int64} {H : Heap} {locs : List Loc} {ls : Array Slot} (hK : va_K (dC, dI) vwCl (lw_T k km k3) s) (hP : va_P (dC, dI) vwCl (lw_W a k bm km q3 k3 x y fo) H) (hD : va_D (fun q : Nat => s.heap.size ≤ q) (lw_W a k bm km q3 k3 x y fo)) (hS : va_S (fun q : Nat => s.heap.size ≤ q) s.heap H locs) (hl : lv_has ls 7 [(4, .int (nI (6 * j))), (3, .ref q3), (2, .ref (bm 0)), (1, .ref (a 0)), (0, .ref b)]) (kont : ∀ (fo : Nat → Int64) (H : Heap) (locs : List Loc) (ls : Array Slot), va_P (dC, dI) vwCl (lw_W a k bm km q3 k3 p1.2 p2.2 fo) H → va_D (fun q : Nat => s.heap.size ≤ q) (lw_W a k bm km q3 k3 p1.2 p2.2 fo) → va_S (fun q : Nat => s.heap.size ≤ q) s.heap H locs → lv_has ls 7 [(4, .int (nI (6 * j))), (3, .ref q3), (2, .ref (bm 0)), (1, .ref (a 0)), (0, .ref b)] → W p l e room_1 s m #[Value.ref b] below meth c H locs (45 + j + 1) (18169 + 6 * j + 6) (lw_Z below #[Value.ref b] s) (F0 m 1344 ls [])) : W p l e room_1 s m #[Value.ref b] below meth c H locs (45 + j) (18169 + 6 * j) (lw_Z below #[Value.ref b] s) (F0 m 590 ls []) := by
  obtain ⟨hx, hb, hr, hml, hown, hts, hX, hbl, hlocks, hgv⟩ := C0
  have hown : s.vm.findClass RL = some m.cls := hown
  have hA : ∀ q : Nat, s.heap.size ≤ q → (fun q : Nat => s.heap.size ≤ q) q := fun _ h => h
  have hbA : ¬ (fun q : Nat => s.heap.size ≤ q) b := Nat.not_le.mpr hbl
  unfold SX_11 at h1
  unfold SY_11 at h2
  obtain ⟨o1, hF1, h1⟩ := q_bi h1
  have hp1 := Option.some.inj h1
  obtain ⟨o2, hF2, h2⟩ := q_bi h2
  have hp2 := Option.some.inj h2
  refine lv_aload_n hx hb dL_law_590 rfl (lv_at hl 3 rfl) ?_
  refine lv_aload_n hx hb dL_law_591 rfl (lv_at hl 4 rfl) ?_
  refine lv_iload hx hb dL_law_592 (lv_at hl 0 rfl) ?_
  refine lv_iconst (v := 1) hx hb dL_law_594 (by decide) ?_
  refine lv_iadd hx hb dL_law_595 ?_
  refine q_top (y := nI (6 * j + 1)) (nI_add (6 * j) 1) ?_
  refine va_sld hx hb hX hbl hbA hS (i := (nI (6 * j + 1))) (vp_in_nI (by omega) (by omega)) dL_law_596 ?_
  refine q_top (y := z 1) (by rw [nI_clamp (by omega), hz]) ?_
  refine q_goi (v := o1) (va_runV (As := [.int (z 1)]) (rest := []) ⟨hx, hb, hml, hown, hts⟩ (c_X9_helper l dC dI a k (x.2.1 4) (x.2.1 11) (x.1 8) (x.1 9) (x.1 15) (z 1) o1 hF1) (cwV 1 hts (q_lV m_709 m_710 m_711 m_2 m_712) rfl rfl rfl hdV_yX9_helper_1 ⟨Nat.le_of_ble_eq_true rfl, Nat.le_of_ble_eq_true rfl⟩) (q_preV hK hP (q := (RX9, TX9, 15)) (ci := 9) (q0 := 0) rfl rfl [0, 14, 15, 7, 8, 9] rfl [8, 3, 4] rfl) rfl rfl hl.1 rfl (lv_room (Nat.le_of_ble_eq_true rfl)) dL_law_597 ⟨by show 45 + j + 0 ≤ 1070; omega, by show 18169 + 6 * j + 0 ≤ 26367; omega⟩) hP hS (fun H locs hP hS => ?_)
  have hP : va_P (dC, dI) vwCl (lw_W a k bm km q3 k3 p1.2 y fo) H := by rw [← hp1]; exact hP
  have hD : va_D (fun q : Nat => s.heap.size ≤ q) (lw_W a k bm km q3 k3 p1.2 y fo) := by rw [← hp1]; exact hD
  refine lv_pop hx hb dL_law_600 rfl ?_
  refine lv_aload_n hx hb dL_law_601 rfl (lv_at hl 2 rfl) ?_
  refine lv_aload_n hx hb dL_law_602 rfl (lv_at hl 4 rfl) ?_
  refine lv_iload hx hb dL_law_603 (lv_at hl 0 rfl) ?_
  refine lv_iconst (v := 1) hx hb dL_law_605 (by decide) ?_
  refine lv_iadd hx hb dL_law_606 ?_
  refine q_top (y := nI (6 * j + 1)) (nI_add (6 * j) 1) ?_
  refine va_sld hx hb hX hbl hbA hS (i := (nI (6 * j + 1))) (vp_in_nI (by omega) (by omega)) dL_law_607 ?_
  refine q_top (y := z 1) (by rw [nI_clamp (by omega), hz]) ?_
  refine q_goi (v := o2) (va_runV (As := [.int (z 1)]) (rest := []) ⟨hx, hb, hml, hown, hts⟩ (c_X10_helper l dC dI bm km (y.2.1 0) (y.2.1 1) (y.2.1 2) (y.2.1 3) (y.2.1 4) (y.2.1 5) (y.2.1 6) (y.2.1 7) (y.2.1 8) (y.2.2) (y.1 8) (z 1) o2 hF2) (cwV 1 hts (q_lV m_714 m_715 m_716 m_5 m_717) rfl rfl rfl hdV_yX10_helper_1 ⟨Nat.le_of_ble_eq_true rfl, Nat.le_of_ble_eq_true rfl⟩) (q_preV hK hP (q := (RX10, TX10, 24)) (ci := 10) (q0 := 29) rfl rfl [29, 37] rfl [22] rfl) rfl rfl hl.1 rfl (lv_room (Nat.le_of_ble_eq_true rfl)) dL_law_608 ⟨by show 45 + j + 0 ≤ 1070; omega, by show 18169 + 6 * j + 0 ≤ 26367; omega⟩) hP hS (fun H locs hP hS => ?_)
  have hP : va_P (dC, dI) vwCl (lw_W a k bm km q3 k3 p1.2 p2.2 fo) H := by rw [← hp2]; exact hP
  have hD : va_D (fun q : Nat => s.heap.size ≤ q) (lw_W a k bm km q3 k3 p1.2 p2.2 fo) := by rw [← hp2]; exact hD
  refine lv_pop hx hb dL_law_611 rfl ?_
  refine lv_goto (tgt := 1344) hx hb dL_law_612 (by decide) ?_
  refine W.widen (k := 45 + j + 1) (n := 18169 + 6 * j + 6) (by omega) (by omega) ?_
  exact kont _ H locs ls hP hD hS (lv_sub hl [0, 1, 2, 3, 4] rfl)

set_option maxHeartbeats 4000000 in
set_option maxRecDepth 100000 in
theorem lw_case_12 {p : Program} {l : Launch} {e : Env} {s : State} {m : MethodId} {below : List Frame} {meth : Method} {c : Code} {dC : Nat → ClassId} {dI : Nat → Nat → Nat} {b L : Nat} {xs : Nat → Int32} (C0 : lw_At p s m meth c b L xs) (ts ks kv : Nat → Nat) (sa : Nat) (hE : q_S ts ks kv (fun q : Nat => s.heap.size ≤ q) s) (hEX : q_X sa s) (hlt : l.stackTraces = false) {a : Nat → Nat} {k : Nat → ClassId} {bm : Nat → Nat} {km : Nat → ClassId} {q3 : Nat} {k3 : ClassId} {j : Nat} (hj : 6 * j + 6 ≤ L) (hL : L ≤ 3072) {z : Nat → Int32} (hz : ∀ q, z q = xs (6 * j + q)) {x y : XS} {p1 p2 : Int32 × XS} (h1 : SX_12 x z = some p1) (h2 : SY_12 y z = some p2) {fo : Nat → Int64} {H : Heap} {locs : List Loc} {ls : Array Slot} (hK : va_K (dC, dI) vwCl (lw_T k km k3) s) (hP : va_P (dC, dI) vwCl (lw_W a k bm km q3 k3 x y fo) H) (hD : va_D (fun q : Nat => s.heap.size ≤ q) (lw_W a k bm km q3 k3 x y fo)) (hS : va_S (fun q : Nat => s.heap.size ≤ q) s.heap H locs) (hl : lv_has ls 7 [(4, .int (nI (6 * j))), (3, .ref q3), (2, .ref (bm 0)), (1, .ref (a 0)), (0, .ref b)]) (kont : ∀ (fo : Nat → Int64) (H : Heap) (locs : List Loc) (ls : Array Slot), va_P (dC, dI) vwCl (lw_W a k bm km q3 k3 p1.2 p2.2 fo) H → va_D (fun q : Nat => s.heap.size ≤ q) (lw_W a k bm km q3 k3 p1.2 p2.2 fo) → va_S (fun q : Nat => s.heap.size ≤ q) s.heap H locs → lv_has ls 7 [(4, .int (nI (6 * j))), (3, .ref q3), (2, .ref (bm 0)), (1, .ref (a 0)), (0, .ref b)] → W p l e room_1 s m #[Value.ref b] below meth c H locs (45 + j + 1) (18169 + 6 * j + 6) (lw_Z below #[Value.ref b] s) (F0 m 1344 ls [])) : W p l e room_1 s m #[Value.ref b] below meth c H locs (45 + j) (18169 + 6 * j) (lw_Z below #[Value.ref b] s) (F0 m 615 ls []) := by
  obtain ⟨hx, hb, hr, hml, hown, hts, hX, hbl, hlocks, hgv⟩ := C0
  have hown : s.vm.findClass RL = some m.cls := hown
  have hA : ∀ q : Nat, s.heap.size ≤ q → (fun q : Nat => s.heap.size ≤ q) q := fun _ h => h
  have hbA : ¬ (fun q : Nat => s.heap.size ≤ q) b := Nat.not_le.mpr hbl
  unfold SX_12 at h1
  unfold SY_12 at h2
  obtain ⟨o1, hF1, h1⟩ := q_bi h1
  have hp1 := Option.some.inj h1
  obtain ⟨o2, hF2, h2⟩ := q_bi h2
  have hp2 := Option.some.inj h2
  refine lv_aload_n hx hb dL_law_615 rfl (lv_at hl 3 rfl) ?_
  refine lv_aload_n hx hb dL_law_616 rfl (lv_at hl 4 rfl) ?_
  refine lv_iload hx hb dL_law_617 (lv_at hl 0 rfl) ?_
  refine lv_iconst (v := 1) hx hb dL_law_619 (by decide) ?_
  refine lv_iadd hx hb dL_law_620 ?_
  refine q_top (y := nI (6 * j + 1)) (nI_add (6 * j) 1) ?_
  refine va_sld hx hb hX hbl hbA hS (i := (nI (6 * j + 1))) (vp_in_nI (by omega) (by omega)) dL_law_621 ?_
  refine q_top (y := z 1) (by rw [nI_clamp (by omega), hz]) ?_
  refine lv_aload_n hx hb dL_law_622 rfl (lv_at hl 4 rfl) ?_
  refine lv_iload hx hb dL_law_623 (lv_at hl 0 rfl) ?_
  refine lv_iconst (v := 2) hx hb dL_law_625 (by decide) ?_
  refine lv_iadd hx hb dL_law_626 ?_
  refine q_top (y := nI (6 * j + 2)) (nI_add (6 * j) 2) ?_
  refine va_sld hx hb hX hbl hbA hS (i := (nI (6 * j + 2))) (vp_in_nI (by omega) (by omega)) dL_law_627 ?_
  refine q_top (y := z 2) (by rw [nI_clamp (by omega), hz]) ?_
  refine lv_aload_n hx hb dL_law_628 rfl (lv_at hl 4 rfl) ?_
  refine lv_iload hx hb dL_law_629 (lv_at hl 0 rfl) ?_
  refine lv_iconst (v := 3) hx hb dL_law_631 (by decide) ?_
  refine lv_iadd hx hb dL_law_632 ?_
  refine q_top (y := nI (6 * j + 3)) (nI_add (6 * j) 3) ?_
  refine va_sld hx hb hX hbl hbA hS (i := (nI (6 * j + 3))) (vp_in_nI (by omega) (by omega)) dL_law_633 ?_
  refine q_top (y := z 3) (by rw [nI_clamp (by omega), hz]) ?_
  have qxa2 : p1.2.1 2 = x.1 2 := by rw [← hp1]; try rfl
  have qxa5 : p1.2.1 5 = x.1 5 := by rw [← hp1]; try rfl
  have qxa6 : p1.2.1 6 = x.1 6 := by rw [← hp1]; try rfl
  have qxa8 : p1.2.1 8 = x.1 8 := by rw [← hp1]; try rfl
  have qxa9 : p1.2.1 9 = x.1 9 := by rw [← hp1]; try rfl
  have qxa11 : p1.2.1 11 = x.1 11 := by rw [← hp1]; try rfl
  have qxa12 : p1.2.1 12 = x.1 12 := by rw [← hp1]; try rfl
  have qxa13 : p1.2.1 13 = x.1 13 := by rw [← hp1]; try rfl
  have qxa15 : p1.2.1 15 = o1.2.2.2.2.1 := by rw [← hp1]; try rfl
  have qxa17 : p1.2.1 17 = x.1 17 := by rw [← hp1]; try rfl
  have qxa20 : p1.2.1 20 = o1.2.2.2.2.2.1 := by rw [← hp1]; try rfl
  have qxa22 : p1.2.1 22 = o1.2.2.2.2.2.2.1 := by rw [← hp1]; try rfl
  have qxa24 : p1.2.1 24 = x.1 24 := by rw [← hp1]; try rfl
  have qxa26 : p1.2.1 26 = x.1 26 := by rw [← hp1]; try rfl
  have qxa28 : p1.2.1 28 = o1.2.2.2.2.2.2.2 := by rw [← hp1]; try rfl
  have qxi0 : p1.2.2.1 0 = x.2.1 0 := by rw [← hp1]; try rfl
  have qxi1 : p1.2.2.1 1 = x.2.1 1 := by rw [← hp1]; try rfl
  have qxi2 : p1.2.2.1 2 = x.2.1 2 := by rw [← hp1]; try rfl
  have qxi3 : p1.2.2.1 3 = x.2.1 3 := by rw [← hp1]; try rfl
  have qxi4 : p1.2.2.1 4 = x.2.1 4 := by rw [← hp1]; try rfl
  have qxi5 : p1.2.2.1 5 = x.2.1 5 := by rw [← hp1]; try rfl
  have qxi6 : p1.2.2.1 6 = x.2.1 6 := by rw [← hp1]; try rfl
  have qxi7 : p1.2.2.1 7 = o1.2.1 := by rw [← hp1]; try rfl
  have qxi8 : p1.2.2.1 8 = o1.2.2.1 := by rw [← hp1]; try rfl
  have qxi9 : p1.2.2.1 9 = o1.2.2.2.1 := by rw [← hp1]; try rfl
  have qxi10 : p1.2.2.1 10 = x.2.1 10 := by rw [← hp1]; try rfl
  have qxi11 : p1.2.2.1 11 = x.2.1 11 := by rw [← hp1]; try rfl
  have qxl : p1.2.2.2 = x.2.2 := by rw [← hp1]; try rfl
  refine q_goi5 (v := o1.1) (lw_W a k bm km q3 k3 p1.2 y fo) [some 0, none, none, none, none, none, none, some 3, some 4, some 5, none, none, none, none, some 1, some 2, none, none, none, some 6, some 7, some 8, some 9, none, none, none, none, none, some 10, none, none, none, none, none, none, none, none, none, none, none, none, none, none, none, none] (va_runV (As := [.int (z 1), .int (z 2), .int (z 3)]) (rest := []) ⟨hx, hb, hml, hown, hts⟩ (c_X9_plug l dC dI a k (x.2.1 4) (x.2.1 7) (x.2.1 8) (x.2.1 9) (x.2.1 11) (x.1 8) (x.1 9) (x.1 15) (x.1 20) (x.1 22) (x.1 28) (z 1) (z 2) (z 3) (va_A [((a 0), .inr (9, [.ref (a 1), .ref (a 3), .ref (a 4), .ref (a 7), .ref (a 10), .ref (a 14), .ref (a 16), .ref (a 18), .ref (a 19), .ref (a 21), .ref (a 23), .ref (a 25), .ref (a 27), .ref (a 28), .int (x.2.1 11)])), ((a 14), .inr (0, [.ref (a 15), .ref (a 7)])), ((a 15), .inl ((k 15), 98, .inl (x.1 15))), ((a 7), .inr (5, [.ref (a 8), .ref (a 9), .int (x.2.1 4)])), ((a 8), .inl ((k 8), 8, .inl (x.1 8))), ((a 9), .inl ((k 9), 48, .inl (x.1 9))), ((a 19), .inr (4, [.ref (a 20), .int (x.2.1 7), .int (x.2.1 8)])), ((a 20), .inl ((k 20), 3920, .inl (x.1 20))), ((a 21), .inr (1, [.ref (a 22), .int (x.2.1 9)])), ((a 22), .inl ((k 22), 300, .inl (x.1 22))), ((a 28), .inl ((k 28), 4, .inl (x.1 28)))] H.size) o1 hF1) (cwV 3 hts (q_lV m_718 m_719 m_720 m_2 m_721) rfl rfl rfl hdV_yX9_plug_3 ⟨Nat.le_of_ble_eq_true rfl, Nat.le_of_ble_eq_true rfl⟩) (q_preWV hK hP hD (q := (RX9, TX9, 15)) (ci := 9) (q0 := 0) rfl rfl [0, 14, 15, 7, 8, 9, 19, 20, 21, 22, 28] (by decide) rfl rfl [8, 3, 4, 10, 11, 14] rfl) rfl rfl hl.1 rfl (lv_room (Nat.le_of_ble_eq_true rfl)) dL_law_634 ⟨by show 45 + j + 0 ≤ 1070; omega, by show 18169 + 6 * j + 0 ≤ 26367; omega⟩) hP hD hS hA [0, 14, 15, 7, 8, 9, 19, 20, 21, 22, 28] rfl (by unfold lw_W; simp only [qxa2, qxa5, qxa6, qxa8, qxa9, qxa11, qxa12, qxa13, qxa15, qxa17, qxa20, qxa22, qxa24, qxa26, qxa28, qxi0, qxi1, qxi2, qxi3, qxi4, qxi5, qxi6, qxi7, qxi8, qxi9, qxi10, qxi11, qxl]; rfl) rfl (by decide) (fun H locs hP hD hS => ?_)
  refine lv_pop hx hb dL_law_637 rfl ?_
  refine lv_aload_n hx hb dL_law_638 rfl (lv_at hl 2 rfl) ?_
  refine lv_aload_n hx hb dL_law_639 rfl (lv_at hl 4 rfl) ?_
  refine lv_iload hx hb dL_law_640 (lv_at hl 0 rfl) ?_
  refine lv_iconst (v := 1) hx hb dL_law_642 (by decide) ?_
  refine lv_iadd hx hb dL_law_643 ?_
  refine q_top (y := nI (6 * j + 1)) (nI_add (6 * j) 1) ?_
  refine va_sld hx hb hX hbl hbA hS (i := (nI (6 * j + 1))) (vp_in_nI (by omega) (by omega)) dL_law_644 ?_
  refine q_top (y := z 1) (by rw [nI_clamp (by omega), hz]) ?_
  refine lv_aload_n hx hb dL_law_645 rfl (lv_at hl 4 rfl) ?_
  refine lv_iload hx hb dL_law_646 (lv_at hl 0 rfl) ?_
  refine lv_iconst (v := 2) hx hb dL_law_648 (by decide) ?_
  refine lv_iadd hx hb dL_law_649 ?_
  refine q_top (y := nI (6 * j + 2)) (nI_add (6 * j) 2) ?_
  refine va_sld hx hb hX hbl hbA hS (i := (nI (6 * j + 2))) (vp_in_nI (by omega) (by omega)) dL_law_650 ?_
  refine q_top (y := z 2) (by rw [nI_clamp (by omega), hz]) ?_
  refine lv_aload_n hx hb dL_law_651 rfl (lv_at hl 4 rfl) ?_
  refine lv_iload hx hb dL_law_652 (lv_at hl 0 rfl) ?_
  refine lv_iconst (v := 3) hx hb dL_law_654 (by decide) ?_
  refine lv_iadd hx hb dL_law_655 ?_
  refine q_top (y := nI (6 * j + 3)) (nI_add (6 * j) 3) ?_
  refine va_sld hx hb hX hbl hbA hS (i := (nI (6 * j + 3))) (vp_in_nI (by omega) (by omega)) dL_law_656 ?_
  refine q_top (y := z 3) (by rw [nI_clamp (by omega), hz]) ?_
  have qya1 : p2.2.1 1 = y.1 1 := by rw [← hp2]; try rfl
  have qya2 : p2.2.1 2 = y.1 2 := by rw [← hp2]; try rfl
  have qya3 : p2.2.1 3 = y.1 3 := by rw [← hp2]; try rfl
  have qya4 : p2.2.1 4 = y.1 4 := by rw [← hp2]; try rfl
  have qya5 : p2.2.1 5 = y.1 5 := by rw [← hp2]; try rfl
  have qya6 : p2.2.1 6 = y.1 6 := by rw [← hp2]; try rfl
  have qya7 : p2.2.1 7 = y.1 7 := by rw [← hp2]; try rfl
  have qya8 : p2.2.1 8 = o2.2.2.1 := by rw [← hp2]; try rfl
  have qya9 : p2.2.1 9 = o2.2.2.2.1 := by rw [← hp2]; try rfl
  have qya10 : p2.2.1 10 = o2.2.2.2.2 := by rw [← hp2]; try rfl
  have qya11 : p2.2.1 11 = y.1 11 := by rw [← hp2]; try rfl
  have qya12 : p2.2.1 12 = y.1 12 := by rw [← hp2]; try rfl
  have qya13 : p2.2.1 13 = y.1 13 := by rw [← hp2]; try rfl
  have qya14 : p2.2.1 14 = y.1 14 := by rw [← hp2]; try rfl
  have qyi0 : p2.2.2.1 0 = y.2.1 0 := by rw [← hp2]; try rfl
  have qyi1 : p2.2.2.1 1 = y.2.1 1 := by rw [← hp2]; try rfl
  have qyi2 : p2.2.2.1 2 = y.2.1 2 := by rw [← hp2]; try rfl
  have qyi3 : p2.2.2.1 3 = y.2.1 3 := by rw [← hp2]; try rfl
  have qyi4 : p2.2.2.1 4 = y.2.1 4 := by rw [← hp2]; try rfl
  have qyi5 : p2.2.2.1 5 = y.2.1 5 := by rw [← hp2]; try rfl
  have qyi6 : p2.2.2.1 6 = y.2.1 6 := by rw [← hp2]; try rfl
  have qyi7 : p2.2.2.1 7 = o2.2.1 := by rw [← hp2]; try rfl
  have qyi8 : p2.2.2.1 8 = y.2.1 8 := by rw [← hp2]; try rfl
  have qyl : p2.2.2.2 = y.2.2 := by rw [← hp2]; try rfl
  refine q_goi5 (v := o2.1) (lw_W a k bm km q3 k3 p1.2 p2.2 fo) [none, none, none, none, none, none, none, none, none, none, none, none, none, none, none, none, none, none, none, none, none, none, none, none, none, none, none, none, none, some 0, none, none, none, some 1, some 2, none, none, some 3, some 4, some 5, none, none, none, none, none] (va_runV (As := [.int (z 1), .int (z 2), .int (z 3)]) (rest := []) ⟨hx, hb, hml, hown, hts⟩ (c_X10_plug l dC dI bm km (y.2.1 0) (y.2.1 1) (y.2.1 2) (y.2.1 3) (y.2.1 4) (y.2.1 5) (y.2.1 6) (y.2.1 7) (y.2.1 8) (y.2.2) (y.1 4) (y.1 5) (y.1 8) (y.1 9) (y.1 10) (z 1) (z 2) (z 3) (va_A [((bm 0), .inr (10, [.int (y.2.1 0), .ref (bm 1), .int (y.2.1 1), .int (y.2.1 2), .int (y.2.1 3), .ref (bm 2), .ref (bm 3), .int (y.2.1 4), .ref (bm 4), .ref (bm 5), .int (y.2.1 5), .ref (bm 6), .ref (bm 7), .int (y.2.1 6), .ref (bm 8), .ref (bm 9), .ref (bm 10), .int (y.2.1 7), .long (y.2.2), .ref (bm 11), .ref (bm 12), .ref (bm 13), .ref (bm 14), .int (y.2.1 8)])), ((bm 4), .inl ((km 4), 8, .inl (y.1 4))), ((bm 5), .inl ((km 5), 48, .inl (y.1 5))), ((bm 8), .inl ((km 8), 279, .inl (y.1 8))), ((bm 9), .inl ((km 9), 4, .inl (y.1 9))), ((bm 10), .inl ((km 10), 11160, .inl (y.1 10)))] H.size) o2 hF2) (cwV 3 hts (q_lV m_893 m_894 m_895 m_5 m_896) rfl rfl rfl hdV_yX10_plug_3 ⟨Nat.le_of_ble_eq_true rfl, Nat.le_of_ble_eq_true rfl⟩) (q_preWV hK hP hD (q := (RX10, TX10, 24)) (ci := 10) (q0 := 29) rfl rfl [29, 33, 34, 37, 38, 39] (by decide) rfl rfl [18, 19, 22, 23, 24] rfl) rfl rfl hl.1 rfl (lv_room (Nat.le_of_ble_eq_true rfl)) dL_law_657 ⟨by show 45 + j + 0 ≤ 1070; omega, by show 18169 + 6 * j + 0 ≤ 26367; omega⟩) hP hD hS hA [29, 33, 34, 37, 38, 39] rfl (by unfold lw_W; simp only [qya1, qya2, qya3, qya4, qya5, qya6, qya7, qya8, qya9, qya10, qya11, qya12, qya13, qya14, qyi0, qyi1, qyi2, qyi3, qyi4, qyi5, qyi6, qyi7, qyi8, qyl]; rfl) rfl (by decide) (fun H locs hP hD hS => ?_)
  refine lv_pop hx hb dL_law_660 rfl ?_
  refine lv_goto (tgt := 1344) hx hb dL_law_661 (by decide) ?_
  refine W.widen (k := 45 + j + 1) (n := 18169 + 6 * j + 6) (by omega) (by omega) ?_
  exact kont _ H locs ls hP hD hS (lv_sub hl [0, 1, 2, 3, 4] rfl)
